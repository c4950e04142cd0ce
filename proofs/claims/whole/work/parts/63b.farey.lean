/-! ## the row: neighbours, counting -/
theorem n_ce {t b x : Int} (hb : 1 ≤ b) : (t + b - 1) / b ≤ x ↔ t ≤ x * b := by
  have h := Int.ediv_lt_iff_lt_mul (a := t + b - 1) (b := x + 1) (c := b) (by omega)
  rw [Int.add_mul] at h
  constructor
  · intro q
    have := h.mp (by omega)
    omega
  · intro q
    have := h.mpr (by omega)
    omega
theorem n_ce_eq {t b t' b' : Int} (hb : 1 ≤ b) (hb' : 1 ≤ b') (h : ∀ x : Int, t ≤ x * b ↔ t' ≤ x * b') : (t + b - 1) / b = (t' + b' - 1) / b' := by
  have h1 := (n_ce (t := t) hb).mpr ((h ((t' + b' - 1) / b')).mpr ((n_ce hb').mp (Int.le_refl _)))
  have h2 := (n_ce (t := t') hb').mpr ((h ((t + b - 1) / b)).mp ((n_ce hb).mp (Int.le_refl _)))
  omega
/-- nothing with a small bottom lies between neighbours -/
theorem n_gap {T B T' B' x k : Int} (hB : 1 ≤ B) (hB' : 1 ≤ B') (hd : T' * B - T * B' = 1) (h1 : T * k < x * B) (h2 : x * B' < T' * k) : B + B' ≤ k := by
  have e : k = B * (T' * k - x * B') + B' * (x * B - T * k) := by
    have e1 : k * (T' * B - T * B') = k := by rw [hd, Int.mul_one]
    rw [Int.mul_sub] at e1
    rw [Int.mul_sub, Int.mul_sub]
    have a1 : B * (T' * k) = k * (T' * B) := by ac_rfl
    have a2 : B' * (T * k) = k * (T * B') := by ac_rfl
    have a3 : B * (x * B') = B' * (x * B) := by ac_rfl
    omega
  have m1 : B * 1 ≤ B * (T' * k - x * B') := Int.mul_le_mul_of_nonneg_left (by omega) (by omega)
  have m2 : B' * 1 ≤ B' * (x * B - T * k) := Int.mul_le_mul_of_nonneg_left (by omega) (by omega)
  omega
theorem n_step {T B T' B' : Int} {o k : Nat} (hT : 0 ≤ T) (hB : 1 ≤ B) (hB' : 1 ≤ B') (hd : T' * B - T * B' = 1) (ho : (o : Int) < B + B') (hk1 : 1 ≤ k) (hk : k ≤ o) : (T' * k + B' - 1) / B' = (T * k + B - 1) / B + (if k % B.toNat = 0 then 1 else 0) := by
  obtain ⟨b, rfl⟩ : ∃ b : Nat, B = b := ⟨B.toNat, by omega⟩
  rw [show ((b : Nat) : Int).toNat = b from rfl]
  by_cases c : k % b = 0
  · rw [if_pos c]
    obtain ⟨j, hj⟩ := Nat.dvd_of_mod_eq_zero c
    have hj1 : 1 ≤ j := by
      rcases Nat.eq_zero_or_pos j with h | h
      · rw [h, Nat.mul_zero] at hj; omega
      · exact h
    have ej : (k : Int) = (b : Int) * j := by rw [hj, Int.natCast_mul]
    have e1 : T' * (k : Int) = j + T * j * B' := by
      have a1 : T' * ((b : Int) * j) = (T' * b) * j := by ac_rfl
      have a2 : T * j * B' = (T * B') * j := by ac_rfl
      rw [ej, a1, a2, show T' * (b : Int) = 1 + T * B' by omega, Int.add_mul, Int.one_mul]
    have e2 : (T * (k : Int) + b - 1) / b = T * j := by
      have u1 := (n_ce (t := T * (k : Int)) (b := b) (x := T * j) hB).mpr (by rw [ej]; exact Int.le_of_eq (by ac_rfl))
      have u2 := (n_ce (t := T * (k : Int)) (b := b) (x := (T * (k : Int) + b - 1) / b) hB).mp (Int.le_refl _)
      have u3 : T * j * b ≤ (T * (k : Int) + b - 1) / b * b := by
        have : T * j * b = T * (k : Int) := by rw [ej]; ac_rfl
        omega
      have := Int.le_of_mul_le_mul_right u3 (by omega)
      omega
    have hjB : (j : Int) ≤ B' := by
      have m : (1 : Int) * (j - 1) ≤ b * (j - 1) := Int.mul_le_mul_of_nonneg_right hB (by omega)
      rw [Int.mul_sub (b : Int), ← ej] at m
      omega
    rw [e2]
    have v1 := (n_ce (t := T' * (k : Int)) (b := B') (x := T * j + 1) hB').mpr (by rw [e1, Int.add_mul]; omega)
    have v2 : ¬ ((T' * (k : Int) + B' - 1) / B' ≤ T * j) := fun q => by
      have := (n_ce (t := T' * (k : Int)) (b := B') (x := T * j) hB').mp q
      omega
    omega
  · rw [if_neg c, Int.add_zero]
    refine n_ce_eq hB' hB (fun x => ⟨fun q => ?_, fun q => ?_⟩)
    · have a1 : T * (k : Int) * B' < x * b * B' := by
        have b1 : T' * (k : Int) * b ≤ x * B' * b := Int.mul_le_mul_of_nonneg_right q (by omega)
        have b2 : T' * (k : Int) * b = (T' * b) * k := by ac_rfl
        have b3 : T * (k : Int) * B' = (T * B') * k := by ac_rfl
        have b4 : x * B' * b = x * b * B' := by ac_rfl
        rw [show T' * (b : Int) = 1 + T * B' by omega, Int.add_mul] at b2
        omega
      have := Int.lt_of_mul_lt_mul_right a1 (by omega)
      omega
    · rcases Int.lt_or_le (x * B') (T' * k) with h | h
      · exfalso
        rcases Int.lt_or_le (T * (k : Int)) (x * b) with h2 | h2
        · have := n_gap hB hB' hd h2 h
          omega
        · have e : T * (k : Int) = x * b := by omega
          have e1 : (k : Int) = b * (T' * k - x * B') := by
            have a0 : (k : Int) * (T' * b - T * B') = k := by rw [hd, Int.mul_one]
            rw [Int.mul_sub] at a0
            rw [Int.mul_sub]
            have a1 : (b : Int) * (T' * k) = k * (T' * b) := by ac_rfl
            have a2 : (b : Int) * (x * B') = (x * b) * B' := by ac_rfl
            have a3 : (k : Int) * (T * B') = (T * k) * B' := by ac_rfl
            rw [a2, ← e]
            omega
          have d : (b : Int) ∣ (k : Int) := ⟨_, e1⟩
          exact c (Nat.mod_eq_zero_of_dvd (Int.natCast_dvd_natCast.mp d))
      · exact h
/-- a row as far as n -/
def rP (T B : Int → Int) (n : Nat) (o : Nat) : Prop := 1 ≤ n ∧ 1 ≤ o ∧ T 0 = 0 ∧ B 0 = 1 ∧ (∀ i : Nat, i ≤ n → 0 ≤ T i ∧ T i ≤ B i ∧ 1 ≤ B i ∧ B i ≤ o) ∧ ∀ i : Nat, i < n → T (i + 1) * B i - T i * B (i + 1) = 1 ∧ (o : Int) < B i + B (i + 1)
def rC (B : Int → Int) (c : Nat) : Nat → Int
  | 0 => 0
  | n + 1 => rC B c n + (if B n ≤ c then 1 else 0)
theorem rP.pos {T B : Int → Int} {n o : Nat} (h : rP T B n o) : ∀ i : Nat, 1 ≤ i → i ≤ n → 1 ≤ T i := by
  obtain ⟨h1, h2, h3, h4, h5, h6⟩ := h
  intro i i1 i2
  obtain ⟨j, rfl⟩ : ∃ j, i = j + 1 := ⟨i - 1, by omega⟩
  have a := h6 j (by omega)
  have b := h5 j (by omega)
  have c := h5 (j + 1) i2
  rcases Int.lt_or_le 0 (T ((j + 1 : Nat) : Int)) with q | q
  · omega
  · have e : T ((j + 1 : Nat) : Int) = 0 := by omega
    have e' : T ((j : Int) + 1) = 0 := e
    have m := Int.mul_nonneg b.1 (show 0 ≤ B ((j : Int) + 1) by have : B ((j + 1 : Nat) : Int) = B ((j : Int) + 1) := rfl; omega)
    rw [e', Int.zero_mul] at a
    omega
theorem rP.count {T B : Int → Int} {n o : Nat} (h : rP T B n o) {c : Nat} (hc : 1 ≤ c ∧ c ≤ o) (ho : o ≤ 200) : ∀ i : Nat, i ≤ n → n_CU c (T i) (B i) = rC B c i := by
  have hpos := h.pos
  obtain ⟨h1, h2, h3, h4, h5, h6⟩ := h
  intro i
  induction i with
  | zero =>
    intro _
    unfold n_CU rC
    rw [if_pos (by show T 0 ≤ 0; omega)]
  | succ i ih =>
    intro hi
    have a := h6 i (by omega)
    have b := h5 i (by omega)
    have d : 0 ≤ T ((i : Int) + 1) ∧ T ((i : Int) + 1) ≤ B ((i : Int) + 1) ∧ 1 ≤ B ((i : Int) + 1) ∧ B ((i : Int) + 1) ≤ o := h5 (i + 1) hi
    have dp : 1 ≤ T ((i : Int) + 1) := hpos (i + 1) (by omega) hi
    show n_CU c (T ((i : Int) + 1)) (B ((i : Int) + 1)) = rC B c i + (if B i ≤ c then 1 else 0)
    by_cases z : i = 0
    · subst z
      rw [show T ((0 : Nat) : Int) = 0 from h3, show B ((0 : Nat) : Int) = 1 from h4] at a
      have e1 : T (((0 : Nat) : Int) + 1) = 1 := by omega
      have e2 : B (((0 : Nat) : Int) + 1) = o := by omega
      unfold n_CU
      rw [e1, e2, if_neg (by omega), n_S_zero c (fun k k1 k2 => ?_), show B ((0 : Nat) : Int) = 1 from h4, if_pos (by omega)]
      · rfl
      · have u := (n_ce (t := 1 * (k : Int)) (b := o) (x := 1) (by omega)).mpr (by omega)
        have v : ¬ ((1 * (k : Int) + o - 1) / o ≤ 0) := fun q => by
          have := (n_ce (t := 1 * (k : Int)) (b := o) (x := 0) (by omega)).mp q
          omega
        rw [show (1 * (k : Int) + o - 1) / o = 1 by omega]
        simp
    · have tp : 1 ≤ T i := hpos i (by omega) (by omega)
      rw [← ih (by omega)]
      unfold n_CU
      rw [if_neg (by omega), if_neg (by omega)]
      have e : n_S (fun k => ((T ((i : Int) + 1) * k + B ((i : Int) + 1) - 1) / B ((i : Int) + 1) - 1) * n_Mm (c / k)) c = n_S (fun k => ((T i * k + B i - 1) / B i - 1) * n_Mm (c / k) + (if k % (B i).toNat = 0 then n_Mm (c / k) else 0)) c := n_S_congr c (fun k k1 k2 => by
        rw [n_step (T := T i) (B := B i) (o := o) b.1 b.2.2.1 d.2.2.1 a.1 a.2 k1 (by omega)]
        by_cases q : k % (B i).toNat = 0
        · rw [if_pos q, if_pos q]
          generalize (T i * (k : Int) + B i - 1) / B i = w
          rw [show w + 1 - 1 = (w - 1) + 1 by omega, Int.add_mul, Int.one_mul]
        · rw [if_neg q, if_neg q, Int.add_zero, Int.add_zero])
      rw [e, n_S_add, n_S_mul (fun k => n_Mm (c / k)) (by omega)]
      have f : n_S (fun j => n_Mm (c / ((B i).toNat * j))) (c / (B i).toNat) = if B i ≤ c then 1 else 0 := by
        have e3 : n_S (fun j => n_Mm (c / ((B i).toNat * j))) (c / (B i).toNat) = n_S (fun j => n_Mm (c / (B i).toNat / j)) (c / (B i).toNat) := n_S_congr _ (fun j _ _ => by rw [Nat.div_div_eq_div_mul])
        rw [e3]
        by_cases q : B i ≤ c
        · rw [if_pos q]
          have q1 : 1 ≤ c / (B i).toNat := (Nat.le_div_iff_mul_le (by omega)).mpr (by omega)
          have q2 : c / (B i).toNat ≤ c := Nat.div_le_self _ _
          exact n_Mm_1 _ (by omega) q1
        · rw [if_neg q, Nat.div_eq_of_lt (by omega)]; rfl
      rw [f]; omega
theorem rC_all {T B : Int → Int} {n o : Nat} (h : rP T B n o) : ∀ i : Nat, i ≤ n → rC B o i = i := by
  obtain ⟨h1, h2, h3, h4, h5, h6⟩ := h
  intro i
  induction i with
  | zero => intro _; rfl
  | succ i ih =>
    intro hi
    unfold rC
    rw [ih (by omega), if_pos (h5 i (by omega)).2.2.2]; rfl
theorem n_CU_one {o : Nat} (ho : 1 ≤ o ∧ o ≤ 200) : n_CU o 1 1 = n_VO o - 1 := by
  rw [← (n_CU_11 o (by omega) ho.1).1]
  unfold n_CU
  rw [if_neg (by omega)]
  congr 1
  refine n_S_congr o (fun k _ _ => ?_)
  rw [Int.ediv_one]
  congr 1; omega
/-- the next in the row -/
theorem n_next {T0 B0 T1 B1 o : Int} (hb : 0 ≤ T0 ∧ T0 ≤ B0 ∧ 1 ≤ B0 ∧ B0 ≤ o) (hc : 0 ≤ T1 ∧ T1 < B1 ∧ B1 ≤ o) (hd : T1 * B0 - T0 * B1 = 1) (hs : o < B0 + B1) :
    let q := (o + B0) / B1
    (q * T1 - T0) * B1 - T1 * (q * B1 - B0) = 1 ∧ o < B1 + (q * B1 - B0) ∧ 1 ≤ q * T1 - T0 ∧ q * T1 - T0 ≤ q * B1 - B0 ∧ 1 ≤ q * B1 - B0 ∧ q * B1 - B0 ≤ o ∧ 1 ≤ q ∧ q ≤ 2 * o := by
  intro q
  have h1 := Int.mul_ediv_add_emod (o + B0) B1
  have h2 := Int.emod_nonneg (o + B0) (show B1 ≠ 0 by omega)
  have h3 := Int.emod_lt_of_pos (o + B0) (show 0 < B1 by omega)
  have hq : (o + B0) / B1 = q := rfl
  rw [hq, Int.mul_comm] at h1
  have e1 : (q * T1 - T0) * B1 - T1 * (q * B1 - B0) = 1 := by
    rw [Int.sub_mul, Int.mul_sub]
    have a1 : q * T1 * B1 = T1 * (q * B1) := by ac_rfl
    omega
  have q1 : 1 ≤ q := by
    rcases Int.lt_or_le 0 q with c | c
    · omega
    · have : q * B1 ≤ 0 * B1 := Int.mul_le_mul_of_nonneg_right c (by omega)
      omega
  have q2 : q ≤ 2 * o := by
    have : q * 1 ≤ q * B1 := Int.mul_le_mul_of_nonneg_left (by omega) (by omega)
    omega
  have b1 : 1 ≤ q * B1 - B0 := by omega
  have t1 : 1 ≤ q * T1 - T0 := by
    rcases Int.lt_or_le 0 (q * T1 - T0) with c | c
    · omega
    · have m1 : (q * T1 - T0) * B1 ≤ 0 * B1 := Int.mul_le_mul_of_nonneg_right c (by omega)
      have m2 := Int.mul_nonneg hc.1 (show 0 ≤ q * B1 - B0 by omega)
      omega
  have t2 : q * T1 - T0 ≤ q * B1 - B0 := by
    rcases Int.lt_or_le (q * B1 - B0) (q * T1 - T0) with c | c
    · exfalso
      have m1 : (q * B1 - B0 + 1) * B1 ≤ (q * T1 - T0) * B1 := Int.mul_le_mul_of_nonneg_right (by omega) (by omega)
      have m2 : T1 * (q * B1 - B0) ≤ (B1 - 1) * (q * B1 - B0) := Int.mul_le_mul_of_nonneg_right (by omega) (by omega)
      generalize q * B1 - B0 = w at *
      rw [Int.add_mul, Int.one_mul] at m1
      rw [Int.sub_mul, Int.one_mul, Int.mul_comm B1 w] at m2
      omega
    · exact c
  exact ⟨e1, by omega, t1, t2, b1, by omega, q1, q2⟩
/-- a row that has not come to 1 by 1 is short -/
theorem rP.short {o : Nat} (ho : 1 ≤ o ∧ o ≤ 200) : ∀ (m : Nat) (T B : Int → Int) (n : Nat), rP T B n o → (40000 * (B n - T n) / B n).toNat ≤ m → (n : Int) + (if T n = B n then 0 else 1) ≤ n_VO o - 1 := by
  intro m
  induction m with
  | zero =>
    intro T B n h hm
    have hb := h.2.2.2.2.1 n (by omega)
    by_cases c : T n = B n
    · rw [if_pos c]
      have e1 := h.count (c := o) (by omega) ho.2 n (by omega)
      rw [rC_all h n (by omega)] at e1
      have hn := h.1
      have e2 : B n = 1 := by
        obtain ⟨j, rfl⟩ : ∃ j, n = j + 1 := ⟨n - 1, by omega⟩
        have a : T (((j + 1 : Nat) : Int)) * B j - T j * B (((j + 1 : Nat) : Int)) = 1 := (h.2.2.2.2.2 j (by omega)).1
        rw [c, Int.mul_comm (T j), ← Int.mul_sub] at a
        exact Int.eq_one_of_mul_eq_one_right (by omega) a
      rw [c, e2, n_CU_one ho] at e1
      omega
    · exfalso
      have u1 : 40000 * (B n - T n) < 1 * B n := by
        have := Int.ediv_lt_iff_lt_mul (a := 40000 * (B n - T n)) (b := 1) (c := B n) (by omega)
        exact this.mp (by omega)
      omega
  | succ m ih =>
    intro T B n h hm
    have hb := h.2.2.2.2.1 n (by omega)
    by_cases c : T n = B n
    · rw [if_pos c]
      have e1 := h.count (c := o) (by omega) ho.2 n (by omega)
      rw [rC_all h n (by omega)] at e1
      have hn := h.1
      have e2 : B n = 1 := by
        obtain ⟨j, rfl⟩ : ∃ j, n = j + 1 := ⟨n - 1, by omega⟩
        have a : T (((j + 1 : Nat) : Int)) * B j - T j * B (((j + 1 : Nat) : Int)) = 1 := (h.2.2.2.2.2 j (by omega)).1
        rw [c, Int.mul_comm (T j), ← Int.mul_sub] at a
        exact Int.eq_one_of_mul_eq_one_right (by omega) a
      rw [c, e2, n_CU_one ho] at e1
      omega
    · rw [if_neg c]
      obtain ⟨j, rfl⟩ : ∃ j, n = j + 1 := ⟨n - 1, by have := h.1; omega⟩
      obtain ⟨h1, h2, h3, h4, h5, h6⟩ := h
      have a := h6 j (by omega)
      have bj := h5 j (by omega)
      have a1 : T ((j + 1 : Nat) : Int) * B j - T j * B ((j + 1 : Nat) : Int) = 1 := a.1
      have a2 : (o : Int) < B j + B ((j + 1 : Nat) : Int) := a.2
      obtain ⟨n1, n2, n3, n4, n5, n6, n7, n8⟩ := n_next (o := o) bj (T1 := T ((j + 1 : Nat) : Int)) (B1 := B ((j + 1 : Nat) : Int)) (by omega) a1 a2
      generalize ((o : Int) + B j) / B ((j + 1 : Nat) : Int) = q at *
      generalize hT' : q * T ((j + 1 : Nat) : Int) - T j = T' at *
      generalize hB' : q * B ((j + 1 : Nat) : Int) - B j = B' at *
      obtain ⟨Tn, t1, t2⟩ : ∃ Tn : Int → Int, Tn ((j + 1 + 1 : Nat) : Int) = T' ∧ ∀ i, i ≠ ((j + 1 + 1 : Nat) : Int) → Tn i = T i := ⟨fun i => if i = ((j + 1 + 1 : Nat) : Int) then T' else T i, if_pos rfl, fun i hi => if_neg hi⟩
      obtain ⟨Bn, b1, b2⟩ : ∃ Bn : Int → Int, Bn ((j + 1 + 1 : Nat) : Int) = B' ∧ ∀ i, i ≠ ((j + 1 + 1 : Nat) : Int) → Bn i = B i := ⟨fun i => if i = ((j + 1 + 1 : Nat) : Int) then B' else B i, if_pos rfl, fun i hi => if_neg hi⟩
      have h' : rP Tn Bn (j + 1 + 1) o := by
        refine ⟨by omega, h2, by rw [t2 _ (by omega)]; exact h3, by rw [b2 _ (by omega)]; exact h4, fun i hi => ?_, fun i hi => ?_⟩
        · by_cases ci : i = j + 1 + 1
          · subst ci
            rw [t1, b1]; omega
          · rw [t2 _ (by omega), b2 _ (by omega)]; exact h5 i (by omega)
        · by_cases ci : i = j + 1
          · subst ci
            rw [show ((j + 1 : Nat) : Int) + 1 = ((j + 1 + 1 : Nat) : Int) by omega, t1, b1, t2 _ (by omega), b2 _ (by omega)]
            exact ⟨n1, n2⟩
          · rw [t2 _ (by omega), b2 _ (by omega), t2 _ (by omega), b2 _ (by omega)]; exact h6 i (by omega)
      have := ih _ _ _ h' (by
        rw [t1, b1]
        generalize hT1 : T ((j + 1 : Nat) : Int) = T1 at *
        generalize hB1 : B ((j + 1 : Nat) : Int) = B1 at *
        have k0 : 0 ≤ 40000 * (B' - T') / B' := Int.ediv_nonneg (by omega) (by omega)
        have k1 : (40000 * (B' - T') / B' + 1) ≤ 40000 * (B1 - T1) / B1 := by
          rw [Int.le_ediv_iff_mul_le (by omega)]
          have l1 : 40000 * (B' - T') / B' * B' ≤ 40000 * (B' - T') := Int.ediv_mul_le _ (by omega)
          generalize 40000 * (B' - T') / B' = w at *
          have l2 : w * B' * B1 ≤ 40000 * (B' - T') * B1 := Int.mul_le_mul_of_nonneg_right l1 (by omega)
          have l3 : B1 * B' ≤ 40000 := by
            have : B1 * B' ≤ 200 * B' := Int.mul_le_mul_of_nonneg_right (by omega) (by omega)
            omega
          have l4 : (w + 1) * B1 * B' ≤ 40000 * (B1 - T1) * B' := by
            rw [Int.add_mul, Int.add_mul, Int.one_mul]
            have x1 : w * B1 * B' = w * B' * B1 := by ac_rfl
            have x2 : 40000 * (B' - T') * B1 = 40000 * (B' * B1) - 40000 * (T' * B1) := by rw [Int.mul_assoc, Int.sub_mul, Int.mul_sub]
            have x3 : 40000 * (B1 - T1) * B' = 40000 * (B' * B1) - 40000 * (T1 * B') := by rw [Int.mul_assoc, Int.sub_mul, Int.mul_sub, Int.mul_comm B1 B']
            omega
          exact Int.le_of_mul_le_mul_right l4 (by omega)
        omega)
      rw [t1, b1] at this
      split at this <;> omega

/-! ## the row itself, and places in it -/
theorem n_least {P : Nat → Prop} : ∀ m, P m → ∃ k, k ≤ m ∧ P k ∧ ∀ i, i < k → ¬ P i := by
  intro m
  induction m using Nat.strongRecOn with
  | ind m ih =>
    intro h
    by_cases c : ∃ i, i < m ∧ P i
    · obtain ⟨i, h1, h2⟩ := c
      obtain ⟨k, a, b, d⟩ := ih i h1 h2
      exact ⟨k, by omega, b, d⟩
    · exact ⟨m, Nat.le_refl m, h, fun i hi hp => c ⟨i, hi, hp⟩⟩
theorem n_nx {T B x y x' y' o : Int} (hB : 1 ≤ B) (h : x * B - T * y = 1) (h' : x' * B - T * y' = 1) (h1 : o < B + y) (h2 : y ≤ o) (h3 : o < B + y') (h4 : y' ≤ o) : x = x' ∧ y = y' := by
  have e : (x - x') * B = T * (y - y') := by rw [Int.sub_mul, Int.mul_sub]; omega
  -- B divides y - y'
  have d : B ∣ (y - y') := by
    refine ⟨x * (y - y') - y * (x - x'), ?_⟩
    have e1 : (y - y') * (x * B - T * y) = y - y' := by rw [h, Int.mul_one]
    rw [Int.mul_sub] at e1
    rw [Int.mul_sub]
    have a1 : B * (x * (y - y')) = (y - y') * (x * B) := by ac_rfl
    have a2 : B * (y * (x - x')) = y * ((x - x') * B) := by ac_rfl
    have a3 : y * (T * (y - y')) = (y - y') * (T * y) := by ac_rfl
    rw [a1, a2, e, a3]; exact e1.symm
  obtain ⟨m, hm⟩ := d
  have m0 : m = 0 := by
    rcases Int.lt_trichotomy m 0 with q | q | q
    · have := Int.mul_le_mul_of_nonneg_left (show m ≤ -1 by omega) (show 0 ≤ B by omega)
      omega
    · exact q
    · have := Int.mul_le_mul_of_nonneg_left (show 1 ≤ m by omega) (show 0 ≤ B by omega)
      omega
  rw [m0, Int.mul_zero] at hm
  rw [hm, Int.mul_zero] at e
  rcases Int.mul_eq_zero.mp e with q | q
  · exact ⟨by omega, by omega⟩
  · omega
def n_rw (o : Int) : Nat → (Int × Int) × (Int × Int)
  | 0 => ((0, 1), (1, o))
  | i + 1 => ((n_rw o i).2, ((o + (n_rw o i).1.2) / (n_rw o i).2.2 * (n_rw o i).2.1 - (n_rw o i).1.1, (o + (n_rw o i).1.2) / (n_rw o i).2.2 * (n_rw o i).2.2 - (n_rw o i).1.2))
def n_rT (o : Nat) (i : Int) : Int := (n_rw o i.toNat).1.1
def n_rB (o : Nat) (i : Int) : Int := (n_rw o i.toNat).1.2
theorem n_rT_s (o i : Nat) : n_rT o ((i : Int) + 1) = (n_rw o i).2.1 := rfl
theorem n_rB_s (o i : Nat) : n_rB o ((i : Int) + 1) = (n_rw o i).2.2 := rfl
theorem n_VO_2 : ∀ o < 201, 1 ≤ o → 2 ≤ n_VO o := by decide +kernel
/-- how far it goes -/
def n_rn (o : Nat) : Nat := (n_VO o - 1).toNat
theorem n_row {o : Nat} (ho : 1 ≤ o ∧ o ≤ 200) : rP (n_rT o) (n_rB o) (n_rn o) o ∧ n_rT o (n_rn o) = 1 ∧ n_rB o (n_rn o) = 1 ∧ 1 ≤ n_rn o ∧ n_rn o ≤ 12232 ∧ ((n_rn o : Nat) : Int) = n_VO o - 1 := by
  have hvo := (n_CU_11 o (by omega) ho.1).2
  have hv2 := n_VO_2 o (by omega) ho.1
  have en : ((n_rn o : Nat) : Int) = n_VO o - 1 := by unfold n_rn; omega
  have key : ∀ i : Nat, i + 1 ≤ n_rn o → rP (n_rT o) (n_rB o) (i + 1) o := by
    intro i
    induction i with
    | zero =>
      intro _
      have e0 : n_rT o 0 = 0 := rfl
      have e1 : n_rB o 0 = 1 := rfl
      have e2 : n_rT o 1 = 1 := rfl
      have e3 : n_rB o 1 = o := rfl
      refine ⟨by omega, ho.1, e0, e1, fun i hi => ?_, fun i hi => ?_⟩
      · rcases (show i = 0 ∨ i = 1 by omega) with rfl | rfl
        · show 0 ≤ n_rT o 0 ∧ n_rT o 0 ≤ n_rB o 0 ∧ 1 ≤ n_rB o 0 ∧ n_rB o 0 ≤ o
          rw [e0, e1]; omega
        · show 0 ≤ n_rT o 1 ∧ n_rT o 1 ≤ n_rB o 1 ∧ 1 ≤ n_rB o 1 ∧ n_rB o 1 ≤ o
          rw [e2, e3]; omega
      · have : i = 0 := by omega
        subst this
        show n_rT o 1 * n_rB o 0 - n_rT o 0 * n_rB o 1 = 1 ∧ (o : Int) < n_rB o 0 + n_rB o 1
        rw [e0, e1, e2, e3]; omega
    | succ i ih =>
      intro hi
      have h := ih (by omega)
      have s := rP.short ho _ _ _ _ h (Nat.le_refl _)
      have hne : n_rT o ((i : Int) + 1) ≠ n_rB o ((i : Int) + 1) := fun c => by
        have := (h.last ho c).2
        omega
      obtain ⟨h1, h2, h3, h4, h5, h6⟩ := h
      have bi := h5 i (by omega)
      have b1 : 0 ≤ n_rT o ((i : Int) + 1) ∧ n_rT o ((i : Int) + 1) ≤ n_rB o ((i : Int) + 1) ∧ 1 ≤ n_rB o ((i : Int) + 1) ∧ n_rB o ((i : Int) + 1) ≤ o := h5 (i + 1) (by omega)
      obtain ⟨d1, d2⟩ := h6 i (by omega)
      obtain ⟨n1, n2, n3, n4, n5, n6, n7, n8⟩ := n_next (o := o) bi (T1 := n_rT o ((i : Int) + 1)) (B1 := n_rB o ((i : Int) + 1)) (by omega) d1 d2
      have eT : n_rT o (((i + 1 : Nat) : Int) + 1) = ((o : Int) + n_rB o i) / n_rB o ((i : Int) + 1) * n_rT o ((i : Int) + 1) - n_rT o i := rfl
      have eB : n_rB o (((i + 1 : Nat) : Int) + 1) = ((o : Int) + n_rB o i) / n_rB o ((i : Int) + 1) * n_rB o ((i : Int) + 1) - n_rB o i := rfl
      refine ⟨by omega, h2, h3, h4, fun j hj => ?_, fun j hj => ?_⟩
      · by_cases c : j = i + 1 + 1
        · subst c
          rw [show ((i + 1 + 1 : Nat) : Int) = ((i + 1 : Nat) : Int) + 1 by omega, eT, eB]
          omega
        · exact h5 j (by omega)
      · by_cases c : j = i + 1
        · subst c
          rw [eT, eB]
          exact ⟨n1, n2⟩
        · exact h6 j (by omega)
  have hn1 : 1 ≤ n_rn o := by omega
  have hP : rP (n_rT o) (n_rB o) (n_rn o) o := by
    have := key (n_rn o - 1) (by omega)
    rw [show n_rn o - 1 + 1 = n_rn o by omega] at this
    exact this
  have s := rP.short ho _ _ _ _ hP (Nat.le_refl _)
  have c : n_rT o (n_rn o) = n_rB o (n_rn o) := by
    by_cases c : n_rT o (n_rn o) = n_rB o (n_rn o)
    · exact c
    · rw [if_neg c] at s; omega
  have l := (hP.last ho c).1
  exact ⟨hP, by rw [c, l], l, hn1, by omega, en⟩
/-- rows are alike -/
theorem rP.eq {T B T' B' : Int → Int} {n o : Nat} (h : rP T B n o) (h' : rP T' B' n o) : ∀ i : Nat, i ≤ n → T i = T' i ∧ B i = B' i := by
  obtain ⟨h1, h2, h3, h4, h5, h6⟩ := h
  obtain ⟨k1, k2, k3, k4, k5, k6⟩ := h'
  intro i
  induction i with
  | zero => intro _; exact ⟨h3.trans k3.symm, h4.trans k4.symm⟩
  | succ i ih =>
    intro hi
    obtain ⟨e1, e2⟩ := ih (by omega)
    have a := h6 i (by omega)
    have b := k6 i (by omega)
    rw [← e1, ← e2] at b
    exact n_nx (h5 i (by omega)).2.2.1 a.1 b.1 a.2 (h5 (i + 1) hi).2.2.2 b.2 (k5 (i + 1) hi).2.2.2
/-- the row that the reference has laid -/
theorem rW.row {g : z_G} {o : Nat} (h : rW g o) (ho : 1 ≤ o ∧ o ≤ 200) : g 0 24 = ((n_rn o : Nat) : Int) + 1 ∧ ∀ i : Int, 0 ≤ i → i ≤ n_rn o → g 8 i = n_rT o i ∧ g 9 i = n_rB o i := by
  obtain ⟨r1, r2, r3, r4, r5, r6⟩ := n_row ho
  refine ⟨by rw [h.2.1]; omega, fun i i0 i1 => ?_⟩
  have := rP.eq h.2.2.2.2.1 r1 i.toNat (by omega)
  rw [show ((i.toNat : Nat) : Int) = i by omega] at this
  exact this
theorem rP.mono {T B : Int → Int} {n o : Nat} (h : rP T B n o) : ∀ d i : Nat, i + d + 1 ≤ n → T i * B ((i + d + 1 : Nat) : Int) < T ((i + d + 1 : Nat) : Int) * B i := by
  obtain ⟨h1, h2, h3, h4, h5, h6⟩ := h
  intro d
  induction d with
  | zero =>
    intro i hi
    have := (h6 i (by omega)).1
    show T i * B ((i : Int) + 1) < T ((i : Int) + 1) * B i
    omega
  | succ d ih =>
    intro i hi
    have a := ih i (by omega)
    have b := (h6 (i + d + 1) (by omega)).1
    have b' : T ((i + d + 1 : Nat) : Int) * B ((i + (d + 1) + 1 : Nat) : Int) < T ((i + (d + 1) + 1 : Nat) : Int) * B ((i + d + 1 : Nat) : Int) := by
      show T ((i + d + 1 : Nat) : Int) * B (((i + d + 1 : Nat) : Int) + 1) < T (((i + d + 1 : Nat) : Int) + 1) * B ((i + d + 1 : Nat) : Int)
      omega
    exact n_less_tr (h5 i (by omega)).2.2.1 (h5 (i + d + 1) (by omega)).2.2.1 (h5 (i + (d + 1) + 1) (by omega)).2.2.1 a b'
/-- k of the row are below t by b -/
def rI (o : Nat) (t b : Int) (k : Nat) : Prop := k ≤ n_rn o ∧ (∀ i : Nat, i < k → n_rT o i * b < t * n_rB o i) ∧ (∀ i : Nat, k ≤ i → i ≤ n_rn o → t * n_rB o i ≤ n_rT o i * b) ∧ ∀ i : Nat, k < i → i ≤ n_rn o → t * n_rB o i < n_rT o i * b
theorem rI_ex {o : Nat} (ho : 1 ≤ o ∧ o ≤ 200) {t b : Int} (hb : 1 ≤ b) (ht : 0 ≤ t ∧ t ≤ b) : ∃ k, rI o t b k := by
  obtain ⟨r1, r2, r3, r4, r5, r6⟩ := n_row ho
  obtain ⟨k, k1, k2, k3⟩ := n_least (P := fun i => t * n_rB o i ≤ n_rT o i * b) (n_rn o) (by show t * n_rB o (n_rn o) ≤ n_rT o (n_rn o) * b; rw [r2, r3]; omega)
  have lt : ∀ i : Nat, k < i → i ≤ n_rn o → t * n_rB o i < n_rT o i * b := fun i i1 i2 => by
    have m := r1.mono (i - k - 1) k (by omega)
    rw [show k + (i - k - 1) + 1 = i by omega] at m
    have hk := r1.2.2.2.2.1 k (by omega)
    have hi := r1.2.2.2.2.1 i (by omega)
    have a1 : t * n_rB o k * n_rB o i ≤ n_rT o k * b * n_rB o i := Int.mul_le_mul_of_nonneg_right k2 (by omega)
    have a2 : n_rT o k * n_rB o i * b < n_rT o i * n_rB o k * b := Int.mul_lt_mul_of_pos_right m (by omega)
    have e1 : n_rT o k * b * n_rB o i = n_rT o k * n_rB o i * b := by ac_rfl
    have e2 : t * n_rB o k * n_rB o i = n_rB o k * (t * n_rB o i) := by ac_rfl
    have e3 : n_rT o i * n_rB o k * b = n_rB o k * (n_rT o i * b) := by ac_rfl
    exact Int.lt_of_mul_lt_mul_left (show n_rB o k * (t * n_rB o i) < n_rB o k * (n_rT o i * b) by omega) (by omega)
  refine ⟨k, k1, fun i hi => by have := k3 i hi; omega, fun i i1 i2 => ?_, lt⟩
  by_cases c : i = k
  · rw [c]; exact k2
  · exact Int.le_of_lt (lt i (by omega) i2)
theorem rI.eq {o k k' : Nat} {t b : Int} (h : rI o t b k) (h' : rI o t b k') : k = k' := by
  rcases Nat.lt_trichotomy k k' with c | c | c
  · have := h'.2.1 k c
    have := h.2.2.1 k (Nat.le_refl k) h.1
    omega
  · exact c
  · have := h.2.1 k' c
    have := h'.2.2.1 k' (Nat.le_refl k') h'.1
    omega
theorem rI.scale {o k : Nat} {t b c : Int} (hc : 0 < c) (h : rI o (c * t) (c * b) k) : rI o t b k := by
  have e1 : ∀ x : Int, x * (c * b) = c * (x * b) := fun x => by ac_rfl
  have e2 : ∀ x : Int, c * t * x = c * (t * x) := fun x => by ac_rfl
  obtain ⟨h1, h2, h3, h4⟩ := h
  refine ⟨h1, fun i hi => ?_, fun i i1 i2 => ?_, fun i i1 i2 => ?_⟩
  · have := h2 i hi
    rw [e1, e2] at this
    exact Int.lt_of_mul_lt_mul_left this (by omega)
  · have := h3 i i1 i2
    rw [e1, e2] at this
    exact Int.le_of_mul_le_mul_left this hc
  · have := h4 i i1 i2
    rw [e1, e2] at this
    exact Int.lt_of_mul_lt_mul_left this (by omega)
theorem rI.red {o k : Nat} {t b : Int} (hb : 1 ≤ b) (h : rI o t b k) : rI o (t / Int.gcd t b) (b / Int.gcd t b) k := by
  have hp : 0 < Int.gcd t b := Int.gcd_pos_of_ne_zero_right t (by omega)
  refine rI.scale (c := Int.gcd t b) (by omega) ?_
  rw [Int.mul_ediv_cancel' (Int.gcd_dvd_left t b), Int.mul_ediv_cancel' (Int.gcd_dvd_right t b)]
  exact h
/-- what the class counts -/
theorem rI.cu {o k : Nat} (ho : 1 ≤ o ∧ o ≤ 200) {t b : Int} (hb : 1 ≤ b) (ht : 0 ≤ t) (h : rI o t b k) : n_CU o t b = k := by
  obtain ⟨r1, r2, r3, r4, r5, r6⟩ := n_row ho
  obtain ⟨h1, h2, h3, h4⟩ := h
  have hk := r1.2.2.2.2.1 k h1
  have hkb := h3 k (Nat.le_refl k) h1
  by_cases c : t = 0
  · subst c
    have : k = 0 := by
      rcases Nat.eq_zero_or_pos k with q | q
      · exact q
      · have a := h2 0 q
        rw [show n_rT o ((0 : Nat) : Int) = 0 from rfl] at a
        omega
    subst this
    unfold n_CU
    rw [if_pos (by omega)]; rfl
  · have k1 : 1 ≤ k := by
      rcases Nat.eq_zero_or_pos k with q | q
      · subst q
        rw [show n_rT o ((0 : Nat) : Int) = 0 from rfl, show n_rB o ((0 : Nat) : Int) = 1 from rfl] at hkb
        omega
      · exact q
    obtain ⟨j, rfl⟩ : ∃ j, k = j + 1 := ⟨k - 1, by omega⟩
    have hj := r1.2.2.2.2.1 j (by omega)
    obtain ⟨d1, d2⟩ := r1.2.2.2.2.2 j (by omega)
    have hjl := h2 j (by omega)
    have tp := r1.pos (j + 1) (by omega) h1
    have cnt := r1.count (c := o) (by omega) ho.2 (j + 1) h1
    rw [rC_all r1 (j + 1) h1] at cnt
    rw [← cnt]
    unfold n_CU
    rw [if_neg (by omega), if_neg (by omega)]
    refine congrArg (fun z => 1 + z) (n_S_congr o (fun x x1 x2 => ?_))
    refine congrArg (fun z => (z - 1) * n_Mm (o / x)) ?_
    refine n_ce_eq hb hk.2.2.1 (fun y => ⟨fun q => ?_, fun q => ?_⟩)
    · rcases Int.lt_or_le (y * n_rB o ((j + 1 : Nat) : Int)) (n_rT o ((j + 1 : Nat) : Int) * x) with q2 | q2
      · exfalso
        have q3 : n_rT o j * (x : Int) < y * n_rB o j := by
          have a1 : n_rT o j * b * (x : Int) < t * n_rB o j * x := Int.mul_lt_mul_of_pos_right hjl (by omega)
          have a2 : t * (x : Int) * n_rB o j ≤ y * b * n_rB o j := Int.mul_le_mul_of_nonneg_right q (by omega)
          have e1 : n_rT o j * b * (x : Int) = b * (n_rT o j * x) := by ac_rfl
          have e2 : t * n_rB o j * (x : Int) = t * x * n_rB o j := by ac_rfl
          have e3 : y * b * n_rB o j = b * (y * n_rB o j) := by ac_rfl
          exact Int.lt_of_mul_lt_mul_left (show b * (n_rT o j * (x : Int)) < b * (y * n_rB o j) by omega) (by omega)
        have := n_gap hj.2.2.1 hk.2.2.1 d1 q3 q2
        have d2' : (o : Int) < n_rB o j + n_rB o ((j + 1 : Nat) : Int) := d2
        omega
      · exact q2
    · have a1 : t * n_rB o ((j + 1 : Nat) : Int) * (x : Int) ≤ n_rT o ((j + 1 : Nat) : Int) * b * x := Int.mul_le_mul_of_nonneg_right hkb (by omega)
      have a2 : n_rT o ((j + 1 : Nat) : Int) * (x : Int) * b ≤ y * n_rB o ((j + 1 : Nat) : Int) * b := Int.mul_le_mul_of_nonneg_right q (by omega)
      have e1 : t * n_rB o ((j + 1 : Nat) : Int) * (x : Int) = n_rB o ((j + 1 : Nat) : Int) * (t * x) := by ac_rfl
      have e2 : n_rT o ((j + 1 : Nat) : Int) * b * (x : Int) = n_rT o ((j + 1 : Nat) : Int) * x * b := by ac_rfl
      have e3 : y * n_rB o ((j + 1 : Nat) : Int) * b = n_rB o ((j + 1 : Nat) : Int) * (y * b) := by ac_rfl
      exact Int.le_of_mul_le_mul_left (show n_rB o ((j + 1 : Nat) : Int) * (t * (x : Int)) ≤ n_rB o ((j + 1 : Nat) : Int) * (y * b) by omega) (by omega)
theorem n_row_gcd {o : Nat} (ho : 1 ≤ o ∧ o ≤ 200) {i : Nat} (hi : i ≤ n_rn o) : Int.gcd (n_rT o i) (n_rB o i) = 1 := by
  obtain ⟨r1, r2, r3, r4, r5, r6⟩ := n_row ho
  by_cases c : i = n_rn o
  · rw [c, r2]; exact Int.gcd_one_left _
  · have d := (r1.2.2.2.2.2 i (by omega)).1
    obtain ⟨x, hx⟩ := Int.gcd_dvd_left (n_rT o i) (n_rB o i)
    obtain ⟨y, hy⟩ := Int.gcd_dvd_right (n_rT o i) (n_rB o i)
    generalize hg : Int.gcd (n_rT o i) (n_rB o i) = g at *
    have e : (g : Int) ∣ 1 := ⟨n_rT o ((i : Int) + 1) * y - x * n_rB o ((i : Int) + 1), by
      refine d.symm.trans ?_
      rw [hx, hy, Int.mul_sub, Int.mul_left_comm, Int.mul_assoc]⟩
    have := Int.le_of_dvd (by omega) e
    rcases g with _ | g
    · simp at e
    · omega
/-- a VALUE in lowest terms with a bottom small enough is in the row -/
theorem rI.at {o k : Nat} (ho : 1 ≤ o ∧ o ≤ 200) {t b : Int} (hv : iVal t b) (h : rI o t b k) : (b ≤ o → n_rT o k = t ∧ n_rB o k = b) ∧ (n_rT o k * b = t * n_rB o k → b ≤ o) := by
  obtain ⟨r1, r2, r3, r4, r5, r6⟩ := n_row ho
  obtain ⟨v1, v2, v3, v4, v5⟩ := hv
  obtain ⟨h1, h2, h3, h4⟩ := h
  have hk := r1.2.2.2.2.1 k h1
  have key : n_rT o k * b = t * n_rB o k → n_rT o k = t ∧ n_rB o k = b := fun e => n_val_eq hk.2.2.1 v3 (n_row_gcd ho h1) v5 e
  refine ⟨fun q => key ?_, fun e => by have := (key e).2; omega⟩
  have a := h3 k (Nat.le_refl k) h1
  rcases Int.lt_or_le (t * n_rB o k) (n_rT o k * b) with c | c
  · exfalso
    have k1 : 1 ≤ k := by
      rcases Nat.eq_zero_or_pos k with q | q
      · subst q
        rw [show n_rT o ((0 : Nat) : Int) = 0 from rfl, show n_rB o ((0 : Nat) : Int) = 1 from rfl] at c
        omega
      · exact q
    obtain ⟨j, rfl⟩ : ∃ j, k = j + 1 := ⟨k - 1, by omega⟩
    have hj := r1.2.2.2.2.1 j (by omega)
    obtain ⟨d1, d2⟩ := r1.2.2.2.2.2 j (by omega)
    have d2' : (o : Int) < n_rB o j + n_rB o ((j + 1 : Nat) : Int) := d2
    have := n_gap hj.2.2.1 hk.2.2.1 d1 (h2 j (by omega)) c
    omega
  · omega
/-- neighbours are neighbours in the row -/
theorem n_nb {o : Nat} (ho : 1 ≤ o ∧ o ≤ 200) {lt lb ht hb : Int} (hs : n_sp lt lb ht hb) (h1 : lb ≤ o) (h2 : hb ≤ o) (h3 : (o : Int) < lb + hb) : ∃ i : Nat, i < n_rn o ∧ n_rT o i = lt ∧ n_rB o i = lb ∧ n_rT o ((i : Int) + 1) = ht ∧ n_rB o ((i : Int) + 1) = hb := by
  obtain ⟨r1, r2, r3, r4, r5, r6⟩ := n_row ho
  obtain ⟨s1, s2, s3, s4, s5, s6⟩ := hs
  obtain ⟨k, hk⟩ := rI_ex ho (t := lt) (b := lb) s3 ⟨s1, s2⟩
  have hg : Int.gcd lt lb = 1 := by
    obtain ⟨x, hx⟩ := Int.gcd_dvd_left lt lb
    obtain ⟨y, hy⟩ := Int.gcd_dvd_right lt lb
    generalize hgg : Int.gcd lt lb = g at *
    have e : (g : Int) ∣ 1 := ⟨ht * y - x * hb, by
      rw [← s6]
      conv => lhs; rw [hx, hy]
      rw [Int.mul_sub, Int.mul_left_comm, Int.mul_assoc]⟩
    have := Int.le_of_dvd (by omega) e
    rcases g with _ | g
    · simp at e
    · omega
  obtain ⟨e1, e2⟩ := (hk.at ho ⟨s1, s2, s3, by omega, hg⟩).1 h1
  have kn : k < n_rn o := by
    have := hk.1
    rcases Nat.lt_or_eq_of_le this with c | c
    · exact c
    · rw [c, r2] at e1
      rw [c, r3] at e2
      subst e1; subst e2
      omega
  obtain ⟨d1, d2⟩ := r1.2.2.2.2.2 k kn
  have hb' := (r1.2.2.2.2.1 (k + 1) (by omega)).2.2.2
  rw [e1, e2] at d1
  rw [e2] at d2
  obtain ⟨f1, f2⟩ := n_nx s3 d1 s6 d2 hb' h3 h2
  exact ⟨k, kn, e1, e2, f1, f2⟩

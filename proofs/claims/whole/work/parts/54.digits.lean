/-! ## digits -/
theorem n_strip {p : Int} (hp : 2 ≤ p) : ∀ (k j : Nat) (a b : Int), p ^ k * a = p ^ j * b → a % p ≠ 0 → b % p ≠ 0 → k = j ∧ a = b
  | 0, 0, a, b, h, _, _ => by rw [Int.pow_zero, Int.one_mul, Int.one_mul] at h; exact ⟨rfl, h⟩
  | 0, j + 1, a, b, h, ha, _ => by
    rw [Int.pow_zero, Int.one_mul, Int.pow_succ, Int.mul_assoc, Int.mul_left_comm] at h
    exact absurd (by rw [h]; exact Int.mul_emod_right _ _) ha
  | k + 1, 0, a, b, h, _, hb => by
    rw [Int.pow_zero, Int.one_mul, Int.pow_succ, Int.mul_assoc, Int.mul_left_comm] at h
    exact absurd (by rw [← h]; exact Int.mul_emod_right _ _) hb
  | k + 1, j + 1, a, b, h, ha, hb => by
    rw [Int.pow_succ, Int.pow_succ, Int.mul_assoc, Int.mul_assoc, Int.mul_left_comm, Int.mul_left_comm (p ^ j)] at h
    have h2 := Int.eq_of_mul_eq_mul_left (show p ≠ 0 by omega) h
    have := n_strip hp k j a b h2 ha hb
    omega
theorem n_half {p M : Int} (hp : 2 ≤ p) (hM : 1 ≤ M) (h : M % p = 0) : M = p * (M / p) ∧ 1 ≤ M / p ∧ 2 * (M / p) ≤ M := by
  have e := Int.mul_ediv_add_emod M p
  rw [h, Int.add_zero] at e
  have h0 : 0 ≤ M / p := Int.ediv_nonneg (by omega) (by omega)
  have h1 : 2 * (M / p) ≤ p * (M / p) := Int.mul_le_mul_of_nonneg_right hp h0
  refine ⟨e.symm, ?_, by omega⟩
  rcases Int.lt_or_le 0 (M / p) with c | c
  · omega
  · rw [show M / p = 0 by omega, Int.mul_zero] at e; omega
theorem n_pstep {p M : Int} (x : Nat) (h : M = p * (M / p)) : p ^ x * M = p ^ (x + 1) * (M / p) := by
  conv => lhs; rw [h]
  rw [Int.pow_succ, Int.mul_assoc]
theorem s_M_times {X : z_X} {N : Nat} {σ g : z_G} {Q : z_P} (hm : z_lay X N σ 0 z_SM z_RM) {p L : Int} (hp : 2 ≤ p) (hL : 1 ≤ L ∧ L ≤ 9999) (e : g 0 30 = L) (hq : ∀ (k : Nat) (L' : Int) (g' : z_G), L = p ^ k * L' → L' % p ≠ 0 → 1 ≤ L' ∧ L' ≤ 9999 → g' 0 30 = L' → (∀ c i, ¬ (c = 0 ∧ i = 30) → g' c i = g c i) → Q k g') : z_O X 1 m_M_times [(2, 0), (0, p)] N σ g Q := by
  refine b_M_times_0 hm ?_
  have loop : ∀ (m x : Nat) (M : Int) (g' : z_G), M.toNat ≤ m → 1 ≤ M → x + M ≤ L → L = p ^ x * M → g' 0 30 = M → (∀ c i, ¬ (c = 0 ∧ i = 30) → g' c i = g c i) → L_M_times_2 X N σ p x g' Q := by
    intro m
    induction m with
    | zero => intro x M g' h1 h2; omega
    | succ m ih =>
      intro x M g' h1 h2 h3 h4 h5 h6
      refine b_M_times_2 hm ⟨by omega, fun q => ⟨by omega, ?_⟩, fun q => hq x M g' h4 ?_ (by omega) h5 h6⟩
      · rw [h5, n_tm (by omega)] at q
        obtain ⟨a1, a2, a3⟩ := n_half hp h2 q
        refine ih (x + 1) (M / p) _ (by omega) a2 (by omega) (by rw [h4]; exact n_pstep x a1) ?_ (fun c i hc => by rw [z_u2 (by omega)]; exact h6 c i hc)
        rw [z_u1, h5, n_td (by omega)]
      · rw [h5, n_tm (by omega)] at q; exact q
  exact loop L.toNat 0 L g (by omega) hL.1 (by omega) (by rw [Int.pow_zero, Int.one_mul]) e (fun _ _ _ => rfl)
theorem s_F_timesWithin {X : z_X} {N : Nat} {σ g : z_G} {Q : z_P} {p L : Int} (hp : 2 ≤ p) (hL : 1 ≤ L ∧ L ≤ 9999) (hq : ∀ (k : Nat) (L' : Int), L = p ^ k * L' → L' % p ≠ 0 → 1 ≤ L' ∧ L' ≤ 9999 → k ≤ 14 → Q k g) : z_O X 1 m_F_timesWithin [(0, p), (0, L)] N σ g Q := by
  refine b_F_timesWithin_0 ?_
  have loop : ∀ (k x : Nat) (M : Int), x + k = 14 → 1 ≤ M → M ≤ 9999 → M.toNat < 2 ^ k → L = p ^ x * M → L_F_timesWithin_4 X N σ p x M g Q := by
    intro k
    induction k with
    | zero => intro x M h1 h2 h9 h3; rw [Nat.pow_zero] at h3; omega
    | succ k ih =>
      intro x M h1 h2 h9 h3 h4
      refine b_F_timesWithin_4 ⟨fun q => absurd q (by omega), fun _ => ⟨fun q => absurd q (by omega), fun _ => ⟨fun q => absurd q (by omega), fun _ => ⟨by omega, fun q => ⟨by omega, ?_⟩, fun q => hq x M h4 ?_ (by omega) (by omega)⟩⟩⟩⟩
      · rw [n_tm (by omega)] at q
        rw [n_td (by omega)]
        obtain ⟨a1, a2, a3⟩ := n_half hp h2 q
        rw [Nat.pow_succ] at h3
        exact ih (x + 1) (M / p) (by omega) a2 (by omega) (by omega) (by rw [h4]; exact n_pstep x a1)
      · rw [n_tm (by omega)] at q; exact q
  exact loop 14 0 L (by omega) hL.1 hL.2 (by have : (2 : Nat) ^ 14 = 16384 := rfl; omega) (by rw [Int.pow_zero, Int.one_mul])
theorem s_F_without {X : z_X} {N : Nat} {σ g : z_G} {Q : z_P} {p L L' : Int} {k : Nat} (hp : 2 ≤ p) (hk : k ≤ 14) (h0 : 0 ≤ L') (hL : L = p ^ k * L') (hq : Q L' g) : z_O X 1 m_F_without [(0, p), (0, (k : Int)), (0, L)] N σ g Q := by
  refine b_F_without_0 ?_
  have loop : ∀ (m x : Nat) (M : Int), x + m = k → M = p ^ m * L' → L_F_without_5 X N σ p k M x g Q := by
    intro m
    induction m with
    | zero =>
      intro x M h1 h2
      rw [Int.pow_zero, Int.one_mul] at h2
      rw [h2]
      exact b_F_without_5 ⟨fun _ => hq, fun q => absurd (by omega) q⟩
    | succ m ih =>
      intro x M h1 h2
      refine b_F_without_5 ⟨fun q => absurd q (by omega), fun _ => ⟨fun q => absurd q (by omega), fun _ => ⟨by omega, by omega, ih (x + 1) _ (by omega) ?_⟩⟩⟩
      have e : M = p * (p ^ m * L') := by rw [h2, Int.pow_succ, Int.mul_assoc, Int.mul_left_comm]
      have hn : 0 ≤ p ^ m * L' := Int.mul_nonneg (Int.pow_nonneg (by omega)) h0
      rw [n_td (by rw [e]; exact Int.mul_nonneg (by omega) hn), e]
      exact Int.mul_ediv_cancel_left _ (by omega)
  exact loop k 0 L (by omega) hL
theorem n_pig : ∀ (n : Nat) (f : Nat → Nat), (∀ i, i ≤ n → f i < n) → ∃ i j, i < j ∧ j ≤ n ∧ f i = f j
  | 0, f, h => absurd (h 0 (Nat.le_refl 0)) (Nat.not_lt_zero _)
  | n + 1, f, h => by
    by_cases c : ∃ i, i ≤ n ∧ f i = f (n + 1)
    · obtain ⟨i, h1, h2⟩ := c
      exact ⟨i, n + 1, by omega, Nat.le_refl _, h2⟩
    · have hf : ∀ i, i ≤ n → (if f i = n then f (n + 1) else f i) < n := fun i hi => by
        have a := h (n + 1) (Nat.le_refl _)
        have b := h i (by omega)
        split
        · rename_i q
          have : f (n + 1) ≠ n := fun q2 => c ⟨i, hi, by omega⟩
          omega
        · omega
      obtain ⟨i, j, h1, h2, h3⟩ := n_pig n (fun i => if f i = n then f (n + 1) else f i) hf
      refine ⟨i, j, h1, by omega, ?_⟩
      by_cases q1 : f i = n
      · by_cases q2 : f j = n
        · omega
        · rw [if_pos q1, if_neg q2] at h3; exact absurd ⟨j, h2, h3.symm⟩ c
      · by_cases q2 : f j = n
        · rw [if_neg q1, if_pos q2] at h3; exact absurd ⟨i, by omega, h3⟩ c
        · rw [if_neg q1, if_neg q2] at h3; exact h3
theorem n_cop {n : Nat} (h2 : n % 2 ≠ 0) (h5 : n % 5 ≠ 0) : Nat.Coprime 10 n := by
  show Nat.gcd 10 n = 1
  rw [Nat.gcd_rec]
  rcases (show n % 10 = 1 ∨ n % 10 = 3 ∨ n % 10 = 7 ∨ n % 10 = 9 by omega) with e | e | e | e <;> rw [e] <;> decide
theorem n_per {n : Nat} (h2 : 2 ≤ n) (hc : Nat.Coprime 10 n) : ∃ k, 1 ≤ k ∧ k < n ∧ 10 ^ k % n = 1 := by
  have hpos : ∀ i, 10 ^ i % n ≠ 0 := fun i q => by
    have d : n ∣ 10 ^ i := Nat.dvd_of_mod_eq_zero q
    have hci : Nat.Coprime (10 ^ i) n := Nat.Coprime.pow_left i hc
    have : Nat.gcd (10 ^ i) n = n := Nat.gcd_eq_right d
    unfold Nat.Coprime at hci
    omega
  obtain ⟨i, j, h1, h3, h4⟩ := n_pig (n - 1) (fun i => 10 ^ i % n - 1) (fun i _ => by
    have a := hpos i
    have b := Nat.mod_lt (10 ^ i) (show n > 0 by omega)
    omega)
  have a := hpos i
  have b := hpos j
  refine ⟨j - i, by omega, by omega, ?_⟩
  have e : 10 ^ j = 10 ^ i * 10 ^ (j - i) := by rw [← Nat.pow_add]; congr 1; omega
  have p1 : 1 ≤ 10 ^ (j - i) := Nat.pow_pos (by decide)
  have d : n ∣ 10 ^ i * (10 ^ (j - i) - 1) := by
    rw [Nat.mul_sub, ← e, Nat.mul_one]
    exact Nat.dvd_of_mod_eq_zero (Nat.sub_mod_eq_zero_of_mod_eq (by omega))
  have d2 : n ∣ 10 ^ (j - i) - 1 := Nat.Coprime.dvd_of_dvd_mul_left (Nat.Coprime.symm (Nat.Coprime.pow_left i hc)) d
  obtain ⟨q, hq⟩ := d2
  rw [show 10 ^ (j - i) = 1 + n * q by omega, Nat.add_mul_mod_self_left, Nat.mod_eq_of_lt (by omega)]
theorem n_pm (n x : Nat) : ((10 : Int) * ((10 ^ x % n : Nat) : Int)) % (n : Int) = ((10 ^ (x + 1) % n : Nat) : Int) := by
  have h : 10 * (10 ^ x % n) % n = 10 ^ (x + 1) % n := by rw [Nat.pow_succ, Nat.mul_comm (10 ^ x) 10, Nat.mul_mod 10 (10 ^ x % n), Nat.mod_mod, ← Nat.mul_mod]
  exact_mod_cast h
/-- the least power -/
def n_lp (n k : Nat) : Prop := 1 ≤ k ∧ 10 ^ k % n = 1 ∧ ∀ j, 1 ≤ j → j < k → 10 ^ j % n ≠ 1
theorem n_lp.eq {n k k' : Nat} (h : n_lp n k) (h' : n_lp n k') : k = k' := by
  rcases Nat.lt_trichotomy k k' with c | c | c
  · exact absurd h.2.1 (h'.2.2 k h.1 c)
  · exact c
  · exact absurd h'.2.1 (h.2.2 k' h'.1 c)
theorem s_M_periodOf {X : z_X} {N : Nat} {σ g : z_G} {Q : z_P} (hm : z_lay X N σ 0 z_SM z_RM) {n : Nat} (h2 : 2 ≤ n ∧ n ≤ 9999) (hc : Nat.Coprime 10 n) (hq : ∀ k, n_lp n k → Q k g) : z_O X 1 m_M_periodOf [(2, 0), (0, (n : Int))] N σ g Q := by
  obtain ⟨k, k1, k2, k3⟩ := n_per h2.1 hc
  refine b_M_periodOf_0 hm ⟨fun q => absurd q (by omega), fun _ => ⟨by omega, ?_⟩⟩
  have loop : ∀ (m x : Nat), k ≤ x + m → x ≤ k → 1 ≤ x → (∀ j, 1 ≤ j → j < x → 10 ^ j % n ≠ 1) → L_M_periodOf_14 X N σ n x ((10 ^ x % n : Nat) : Int) g Q := by
    intro m
    induction m with
    | zero =>
      intro x h3 h4 h5 h6
      have : x = k := by omega
      subst this
      exact b_M_periodOf_14 hm ⟨fun q => hq x ⟨h5, k3, h6⟩, fun q => absurd (by rw [k3]; rfl) q⟩
    | succ m ih =>
      intro x h3 h4 h5 h6
      have b := Nat.mod_lt (10 ^ x) (show n > 0 by omega)
      refine b_M_periodOf_14 hm ⟨fun q => hq x ⟨h5, by omega, h6⟩, fun q => ⟨by omega, by omega, by omega, ?_⟩⟩
      rw [n_tm (by omega), n_pm]
      have hx : x ≠ k := fun e => q (by rw [e, k3]; rfl)
      refine ih (x + 1) (by omega) (by omega) (by omega) (fun j j1 j2 => ?_)
      by_cases c : j = x
      · rw [c]; omega
      · exact h6 j j1 (by omega)
  rw [n_tm (by omega)]
  have := loop k 1 (by omega) (by omega) (by omega) (fun j _ _ => by omega)
  rw [Nat.pow_one, Int.natCast_emod] at this
  exact this
theorem s_F_periodOf {X : z_X} {N : Nat} {σ g : z_G} {Q : z_P} {n : Nat} (h2 : 2 ≤ n ∧ n ≤ 9999) (hc : Nat.Coprime 10 n) (hq : ∀ k, n_lp n k → Q k g) : z_O X 1 m_F_periodOf [(0, (n : Int))] N σ g Q := by
  obtain ⟨k, k1, k2, k3⟩ := n_per h2.1 hc
  refine b_F_periodOf_0 ⟨fun _ => ⟨by omega, ?_⟩, fun q => absurd (by omega) q⟩
  have loop : ∀ (m x : Nat), k ≤ x + m → x ≤ k → 1 ≤ x → (∀ j, 1 ≤ j → j < x → 10 ^ j % n ≠ 1) → L_F_periodOf_14 X N σ n x ((10 ^ x % n : Nat) : Int) g Q := by
    intro m
    induction m with
    | zero =>
      intro x h3 h4 h5 h6
      have : x = k := by omega
      subst this
      exact b_F_periodOf_14 ⟨fun q => absurd q (by omega), fun _ => ⟨fun q => hq x ⟨h5, k3, h6⟩, fun q => absurd (by rw [k3]; rfl) q⟩⟩
    | succ m ih =>
      intro x h3 h4 h5 h6
      have b := Nat.mod_lt (10 ^ x) (show n > 0 by omega)
      refine b_F_periodOf_14 ⟨fun q => absurd q (by omega), fun _ => ⟨fun q => hq x ⟨h5, by omega, h6⟩, fun q => ⟨by omega, by omega, by omega, ?_⟩⟩⟩
      rw [n_tm (by omega), Int.mul_comm, n_pm]
      have hx : x ≠ k := fun e => q (by rw [e, k3]; rfl)
      refine ih (x + 1) (by omega) (by omega) (by omega) (fun j j1 j2 => ?_)
      by_cases c : j = x
      · rw [c]; omega
      · exact h6 j j1 (by omega)
  rw [n_tm (by omega)]
  have := loop k 1 (by omega) (by omega) (by omega) (fun j _ _ => by omega)
  rw [Nat.pow_one, Int.natCast_emod] at this
  exact this
theorem n_two5 {x : Int} (h : x % 5 ≠ 0) : ∀ k : Nat, (2 ^ k * x) % 5 ≠ 0
  | 0 => by rw [Int.pow_zero, Int.one_mul]; exact h
  | k + 1 => by
    have := n_two5 h k
    rw [Int.pow_succ, Int.mul_assoc, Int.mul_left_comm]
    omega
theorem n_five2 {x : Int} (h : x % 2 ≠ 0) : ∀ k : Nat, (5 ^ k * x) % 2 ≠ 0
  | 0 => by rw [Int.pow_zero, Int.one_mul]; exact h
  | k + 1 => by
    have := n_five2 h k
    rw [Int.pow_succ, Int.mul_assoc, Int.mul_left_comm]
    omega
theorem o_digits {X Y : z_X} {N K : Nat} {σ τ gx gm : z_G} (hx : z_lay X N σ 0 z_SF z_RF) (hm : z_lay Y K τ 0 z_SM z_RM) (I : Inv gx gm) {a1 a2 a3 : Int} (r1 : -2147483648 ≤ a1 ∧ a1 ≤ 2147483647) (r2 : -2147483648 ≤ a2 ∧ a2 ≤ 2147483647) (r3 : -2147483648 ≤ a3 ∧ a3 ≤ 2147483647) : z_O X 4 m_F_digits [(2, 0), (0, a1), (0, a2), (0, a3)] N σ gx (fun r gx' => z_O Y 2 m_M_digits [(2, 0), (0, a1), (0, a2), (0, a3)] K τ gm (fun r' gm' => r' = r ∧ Inv gx' gm')) := by
  have bad : ¬ (0 ≤ a3 ∧ a3 ≤ 1 ∧ 1 ≤ a2 ∧ a2 ≤ 9999 ∧ 0 ≤ a1 ∧ a1 ≤ a2) → z_O Y 2 m_M_digits [(2, 0), (0, a1), (0, a2), (0, a3)] K τ gm (fun r' gm' => r' = -1 ∧ Inv (z_up gx 0 0 1) gm') := by
    intro hb
    refine b_M_digits_0 hm ?_
    repeat' (first | refine And.intro (by omega) ?_ | refine And.intro (fun _ => ?_) (fun q => absurd (by omega) q) | refine And.intro (fun q => absurd q (by omega)) (fun _ => ?_) | refine And.intro (fun _ => ?_) (fun _ => ?_) | refine And.intro (fun q => absurd q (by omega)) ?_ | refine And.intro (fun _ => ?_) ?_ | with_reducible intro _)
    all_goals first | exact I.fin xA.rf yA.rf I.2.2.2.2 1 | (exfalso; omega)
  refine b_F_digits_0 hx ⟨fun c => bad (by omega), fun c => ⟨fun c2 => bad (by omega), fun c2 => s_Ch_take (ky_F_18 hx) (fun q => ?_) (fun q g' hc hf => ?_)⟩⟩
  · exact fun _ => ⟨fun _ => bad (by omega), fun e => absurd rfl e⟩
  refine fun _ => ⟨fun e => absurd e (by omega), fun _ => ?_⟩
  have e4 : g' 18 4 = a2 / Int.gcd a1 a2 := hc.2.2.2.2.2.1
  have hp : 0 < Int.gcd a1 a2 := Int.gcd_pos_of_ne_zero_right a1 (by omega)
  obtain ⟨v1, v2, v3, v4, -⟩ := n_red q
  rw [e4]
  refine s_F_timesWithin (by omega) ⟨v3, v4⟩ fun k2 L2 x1 x2 x3 x4 => ?_
  rw [e4]
  refine s_F_timesWithin (by omega) ⟨v3, v4⟩ fun k5 L5 y1 y2 y3 y4 => ?_
  -- the reference
  have mrun : ∀ (r : Int) (gx' : z_G), (∀ gm2, mS gm gm2 → ∀ L' : Int, L2 = 5 ^ k5 * L' → L' % 5 ≠ 0 → L' % 2 ≠ 0 → 1 ≤ L' ∧ L' ≤ 9999 → gm2 0 30 = L' → (((a3 = 0) → ((((k2 : Int) < k5) → (k5 : Int) = r ∧ Inv gx' (z_up gm2 0 1 0)) ∧ (¬ ((k2 : Int) < k5) → (k2 : Int) = r ∧ Inv gx' (z_up gm2 0 1 0)))) ∧ (¬ (a3 = 0) → z_O Y 1 m_M_periodOf [(2, 0), (0, gm2 0 30)] K τ gm2 (fun r3 g3 => r3 = r ∧ Inv gx' (z_up g3 0 1 0))))) → z_O Y 2 m_M_digits [(2, 0), (0, a1), (0, a2), (0, a3)] K τ gm (fun r' gm' => r' = r ∧ Inv gx' gm') := by
    intro r gx' h
    refine b_M_digits_0 hm ?_
    repeat' (first | refine And.intro (by omega) ?_ | refine And.intro (fun _ => ?_) (fun q => absurd (by omega) q) | refine And.intro (fun q => absurd q (by omega)) (fun _ => ?_) | refine And.intro (fun _ => ?_) (fun _ => ?_) | refine And.intro (fun q => absurd q (by omega)) ?_ | refine And.intro (fun _ => ?_) ?_ | with_reducible intro _)
    refine s_M_common (by omega) (by omega) ⟨by omega, ?_⟩
    rw [n_td (by omega)]
    refine s_M_times hm (by omega) ⟨v3, v4⟩ z_u1 fun j2 M2 gm1 z1 z2 z3 z4 z5 => ?_
    obtain ⟨s1, s2⟩ := n_strip (p := 2) (by omega) j2 k2 M2 L2 (by rw [← z1, ← x1]) z2 x2
    subst s1; subst s2
    refine s_M_times hm (by omega) z3 z4 fun j5 M5 gm2 w1 w2 w3 w4 w5 => ?_
    have hs : mS gm gm2 := fun c i hk => by
      unfold mP mK at hk
      rw [w5 c i (by omega), z5 c i (by omega), z_u2 (by omega)]
    have e5 : (5 : Int) ^ j5 * (2 ^ j2 * M5) = 5 ^ k5 * L5 := by
      rw [← y1, x1, w1, Int.mul_left_comm]
    obtain ⟨s1, s2⟩ := n_strip (p := 5) (by omega) j5 k5 _ L5 e5 (n_two5 w2 j2) y2
    subst s1
    refine h gm2 hs M5 w1 w2 (fun hz => x2 ?_) w3 w4
    rw [w1, Int.mul_emod, hz, Int.mul_zero]; rfl
  refine ⟨fun c3 => ⟨fun c4 => mrun _ _ fun gm2 hs L' l1 l2 l3 l4 l5 => ⟨fun _ => ⟨fun _ => ⟨rfl, I.fin (xA.ch hf) hs.y (hs.c I.2.2.2.2) 0⟩, fun p => absurd c4 p⟩, fun p => absurd c3 p⟩, fun c4 => mrun _ _ fun gm2 hs L' l1 l2 l3 l4 l5 => ⟨fun _ => ⟨fun p => absurd p c4, fun _ => ⟨rfl, I.fin (xA.ch hf) hs.y (hs.c I.2.2.2.2) 0⟩⟩, fun p => absurd c3 p⟩⟩, fun c3 => ?_⟩
  rw [e4]
  refine s_F_without (by omega) x4 (by omega) x1 ?_
  have hL2 : (5 : Int) ^ k5 * (L2 / 5 ^ k5) = L2 ∧ (L2 / 5 ^ k5) % 5 ≠ 0 := by
    -- 5^k5 divides L2: as L2 has as many fives
    have : ∀ (k : Nat) (a b : Int), (2 : Int) ^ k * a = 5 ^ k5 * b → b % 5 ≠ 0 → ∃ a', a = 5 ^ k5 * a' ∧ a' % 5 ≠ 0 := by
      intro k
      induction k with
      | zero => intro a b h1 h2; rw [Int.pow_zero, Int.one_mul] at h1; exact ⟨b, h1, h2⟩
      | succ k ih =>
        intro a b h1 h2
        obtain ⟨a', h3, h4⟩ := ih (2 * a) b (by rw [← h1, Int.pow_succ, Int.mul_assoc]) h2
        -- 2a = 5^k5 a', so a' is even
        have h5 := n_five2 (x := a')
        have h6 : a' % 2 = 0 := by
          rcases (show a' % 2 = 0 ∨ a' % 2 ≠ 0 by omega) with c | c
          · exact c
          · have := n_five2 c k5
            rw [← h3] at this
            omega
        refine ⟨a' / 2, ?_, by omega⟩
        have h7 : a' = 2 * (a' / 2) := by omega
        rw [h7, Int.mul_left_comm] at h3
        exact Int.eq_of_mul_eq_mul_left (show (2 : Int) ≠ 0 by omega) h3
    obtain ⟨a', h1, h2⟩ := this k2 L2 L5 (by rw [← x1, ← y1]) y2
    have hp5 : (5 : Int) ^ k5 ≠ 0 := Int.pow_ne_zero (by omega)
    rw [show L2 / 5 ^ k5 = a' by rw [h1]; exact Int.mul_ediv_cancel_left _ hp5]
    exact ⟨h1.symm, h2⟩
  generalize L2 / 5 ^ k5 = L' at hL2
  have hL0 : 0 ≤ L' := by
    rcases Int.lt_or_le L' 0 with c | c
    · have := Int.mul_nonneg (Int.pow_nonneg (m := k5) (show (0 : Int) ≤ 5 by omega)) (show 0 ≤ -L' by omega)
      rw [Int.mul_neg, hL2.1] at this; omega
    · exact c
  refine s_F_without (by omega) y4 hL0 hL2.1.symm ?_
  have huniq : ∀ L'' : Int, L2 = 5 ^ k5 * L'' → L'' = L' := fun L'' h => Int.eq_of_mul_eq_mul_left (Int.pow_ne_zero (m := k5) (show (5 : Int) ≠ 0 by omega)) (by rw [← h, hL2.1])
  have hl1 : 1 ≤ L' := by
    have : L' ≠ 0 := fun e => hL2.2 (by rw [e]; rfl)
    omega
  have hl2 : L' % 2 ≠ 0 := fun hz => x2 (by rw [← hL2.1, Int.mul_emod, hz, Int.mul_zero]; rfl)
  by_cases c1 : L' = 1
  · refine b_F_periodOf_0 ⟨fun p => absurd p (by omega), fun _ => mrun _ _ fun gm2 hs L'' l1 l2 l3 l4 l5 => ⟨fun p => absurd p c3, fun _ => b_M_periodOf_0 hm ⟨fun _ => ⟨rfl, I.fin (xA.ch hf) hs.y (hs.c I.2.2.2.2) 0⟩, fun p => absurd (by rw [l5, huniq L'' l1]; exact c1) p⟩⟩⟩
  · have hl9 : L' ≤ 9999 := by
      have p5 : (1 : Int) ≤ 5 ^ k5 := Int.pow_pos (m := k5) (show (0 : Int) < 5 by omega)
      have := Int.mul_le_mul_of_nonneg_right p5 hL0
      omega
    rw [show L' = ((L'.toNat : Nat) : Int) by omega]
    have hcop : Nat.Coprime 10 L'.toNat := n_cop (by omega) (by have := hL2.2; omega)
    refine s_F_periodOf (by omega) hcop fun k hk => mrun _ _ fun gm2 hs L'' l1 l2 l3 l4 l5 => ⟨fun p => absurd p c3, fun _ => ?_⟩
    rw [l5, huniq L'' l1, show L' = ((L'.toNat : Nat) : Int) by omega]
    exact s_M_periodOf hm (by omega) hcop fun k' hk' => ⟨by rw [hk'.eq hk], I.fin (xA.ch hf) hs.y (hs.c I.2.2.2.2) 0⟩

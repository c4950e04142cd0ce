/-! numbers: Euclid, sums of quotients -/
theorem n_td {a b : Int} (h : 0 ≤ a) : Int.tdiv a b = a / b := Int.tdiv_eq_ediv_of_nonneg h
theorem n_tm {a b : Int} (h : 0 ≤ a) : Int.tmod a b = a % b := Int.tmod_eq_emod_of_nonneg h
theorem n_gcd_step {a b : Int} (ha : 0 ≤ a) (hb : 0 < b) : Int.gcd b (a % b) = Int.gcd a b := by
  obtain ⟨x, rfl⟩ := Int.eq_ofNat_of_zero_le ha
  obtain ⟨y, rfl⟩ := Int.eq_ofNat_of_zero_le (Int.le_of_lt hb)
  show Nat.gcd y (((x : Int) % (y : Int)).natAbs) = Nat.gcd x y
  rw [show ((x : Int) % (y : Int)) = ((x % y : Nat) : Int) by omega]
  show Nat.gcd y (x % y) = Nat.gcd x y
  rw [Nat.gcd_comm x y, Nat.gcd_rec y x, Nat.gcd_comm]
/-- the sum of the quotients of Euclid's way -/
def n_E (a b : Nat) : Nat := if h : b = 0 then 0 else a / b + n_E b (a % b)
termination_by b
decreasing_by exact Nat.mod_lt _ (Nat.pos_of_ne_zero h)
theorem n_E_0 (a : Nat) : n_E a 0 = 0 := by unfold n_E; simp
theorem n_E_s {a b : Nat} (h : b ≠ 0) : n_E a b = a / b + n_E b (a % b) := by
  conv => lhs; unfold n_E
  simp [h]
theorem n_E_lt {a b : Nat} (h : a < b) : n_E a b = n_E b a := by
  rw [n_E_s (by omega), Nat.div_eq_of_lt h, Nat.mod_eq_of_lt h, Nat.zero_add]
theorem n_E_add {a b : Nat} (h : 0 < b) : n_E (a + b) b = 1 + n_E a b := by
  rw [n_E_s (by omega), n_E_s (a := a) (by omega), Nat.add_div_right a h, Nat.add_mod_right]
  omega
theorem n_E_comm {a b : Nat} : n_E a b = n_E b a ∨ a = b := by
  rcases Nat.lt_trichotomy a b with h | h | h
  · exact Or.inl (n_E_lt h)
  · exact Or.inr h
  · exact Or.inl (n_E_lt h).symm
theorem n_E_sym (a b : Nat) : n_E a b = n_E b a := by
  rcases n_E_comm (a := a) (b := b) with h | h
  · exact h
  · rw [h]
theorem n_E_add' {a b : Nat} (h : 0 < b) : n_E b (a + b) = 1 + n_E a b := by rw [n_E_sym, n_E_add h]
/-- steps of Euclid's way: how many -/
def n_K (a b : Nat) : Nat := if h : b = 0 then 0 else 1 + n_K b (a % b)
termination_by b
decreasing_by exact Nat.mod_lt _ (Nat.pos_of_ne_zero h)
theorem n_K_0 (a : Nat) : n_K a 0 = 0 := by unfold n_K; simp
theorem n_K_s {a b : Nat} (h : b ≠ 0) : n_K a b = 1 + n_K b (a % b) := by
  conv => lhs; unfold n_K
  simp [h]
theorem n_mod_half {a b : Nat} (h : 0 < b) (hab : b ≤ a) : 2 * (a % b) < a := by
  have h1 := Nat.mod_lt a h
  have h2 := Nat.div_add_mod a b
  have h3 : 1 ≤ a / b := (Nat.le_div_iff_mul_le h).mpr (by omega)
  have h4 : b * 1 ≤ b * (a / b) := Nat.mul_le_mul_left b h3
  omega
theorem n_K_le : ∀ (k a b : Nat), b < 2 ^ k → n_K a b ≤ 2 * k := by
  intro k
  induction k with
  | zero => intro a b h; rw [show b = 0 by simpa using h, n_K_0]; omega
  | succ k ih =>
    intro a b h
    by_cases hb : b = 0
    · rw [hb, n_K_0]; omega
    · rw [n_K_s hb]
      by_cases hr : a % b = 0
      · rw [hr, n_K_0]; omega
      · rw [n_K_s hr]
        have h1 := Nat.mod_lt a (Nat.pos_of_ne_zero hb)
        have h2 := n_mod_half (Nat.pos_of_ne_zero hr) (Nat.le_of_lt h1)
        have := ih (a % b) (b % (a % b)) (by rw [Nat.pow_succ] at h; omega)
        omega
/-! the tree: low, high with determinant 1; the path -/
/-- tops t and bottom less top u of the fraction that a path comes to -/
def n_pf : List Bool → Nat × Nat
  | [] => (1, 1)
  | true :: w => ((n_pf w).1 + (n_pf w).2, (n_pf w).2)
  | false :: w => ((n_pf w).1, (n_pf w).1 + (n_pf w).2)
theorem n_pf_pos : ∀ w, 0 < (n_pf w).1 ∧ 0 < (n_pf w).2
  | [] => ⟨Nat.one_pos, Nat.one_pos⟩
  | true :: w => by have := n_pf_pos w; simp only [n_pf]; omega
  | false :: w => by have := n_pf_pos w; simp only [n_pf]; omega
theorem n_pf_E : ∀ w, n_E (n_pf w).1 (n_pf w).2 = w.length + 1
  | [] => by show n_E 1 1 = 1; rw [n_E_s (by omega)]; show 1 + n_E 1 0 = 1; rw [n_E_0]
  | true :: w => by
    have h := n_pf_pos w
    show n_E ((n_pf w).1 + (n_pf w).2) (n_pf w).2 = _
    rw [n_E_add h.2, n_pf_E w]; simp; omega
  | false :: w => by
    have h := n_pf_pos w
    show n_E (n_pf w).1 ((n_pf w).1 + (n_pf w).2) = _
    rw [n_E_sym, Nat.add_comm, n_E_add h.1, n_E_sym, n_pf_E w]; simp; omega
theorem n_depth (w : List Bool) : n_E (n_pf w).1 ((n_pf w).1 + (n_pf w).2) = w.length + 2 := by
  have h := n_pf_pos w
  rw [n_E_sym, Nat.add_comm, n_E_add h.1, n_E_sym, n_pf_E w]; omega
def n_act : List Bool → Nat × Nat → Nat × Nat
  | [], p => p
  | true :: w, p => ((n_act w p).1 + (n_act w p).2, (n_act w p).2)
  | false :: w, p => ((n_act w p).1, (n_act w p).1 + (n_act w p).2)
theorem n_act_pf : ∀ w, n_act w (1, 1) = n_pf w
  | [] => rfl
  | true :: w => by simp only [n_act, n_pf, n_act_pf w]
  | false :: w => by simp only [n_act, n_pf, n_act_pf w]
theorem n_act_add : ∀ (w : List Bool) (a b c d : Nat), n_act w (a + c, b + d) = ((n_act w (a, b)).1 + (n_act w (c, d)).1, (n_act w (a, b)).2 + (n_act w (c, d)).2)
  | [], a, b, c, d => rfl
  | true :: w, a, b, c, d => by simp only [n_act, n_act_add w a b c d]; ext <;> dsimp only <;> omega
  | false :: w, a, b, c, d => by simp only [n_act, n_act_add w a b c d]; ext <;> dsimp only <;> omega
theorem n_act_app : ∀ (w v : List Bool) (p : Nat × Nat), n_act (w ++ v) p = n_act w (n_act v p)
  | [], v, p => rfl
  | true :: w, v, p => by simp only [List.cons_append, n_act, n_act_app w v p]
  | false :: w, v, p => by simp only [List.cons_append, n_act, n_act_app w v p]
def n_sp (lt lb ht hb : Int) : Prop := 0 ≤ lt ∧ lt ≤ lb ∧ 1 ≤ lb ∧ 1 ≤ ht ∧ ht ≤ hb ∧ ht * lb - lt * hb = 1
theorem n_sp_root : n_sp 0 1 1 1 := by unfold n_sp; omega
theorem n_sp_left {lt lb ht hb : Int} (h : n_sp lt lb ht hb) : n_sp lt lb (lt + ht) (lb + hb) := by
  obtain ⟨h1, h2, h3, h4, h5, h6⟩ := h
  have e : (lt + ht) * lb - lt * (lb + hb) = ht * lb - lt * hb := by rw [Int.add_mul, Int.mul_add]; omega
  exact ⟨h1, h2, h3, by omega, by omega, by rw [e]; exact h6⟩
theorem n_sp_right {lt lb ht hb : Int} (h : n_sp lt lb ht hb) : n_sp (lt + ht) (lb + hb) ht hb := by
  obtain ⟨h1, h2, h3, h4, h5, h6⟩ := h
  have e : ht * (lb + hb) - (lt + ht) * hb = ht * lb - lt * hb := by rw [Int.add_mul, Int.mul_add]; omega
  exact ⟨by omega, by omega, by omega, h4, h5, by rw [e]; exact h6⟩
/-- one up: the one of the two with the greater bottom was told later -/
theorem n_sp_upL {lt lb ht hb : Int} (h : n_sp lt lb ht hb) (hc : lb < hb) : n_sp lt lb (ht - lt) (hb - lb) := by
  obtain ⟨h1, h2, h3, h4, h5, h6⟩ := h
  have e : (ht - lt) * lb - lt * (hb - lb) = ht * lb - lt * hb := by rw [Int.sub_mul, Int.mul_sub]; omega
  have k1 : lt * (lb + 1) ≤ lt * hb := Int.mul_le_mul_of_nonneg_left (by omega) h1
  have k2 : lt * (lb + 1) = lt * lb + lt := by rw [Int.mul_add]; omega
  have k3 : lt < ht := by
    rcases Int.lt_or_le lt ht with q | q
    · exact q
    · have := Int.mul_le_mul_of_nonneg_right q (show 0 ≤ lb by omega)
      omega
  have k4 : lb - lt ≤ hb - ht := by
    rcases Int.lt_or_le (hb - ht) (lb - lt) with q | q
    · exfalso
      -- ht >= lt + 2 + .., det at least 2
      have e2 : ht * lb - lt * hb = ht * (lb - lt) - lt * (hb - ht) := by rw [Int.mul_sub, Int.mul_sub, Int.mul_comm ht lt]; omega
      have q1 : (lt + 2) * (lb - lt) ≤ ht * (lb - lt) := Int.mul_le_mul_of_nonneg_right (by omega) (by omega)
      have q2 : lt * (hb - ht) ≤ lt * (lb - lt - 1) := Int.mul_le_mul_of_nonneg_left (by omega) h1
      have q3 : (lt + 2) * (lb - lt) = lt * (lb - lt) + 2 * (lb - lt) := by rw [Int.add_mul]
      have q4 : lt * (lb - lt - 1) = lt * (lb - lt) - lt := by rw [Int.mul_sub]; omega
      omega
    · exact q
  exact ⟨h1, h2, h3, by omega, by omega, by rw [e]; exact h6⟩
theorem n_sp_upR {lt lb ht hb : Int} (h : n_sp lt lb ht hb) (hc : hb < lb) : n_sp (lt - ht) (lb - hb) ht hb := by
  obtain ⟨h1, h2, h3, h4, h5, h6⟩ := h
  have e : ht * (lb - hb) - (lt - ht) * hb = ht * lb - lt * hb := by rw [Int.sub_mul, Int.mul_sub]; omega
  have k3 : ht ≤ lt := by
    rcases Int.lt_or_le lt ht with q | q
    · exfalso
      have q1 : ht * (hb + 1) ≤ ht * lb := Int.mul_le_mul_of_nonneg_left (by omega) (by omega)
      have q2 : lt * hb ≤ (ht - 1) * hb := Int.mul_le_mul_of_nonneg_right (by omega) (by omega)
      have q3 : ht * (hb + 1) = ht * hb + ht := by rw [Int.mul_add]; omega
      have q4 : (ht - 1) * hb = ht * hb - hb := by rw [Int.sub_mul]; omega
      omega
    · exact q
  have k4 : hb - ht ≤ lb - lt := by
    rcases Int.lt_or_le (lb - lt) (hb - ht) with q | q
    · exfalso
      have e2 : ht * lb - lt * hb = ht * (lb - lt) - lt * (hb - ht) := by rw [Int.mul_sub, Int.mul_sub, Int.mul_comm ht lt]; omega
      have q1 : ht * (lb - lt) ≤ lt * (lb - lt) := Int.mul_le_mul_of_nonneg_right k3 (by omega)
      have q2 : lt * (lb - lt) ≤ lt * (hb - ht) := Int.mul_le_mul_of_nonneg_left (by omega) h1
      omega
    · exact q
  exact ⟨by omega, by omega, by omega, h4, h5, by rw [e]; exact h6⟩
theorem n_sp_eq {lt lb ht hb : Int} (h : n_sp lt lb ht hb) (hc : lb = hb) : lt = 0 ∧ lb = 1 ∧ ht = 1 ∧ hb = 1 := by
  obtain ⟨h1, h2, h3, h4, h5, h6⟩ := h
  subst hc
  have e : ht * lb - lt * lb = (ht - lt) * lb := by rw [Int.sub_mul]
  rw [e] at h6
  have k : lb = 1 := by
    have k1 : lb ∣ 1 := ⟨ht - lt, by rw [Int.mul_comm]; exact h6.symm⟩
    exact Int.eq_one_of_dvd_one (by omega) k1
  subst k
  omega
theorem n_sp_path : ∀ (n : Nat) (lt lb ht hb : Int), (lb + hb).toNat ≤ n → n_sp lt lb ht hb → ∃ w : List Bool, ((n_act w (0, 1)).1 : Int) = lt ∧ ((n_act w (0, 1)).2 : Int) = lb - lt ∧ ((n_act w (1, 0)).1 : Int) = ht ∧ ((n_act w (1, 0)).2 : Int) = hb - ht := by
  intro n
  induction n with
  | zero => intro lt lb ht hb h1 h2; unfold n_sp at h2; omega
  | succ n ih =>
    intro lt lb ht hb h1 h2
    have h2' := h2
    unfold n_sp at h2'
    rcases Int.lt_trichotomy lb hb with q | q | q
    · obtain ⟨w, a1, a2, a3, a4⟩ := ih lt lb (ht - lt) (hb - lb) (by omega) (n_sp_upL h2 q)
      refine ⟨w ++ [false], ?_⟩
      have e := n_act_add w 0 1 1 0
      rw [n_act_app, n_act_app]
      show ((n_act w (0, 1)).1 : Int) = lt ∧ ((n_act w (0, 1)).2 : Int) = lb - lt ∧ ((n_act w (0 + 1, 1 + 0)).1 : Int) = ht ∧ ((n_act w (0 + 1, 1 + 0)).2 : Int) = hb - ht
      rw [e]
      dsimp only
      omega
    · obtain ⟨e1, e2, e3, e4⟩ := n_sp_eq h2 q
      subst e1; subst e2; subst e3; subst e4
      exact ⟨[], by decide⟩
    · obtain ⟨w, a1, a2, a3, a4⟩ := ih (lt - ht) (lb - hb) ht hb (by omega) (n_sp_upR h2 q)
      refine ⟨w ++ [true], ?_⟩
      have e := n_act_add w 0 1 1 0
      rw [n_act_app, n_act_app]
      show ((n_act w (0 + 1, 1 + 0)).1 : Int) = lt ∧ ((n_act w (0 + 1, 1 + 0)).2 : Int) = lb - lt ∧ ((n_act w (1, 0)).1 : Int) = ht ∧ ((n_act w (1, 0)).2 : Int) = hb - ht
      rw [e]
      dsimp only
      omega
/-- depth and two: the sum of quotients -/
def n_D (t b : Int) : Int := (n_E t.toNat b.toNat : Int) - 2
theorem n_D_path {lt lb ht hb : Int} (h : n_sp lt lb ht hb) : ∃ w : List Bool, n_D (lt + ht) (lb + hb) = w.length ∧ n_D (lt + (lt + ht)) (lb + (lb + hb)) = w.length + 1 ∧ n_D ((lt + ht) + ht) ((lb + hb) + hb) = w.length + 1 := by
  obtain ⟨w, a1, a2, a3, a4⟩ := n_sp_path _ _ _ _ _ (Nat.le_refl _) h
  have e0 := n_act_add w 0 1 1 0
  have key : ∀ (v : List Bool) (t b : Int), ((n_pf v).1 : Int) = t → ((n_pf v).2 : Int) = b - t → n_D t b = v.length := by
    intro v t b e1 e2
    unfold n_D
    rw [show t.toNat = (n_pf v).1 by omega, show b.toNat = (n_pf v).1 + (n_pf v).2 by omega, n_depth v]
    omega
  have p0 : n_pf w = ((n_act w (0, 1)).1 + (n_act w (1, 0)).1, (n_act w (0, 1)).2 + (n_act w (1, 0)).2) := by
    rw [← n_act_pf, ← e0]
  have pL : n_pf (w ++ [false]) = ((n_act w (0, 1)).1 + (n_pf w).1, (n_act w (0, 1)).2 + (n_pf w).2) := by
    rw [← n_act_pf, n_act_app, ← n_act_pf w]
    exact n_act_add w 0 1 1 1
  have pR : n_pf (w ++ [true]) = ((n_pf w).1 + (n_act w (1, 0)).1, (n_pf w).2 + (n_act w (1, 0)).2) := by
    rw [← n_act_pf, n_act_app, ← n_act_pf w]
    exact n_act_add w 1 1 1 0
  refine ⟨w, key w _ _ ?_ ?_, ?_, ?_⟩
  · rw [p0]; dsimp only; omega
  · rw [p0]; dsimp only; omega
  · have := key (w ++ [false]) (lt + (lt + ht)) (lb + (lb + hb)) (by rw [pL, p0]; dsimp only; omega) (by rw [pL, p0]; dsimp only; omega)
    rw [this]; simp
  · have := key (w ++ [true]) (lt + ht + ht) (lb + hb + hb) (by rw [pR, p0]; dsimp only; omega) (by rw [pR, p0]; dsimp only; omega)
    rw [this]; simp
theorem n_D_left {lt lb ht hb : Int} (h : n_sp lt lb ht hb) : n_D (lt + (lt + ht)) (lb + (lb + hb)) = n_D (lt + ht) (lb + hb) + 1 := by
  obtain ⟨w, a, b, c⟩ := n_D_path h
  rw [a, b]
theorem n_D_right {lt lb ht hb : Int} (h : n_sp lt lb ht hb) : n_D (lt + ht + ht) (lb + hb + hb) = n_D (lt + ht) (lb + hb) + 1 := by
  obtain ⟨w, a, b, c⟩ := n_D_path h
  rw [a, c]
theorem n_D_nonneg {lt lb ht hb : Int} (h : n_sp lt lb ht hb) : 0 ≤ n_D (lt + ht) (lb + hb) := by
  obtain ⟨w, a, b, c⟩ := n_D_path h
  rw [a]; omega
theorem n_D_flip {t b : Int} (h0 : 0 < t) (h1 : t < b) : n_D (b - t) b = n_D t b := by
  unfold n_D
  have e1 := n_E_add' (a := b.toNat - t.toNat) (b := t.toNat) (by omega)
  have e2 := n_E_add' (a := t.toNat) (b := b.toNat - t.toNat) (by omega)
  rw [show b.toNat - t.toNat + t.toNat = b.toNat by omega] at e1
  rw [show t.toNat + (b.toNat - t.toNat) = b.toNat by omega] at e2
  rw [show (b - t).toNat = b.toNat - t.toNat by omega, e1, e2, n_E_sym]
/-- the two that a fraction is between are the only ones -/
theorem n_inv {lt lb ht hb l k : Int} (h : n_sp lt lb ht hb) (h1 : 1 ≤ l) (h2 : l < lb + hb) (h3 : (lt + ht) * l = 1 + k * (lb + hb)) : l = lb ∧ k = lt := by
  obtain ⟨g1, g2, g3, g4, g5, g6⟩ := h
  have e : (lt + ht) * lb - lt * (lb + hb) = 1 := by rw [Int.add_mul, Int.mul_add]; omega
  generalize lt + ht = t at h3 e
  generalize hbb : lb + hb = b at h2 h3 e
  have d : b ∣ (lb - l) := by
    refine ⟨lb * (lt - k) - lt * (lb - l), ?_⟩
    have x1 : t * (lb - l) = (lt - k) * b := by rw [Int.mul_sub, Int.sub_mul]; omega
    generalize lb - l = D at x1
    have x2 : D * 1 = D * (t * lb - lt * b) := by rw [e]
    have x3 : D * (t * lb - lt * b) = lb * (t * D) - lt * b * D := by
      rw [Int.mul_sub, Int.mul_comm D (t * lb), Int.mul_comm t lb, Int.mul_assoc lb t D, Int.mul_comm D (lt * b)]
    have y1 : lb * ((lt - k) * b) = b * (lb * (lt - k)) := by rw [Int.mul_comm (lt - k) b, ← Int.mul_assoc, Int.mul_comm lb b, Int.mul_assoc]
    have y2 : lt * b * D = b * (lt * D) := by rw [Int.mul_comm lt b, Int.mul_assoc]
    rw [x1] at x3
    rw [Int.mul_sub]
    omega
  obtain ⟨m, hm⟩ := d
  have hm0 : m = 0 := by
    rcases Int.lt_trichotomy m 0 with q | q | q
    · have := Int.mul_le_mul_of_nonneg_left (show m ≤ -1 by omega) (show 0 ≤ b by omega)
      omega
    · exact q
    · have := Int.mul_le_mul_of_nonneg_left (show 1 ≤ m by omega) (show 0 ≤ b by omega)
      omega
  subst hm0
  have hl : l = lb := by omega
  subst hl
  refine ⟨rfl, ?_⟩
  have : (k - lt) * b = 0 := by rw [Int.sub_mul]; omega
  rcases Int.mul_eq_zero.mp this with q | q
  · omega
  · omega

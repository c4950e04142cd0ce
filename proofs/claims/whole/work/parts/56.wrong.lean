/-! ## wrong -/
def n_wy (n : Nat) : Nat → Nat
  | 0 => 1
  | j + 1 => n_wy n j * (n - j) / (j + 1)
theorem n_wy_p : ∀ n < 13, ∀ i < 13, n_wy (n + 1) (i + 1) = n_wy n i + n_wy n (i + 1) := by decide +kernel
theorem n_wy_le : ∀ n < 13, ∀ i < 14, n_wy n i ≤ 924 := by decide +kernel
theorem n_wy_0 : ∀ n < 13, ∀ i < 14, n < i → n_wy n i = 0 := by decide +kernel
def n_T (n : Nat) (o : Int) (i : Nat) : Int := (n_wy n i : Int) * (o ^ i * (16 - o) ^ (n - i))
theorem n_T_0 {n : Nat} (hn : n < 13) (o : Int) {i : Nat} (hi : i < 14) (h : n < i) : n_T n o i = 0 := by
  unfold n_T; rw [n_wy_0 n hn i hi h]; simp
theorem n_T_a (n : Nat) (o : Int) : n_T (n + 1) o 0 = n_T n o 0 * (16 - o) := by
  unfold n_T
  rw [show n_wy (n + 1) 0 = 1 from rfl, show n_wy n 0 = 1 from rfl, Nat.sub_zero, Nat.sub_zero, Int.pow_succ, Int.pow_zero]
  simp
theorem n_T_s {n : Nat} (hn : n < 12) (o : Int) {i : Nat} (hi : i < 12) : n_T (n + 1) o (i + 1) = n_T n o (i + 1) * (16 - o) + n_T n o i * o := by
  unfold n_T
  rw [n_wy_p n (by omega) i (by omega), show n + 1 - (i + 1) = n - i by omega, Int.pow_succ o i]
  by_cases c : i + 1 ≤ n
  · rw [show n - i = (n - (i + 1)) + 1 by omega, Int.pow_succ (16 - o)]
    generalize o ^ i = x
    generalize (16 - o) ^ (n - (i + 1)) = y
    generalize 16 - o = q
    rw [Int.natCast_add, Int.add_mul, Int.add_comm]
    congr 1 <;> ac_rfl
  · rw [n_wy_0 n (by omega) (i + 1) (by omega) (by omega), show n - i = 0 by omega]
    simp [Int.mul_assoc]
theorem n_pw {o : Int} (h : 0 ≤ o ∧ o ≤ 16) : ∀ i : Nat, 0 ≤ o ^ i ∧ o ^ i ≤ 16 ^ i
  | 0 => by rw [Int.pow_zero, Int.pow_zero]; omega
  | i + 1 => by
    have ih := n_pw h i
    rw [Int.pow_succ, Int.pow_succ]
    have h1 : o ^ i * o ≤ 16 ^ i * o := Int.mul_le_mul_of_nonneg_right ih.2 h.1
    have h2 : (16 : Int) ^ i * o ≤ 16 ^ i * 16 := Int.mul_le_mul_of_nonneg_left h.2 (Int.pow_nonneg (by omega))
    exact ⟨Int.mul_nonneg ih.1 h.1, by omega⟩
theorem n_16 : ∀ n : Nat, n < 13 → (1 : Int) ≤ 16 ^ n ∧ (16 : Int) ^ n ≤ 281474976710656 := by decide
theorem n_T_le {n : Nat} (hn : n < 13) {o : Int} (h : 0 ≤ o ∧ o ≤ 16) {i : Nat} (hi : i < 14) : 0 ≤ n_T n o i ∧ n_T n o i ≤ 924 * 16 ^ n := by
  by_cases c : n < i
  · rw [n_T_0 hn o hi c]
    have := n_16 n hn
    omega
  · unfold n_T
    have a := n_pw h i
    have b := n_pw (o := 16 - o) (by omega) (n - i)
    have w := n_wy_le n hn i hi
    have e : (16 : Int) ^ n = 16 ^ i * 16 ^ (n - i) := by rw [← Int.pow_add]; congr 1; omega
    have m0 : 0 ≤ o ^ i * (16 - o) ^ (n - i) := Int.mul_nonneg a.1 b.1
    have m1 : o ^ i * (16 - o) ^ (n - i) ≤ 16 ^ i * (16 - o) ^ (n - i) := Int.mul_le_mul_of_nonneg_right a.2 b.1
    have m2 : (16 : Int) ^ i * (16 - o) ^ (n - i) ≤ 16 ^ i * 16 ^ (n - i) := Int.mul_le_mul_of_nonneg_left b.2 (Int.pow_nonneg (by omega))
    rw [e]
    generalize (16 : Int) ^ i * 16 ^ (n - i) = Z at *
    generalize o ^ i * (16 - o) ^ (n - i) = W at *
    have m3 : (n_wy n i : Int) * W ≤ 924 * W := Int.mul_le_mul_of_nonneg_right (by omega) m0
    exact ⟨Int.mul_nonneg (by omega) m0, by omega⟩
/-- the sum of those from k on, below j -/
def n_Sg (n k : Nat) (o : Int) : Nat → Int
  | 0 => 0
  | j + 1 => n_Sg n k o j + (if k ≤ j then n_T n o j else 0)
theorem n_Sg_le {n : Nat} (hn : n < 13) (k : Nat) {o : Int} (h : 0 ≤ o ∧ o ≤ 16) : ∀ j : Nat, j ≤ 14 → 0 ≤ n_Sg n k o j ∧ n_Sg n k o j ≤ j * (924 * 281474976710656)
  | 0, _ => by unfold n_Sg; omega
  | j + 1, hj => by
    have ih := n_Sg_le hn k h j (by omega)
    have t := n_T_le hn h (i := j) (by omega)
    have := n_16 n hn
    unfold n_Sg
    split <;> omega
theorem n_Sg_k (n k : Nat) (o : Int) : ∀ j : Nat, j ≤ k → n_Sg n k o j = 0
  | 0, _ => rfl
  | j + 1, hj => by unfold n_Sg; rw [n_Sg_k n k o j (by omega), if_neg (by omega)]; rfl
theorem n_Sg_n {n : Nat} (hn : n < 13) (k : Nat) (o : Int) : ∀ m : Nat, n + 1 + m ≤ 13 → n_Sg n k o (n + 1 + m) = n_Sg n k o (n + 1)
  | 0, _ => rfl
  | m + 1, hm => by
    show n_Sg n k o (n + 1 + m + 1) = _
    rw [n_Sg, n_Sg_n hn k o m (by omega), n_T_0 hn o (by omega) (by omega)]
    split <;> omega
theorem s_F_power {X : z_X} {N : Nat} {σ g : z_G} {Q : z_P} {o : Int} {k : Nat} (h : 0 ≤ o ∧ o ≤ 16) (hk : k < 13) (hq : Q (o ^ k) g) : z_O X 1 m_F_power [(1, o), (0, (k : Int))] N σ g Q := by
  refine b_F_power_0 ?_
  have loop : ∀ (m x : Nat), x + m = k → L_F_power_5 X N σ o k (o ^ x) x g Q := by
    intro m
    induction m with
    | zero => exact fun x h1 => b_F_power_5 ⟨fun _ => by rw [show x = k by omega]; exact hq, fun p => absurd (by omega) p⟩
    | succ m ih =>
      intro x h1
      have a := n_pw h (x + 1)
      have b := n_16 (x + 1) (by omega)
      rw [Int.pow_succ o x] at a
      exact b_F_power_5 ⟨fun p => absurd p (by omega), fun _ => ⟨by omega, by omega, by rw [← Int.pow_succ]; exact ih (x + 1) (by omega)⟩⟩
  have := loop k 0 (by omega)
  rw [Int.pow_zero] at this
  exact this
theorem s_M_wrongBy {X : z_X} {N : Nat} {σ g : z_G} {Q : z_P} (hm : z_lay X N σ 0 z_SM z_RM) {n : Nat} {k : Int} (hn : n < 13) (ho : 0 ≤ g 1 0 ∧ g 1 0 ≤ 16) (hq : ∀ g', (∀ c i, c ≠ 14 → g' c i = g c i) → (∀ i : Nat, i < 13 → g' 14 i = n_T n (g 1 0) i) → L_M_wrong_159 X N σ (16 ^ n) 0 k g' Q) : L_M_wrong_35 X N σ n k 1 0 g Q := by
  -- the rounds
  have outer : ∀ (r m : Nat) (g' : z_G), m + r = n → (∀ c i, c ≠ 14 → g' c i = g c i) → (∀ i : Nat, i < 13 → g' 14 i = n_T m (g 1 0) i) → L_M_wrong_68 X N σ n k (16 ^ m) m g' Q := by
    intro r
    induction r with
    | zero =>
      intro m g' h1 h2 h3
      have : m = n := by omega
      subst this
      exact b_M_wrong_68 hm ⟨fun _ => hq g' h2 h3, fun p => absurd (by omega) p⟩
    | succ r ih =>
      intro m g' h1 h2 h3
      have e16 := n_16 m (by omega)
      refine b_M_wrong_68 hm ⟨fun p => absurd p (by omega), fun _ => ?_⟩
      have inner : ∀ (j : Nat) (g2 : z_G), j ≤ 13 → (∀ c i, c ≠ 14 → g2 c i = g c i) → (∀ i : Nat, i < 13 → g2 14 i = if i < j then n_T m (g 1 0) i else n_T (m + 1) (g 1 0) i) → L_M_wrong_78 X N σ n k (16 ^ m) m ((j : Int) - 1) g2 Q := by
        intro j
        induction j with
        | zero =>
          intro g2 k1 k2 k3
          refine b_M_wrong_78 hm ⟨fun _ => ⟨by omega, by omega, ?_⟩, fun p => absurd (by omega) p⟩
          rw [← Int.pow_succ]
          exact ih (m + 1) g2 (by omega) k2 (fun i hi => by rw [k3 i hi, if_neg (by omega)])
        | succ j ihj =>
          intro g2 k1 k2 k3
          rw [show (((j + 1 : Nat) : Int) - 1) = (j : Int) by omega]
          have o1 : g2 1 0 = g 1 0 := k2 _ _ (by omega)
          have t0 := n_T_le (n := m) (by omega) ho (i := j) (by omega)
          have w0 : g2 14 j = n_T m (g 1 0) j := by rw [k3 j (by omega), if_pos (by omega)]
          have e15 := n_16 (m + 1) (by omega)
          have hb : 0 ≤ n_T m (g 1 0) j * (16 - g 1 0) ∧ n_T m (g 1 0) j * (16 - g 1 0) ≤ 924 * 16 ^ m * 16 := by
            have m1 : n_T m (g 1 0) j * (16 - g 1 0) ≤ n_T m (g 1 0) j * 16 := Int.mul_le_mul_of_nonneg_left (by omega) t0.1
            exact ⟨Int.mul_nonneg t0.1 (by omega), by omega⟩
          have nx : ∀ g3 : z_G, g3 = z_up g2 14 j (n_T (m + 1) (g 1 0) j) → L_M_wrong_78 X N σ n k (16 ^ m) m ((j : Int) + -1) g3 Q := by
            intro g3 e3
            have := ihj g3 (by omega) (fun c i hc => by rw [e3, z_u2 (Or.inl hc)]; exact k2 c i hc) (fun i hi => by
              rw [e3]
              by_cases c : i = j
              · rw [c, z_u1, if_neg (by omega)]
              · rw [z_u2 (Or.inr (by omega)), k3 i hi]
                by_cases c2 : i < j
                · rw [if_pos (by omega), if_pos c2]
                · rw [if_neg (by omega), if_neg c2])
            rw [show (j : Int) + -1 = (j : Int) - 1 by omega]; exact this
          refine b_M_wrong_78 hm ⟨fun p => absurd p (by omega), fun _ => ?_⟩
          rw [o1, w0]
          refine ⟨by omega, by omega, by rw [Int.pow_succ] at e15; omega, fun p => ⟨by rw [Int.pow_succ] at e15; omega, by omega, nx _ ?_⟩, fun p => ?_⟩
          · have : j = 0 := by omega
            subst this
            rw [n_T_a, Int.add_zero]
          · obtain ⟨i, rfl⟩ : ∃ i, j = i + 1 := ⟨j - 1, by omega⟩
            rw [show (((i + 1 : Nat) : Int) - 1) = (i : Int) by omega]
            have w1 : g2 14 i = n_T m (g 1 0) i := by rw [k3 i (by omega), if_pos (by omega)]
            have t1 := n_T_le (n := m) (by omega) ho (i := i) (by omega)
            have t2 := n_T_le (n := m + 1) (by omega) ho (i := i + 1) (by omega)
            have es := n_T_s (n := m) (by omega) (g 1 0) (i := i) (by omega)
            have hb2 : 0 ≤ n_T m (g 1 0) i * g 1 0 := Int.mul_nonneg t1.1 ho.1
            rw [w1]
            refine ⟨by omega, by omega, by omega, by omega, by omega, nx _ ?_⟩
            rw [es]
      have := inner 13 g' (by omega) h2 (fun i hi => by rw [if_pos hi]; exact h3 i hi)
      exact this
  -- the beginning
  have init : ∀ (r x : Nat) (g' : z_G), x + r = 13 → (∀ c i, c ≠ 14 → g' c i = g c i) → (∀ i : Nat, i < x → g' 14 i = n_T 0 (g 1 0) i) → L_M_wrong_35 X N σ n k 1 x g' Q := by
    intro r
    induction r with
    | zero =>
      intro x g' h1 h2 h3
      have := outer n 0 g' (by omega) h2 (fun i hi => h3 i (by omega))
      rw [Int.pow_zero] at this
      exact b_M_wrong_35 hm ⟨fun _ => this, fun p => absurd (by omega) p⟩
    | succ r ih =>
      intro x g' h1 h2 h3
      have nx : ∀ v : Int, v = n_T 0 (g 1 0) x → L_M_wrong_35 X N σ n k 1 ((x : Int) + 1) (z_up g' 14 x v) Q := fun v hv => ih (x + 1) _ (by omega) (fun c i hc => by rw [z_u2 (Or.inl hc)]; exact h2 c i hc) (fun i hi => by
        by_cases c : i = x
        · rw [c, z_u1, hv]
        · rw [z_u2 (Or.inr (by omega))]; exact h3 i (by omega))
      refine b_M_wrong_35 hm ⟨fun p => absurd p (by omega), fun _ => ⟨fun p => ⟨by omega, by omega, nx 1 ?_⟩, fun p => ⟨by omega, by omega, nx 0 ?_⟩⟩⟩
      · rw [show x = 0 by omega]
        unfold n_T
        rw [show n_wy 0 0 = 1 from rfl, Int.pow_zero]; simp
      · rw [n_T_0 (by omega) (g 1 0) (by omega) (by omega)]
  exact init 13 0 g (by omega) (fun _ _ _ => rfl) (fun i hi => by omega)

/-! ## Spans: standing on a chain, the parent -/
theorem n_sp_mk {x y t b : Int} (h0 : 0 < t ∧ t < b) (hy : 1 ≤ y ∧ y < b) (hx : 0 ≤ x) (h : t * y - x * b = 1) : n_sp x y (t - x) (b - y) := by
  have k1 : x ≤ y := by
    have a1 : t * y ≤ b * y := Int.mul_le_mul_of_nonneg_right (by omega) (by omega)
    have a2 : x * b < y * b := by rw [Int.mul_comm y b]; omega
    have := Int.lt_of_mul_lt_mul_right a2 (by omega)
    omega
  have e1 : (t - x) * b = t * (b - y) + 1 := by rw [Int.sub_mul, Int.mul_sub]; omega
  have k2 : 1 ≤ t - x := by
    have a1 : 0 ≤ t * (b - y) := Int.mul_nonneg (by omega) (by omega)
    have a2 : 0 * b < (t - x) * b := by omega
    have := Int.lt_of_mul_lt_mul_right a2 (by omega)
    omega
  have k3 : t - x ≤ b - y := by
    have a1 : (t + 1) * (b - y) ≤ b * (b - y) := Int.mul_le_mul_of_nonneg_right (by omega) (by omega)
    have a3 : (t + 1) * (b - y) = t * (b - y) + (b - y) := by rw [Int.add_mul, Int.one_mul]
    have a2 : (t - x) * b ≤ (b - y) * b := by rw [Int.mul_comm (b - y) b]; omega
    exact Int.le_of_mul_le_mul_right a2 (by omega)
  refine ⟨hx, k1, hy.1, k2, k3, ?_⟩
  have e2 : (t - x) * y = t * y - x * y := Int.sub_mul ..
  have e3 : x * (b - y) = x * b - x * y := Int.mul_sub ..
  omega
theorem n_E_scale (c : Nat) (hc : 0 < c) : ∀ (n a b : Nat), b ≤ n → n_E (c * a) (c * b) = n_E a b := by
  intro n
  induction n with
  | zero => intro a b h; rw [show b = 0 by omega, Nat.mul_zero, n_E_0, n_E_0]
  | succ n ih =>
    intro a b h
    by_cases hb : b = 0
    · rw [hb, Nat.mul_zero, n_E_0, n_E_0]
    · have hm := Nat.mod_lt a (Nat.pos_of_ne_zero hb)
      have h2 : 0 < c * b := Nat.mul_pos hc (Nat.pos_of_ne_zero hb)
      rw [n_E_s hb, n_E_s (by omega), Nat.mul_div_mul_left _ _ hc, Nat.mul_mod_mul_left, ih b (a % b) (by omega)]
theorem n_D_red {t b : Int} (ht : 0 ≤ t) (hb : 0 < b) : n_D (t / Int.gcd t b) (b / Int.gcd t b) = n_D t b := by
  have hp : 0 < Int.gcd t b := Int.gcd_pos_of_ne_zero_right t (by omega)
  obtain ⟨y, hy⟩ := Int.gcd_dvd_right t b
  obtain ⟨x, hx⟩ := Int.gcd_dvd_left t b
  generalize Int.gcd t b = c at *
  have e1 : t / (c : Int) = x := by rw [hx]; exact Int.mul_ediv_cancel_left x (by omega)
  have e2 : b / (c : Int) = y := by rw [hy]; exact Int.mul_ediv_cancel_left y (by omega)
  rw [e1, e2]
  have p1 : 0 ≤ x := by
    have : (c : Int) * 0 ≤ c * x := by omega
    exact Int.le_of_mul_le_mul_left this (by omega)
  have p2 : 0 ≤ y := by
    have : (c : Int) * 0 ≤ c * y := by omega
    exact Int.le_of_mul_le_mul_left this (by omega)
  unfold n_D
  rw [← n_E_scale c hp y.toNat x.toNat y.toNat (Nat.le_refl _)]
  have f1 : t.toNat = c * x.toNat := by rw [hx, Int.toNat_mul (by omega) p1, Int.toNat_natCast]
  have f2 : b.toNat = c * y.toNat := by rw [hy, Int.toNat_mul (by omega) p2, Int.toNat_natCast]
  rw [f1, f2]
def n_par (a b : Nat) : Nat × Nat := if h : b = 0 then (0, 0) else if a % b = 0 then (a / b - 1, 1) else (a / b * (n_par b (a % b)).1 + (n_par b (a % b)).2, (n_par b (a % b)).1)
termination_by b
decreasing_by all_goals exact Nat.mod_lt _ (Nat.pos_of_ne_zero h)
theorem n_par_e {a b : Nat} (h : b ≠ 0) (h2 : a % b = 0) : n_par a b = (a / b - 1, 1) := by
  unfold n_par; rw [dif_neg h, if_pos h2]
theorem n_par_s {a b : Nat} (h : b ≠ 0) (h2 : a % b ≠ 0) : n_par a b = (a / b * (n_par b (a % b)).1 + (n_par b (a % b)).2, (n_par b (a % b)).1) := by
  conv => lhs; unfold n_par
  rw [dif_neg h, if_neg h2]
theorem n_par_f : ∀ (m a b : Nat), b ≤ m → 1 ≤ b → b < a → ((n_par a b).1 * b + Nat.gcd a b = (n_par a b).2 * a ∨ (n_par a b).1 * b = (n_par a b).2 * a + Nat.gcd a b) ∧ a ≤ 2 * ((n_par a b).1 * Nat.gcd a b) ∧ (n_par a b).1 * Nat.gcd a b < a ∧ b ≤ 2 * ((n_par a b).2 * Nat.gcd a b) ∧ (n_par a b).2 * Nat.gcd a b ≤ b := by
  intro m
  induction m with
  | zero => intro a b h h1 h2; omega
  | succ m ih =>
    intro a b h h1 h2
    have hm := Nat.mod_lt a h1
    have ea := Nat.div_add_mod a b
    have hg : Nat.gcd a b = Nat.gcd b (a % b) := by rw [Nat.gcd_comm a b, Nat.gcd_rec b a, Nat.gcd_comm]
    have hq : 1 ≤ a / b := Nat.div_pos (by omega) h1
    by_cases hr : a % b = 0
    · rw [n_par_e (by omega) hr, hg, hr, Nat.gcd_zero_right]
      rw [hr] at ea
      generalize a / b = q at *
      have hq2 : 2 ≤ q := by
        rcases q with _ | _ | q
        · omega
        · rw [Nat.zero_add, Nat.mul_one] at ea; omega
        · omega
      have e1 : (q - 1) * b = b * q - b := by rw [Nat.sub_mul, Nat.mul_comm q b, Nat.one_mul]
      have e2 : b * 2 ≤ b * q := Nat.mul_le_mul_left b hq2
      simp only [Nat.one_mul]
      omega
    · rw [n_par_s (by omega) hr, hg]
      obtain ⟨i1, i2, i3, i4, i5⟩ := ih b (a % b) (by omega) (by omega) hm
      generalize n_par b (a % b) = p at *
      obtain ⟨n, d⟩ := p
      generalize Nat.gcd b (a % b) = G at *
      generalize a / b = q at *
      generalize a % b = r at *
      simp only at *
      subst ea
      have e1 : (q * n + d) * b = n * (b * q) + d * b := by rw [Nat.add_mul, Nat.mul_comm b q, Nat.mul_assoc, Nat.mul_left_comm q n b]
      have e2 : n * (b * q + r) = n * (b * q) + n * r := Nat.mul_add ..
      have e3 : (q * n + d) * G = q * (n * G) + d * G := by rw [Nat.add_mul, Nat.mul_assoc]
      have l1 : q * b ≤ q * (2 * (n * G)) := Nat.mul_le_mul_left q i2
      have l2 : q * (n * G + 1) ≤ q * b := Nat.mul_le_mul_left q i3
      have e4 : q * (2 * (n * G)) = 2 * (q * (n * G)) := Nat.mul_left_comm ..
      have e5 : q * (n * G + 1) = q * (n * G) + q := by rw [Nat.mul_add, Nat.mul_one]
      have e6 : b * q = q * b := Nat.mul_comm ..
      refine ⟨?_, ?_, ?_, ?_, ?_⟩
      · rcases i1 with i1 | i1
        · right; omega
        · left; omega
      · omega
      · omega
      · omega
      · omega
theorem s_Sp_standOn {X : z_X} {N : Nat} {σ g : z_G} {Q : z_P} {o p : Nat} (ho : z_lay X N σ o z_SSp z_RSp) (hpl : z_lay X N σ p z_SCh z_RCh) (hop : o ≠ p) {t b : Int} (hc : cCh g p t b) (h0 : 0 < t ∧ t < b ∧ b ≤ 9999) (hq : ∀ (g' : z_G) (lt lb ht hb : Int), n_sp lt lb ht hb → lt + ht = t / Int.gcd t b → lb + hb = b / Int.gcd t b → g' o 0 = lt → g' o 1 = lb → g' o 2 = ht → g' o 3 = hb → g' o 4 = n_D t b → (∀ c i, c ≠ o → g' c i = g c i) → Q 0 g') : z_O X 2 m_Sp_standOn [(2, ((o : Nat) : Int)), (2, ((p : Nat) : Int))] N σ g Q := by
  obtain ⟨-, c2, c3, e2, e3, e4, q5, q6, q7, q8, hd⟩ := hc
  have hE : n_E t.toNat b.toNat ≤ 28 * 9999 := by
    rw [← n_cf_sum _ _ _ (Nat.le_refl _)]
    have := n_take_le (L := n_cf t.toNat b.toNat) (m := 9999) (fun q hq => by rcases n_cf_le _ _ _ (Nat.le_refl _) q hq with h | h <;> omega) 28
    rw [List.take_of_length_le c2] at this
    exact this
  have hp : 0 < Int.gcd t b := Int.gcd_pos_of_ne_zero_right t (by omega)
  have hb4 : ¬ (b / Int.gcd t b ≤ 1) := fun q => (n_tree (by omega)).mp q (by omega)
  have hlt : 0 < t / Int.gcd t b ∧ t / Int.gcd t b < b / Int.gcd t b ∧ b / Int.gcd t b ≤ 9999 := by
    obtain ⟨y, hy⟩ := Int.gcd_dvd_right t b
    obtain ⟨x, hx⟩ := Int.gcd_dvd_left t b
    generalize Int.gcd t b = c at *
    have f1 : t / (c : Int) = x := by rw [hx]; exact Int.mul_ediv_cancel_left x (by omega)
    have f2 : b / (c : Int) = y := by rw [hy]; exact Int.mul_ediv_cancel_left y (by omega)
    rw [f1, f2]
    have p1 : 0 < x := by
      have : (c : Int) * 0 < c * x := by omega
      exact Int.lt_of_mul_lt_mul_left this (by omega)
    have p2 : x < y := by
      have : (c : Int) * x < c * y := by omega
      exact Int.lt_of_mul_lt_mul_left this (by omega)
    have p3 : 1 * y ≤ c * y := Int.mul_le_mul_of_nonneg_right (by omega) (by omega)
    omega
  rw [← e3, ← e4] at hlt hq
  rw [← e4] at hb4
  refine b_Sp_standOn_0 ho hpl ?_
  have zp : ∀ (g : z_G) (i v i' : Int), z_up g o i v p i' = g p i' := fun _ _ _ _ => z_u2 (Or.inl (by omega))
  simp only [zp]
  have mb : ∀ u v : Int, 0 ≤ u → u ≤ 10000 → 0 ≤ v → v ≤ 10000 → 0 ≤ u * v ∧ u * v ≤ 100000000 := fun u v u1 u2 v1 v2 => by
    have a1 : u * v ≤ 10000 * v := Int.mul_le_mul_of_nonneg_right u2 v1
    have a2 : 0 ≤ u * v := Int.mul_nonneg u1 v1
    omega
  have m1 := mb (g p 5) (g p 4) (by omega) (by omega) (by omega) (by omega)
  have m2 := mb (g p 5) (g p 6) (by omega) (by omega) (by omega) (by omega)
  have m3 := mb (g p 3) (g p 6) (by omega) (by omega) (by omega) (by omega)
  have e5 : g p 5 * (g p 4 - g p 6) = g p 5 * g p 4 - g p 5 * g p 6 := Int.mul_sub ..
  have e6 : (g p 3 - g p 5) * g p 6 = g p 3 * g p 6 - g p 5 * g p 6 := Int.sub_mul ..
  rw [e5, e6, e2]
  have y0 : g p 6 ≠ 0 := fun q => by
    rw [q, Int.mul_zero] at hd
    by_cases x0 : g p 5 = 0
    · rw [x0, Int.zero_mul] at hd; omega
    · have : 1 * g p 4 ≤ g p 5 * g p 4 := Int.mul_le_mul_of_nonneg_right (by omega) (by omega)
      omega
  have y1 : g p 6 ≠ g p 4 := fun q => by
    rw [q, ← Int.sub_mul] at hd
    rcases Int.lt_trichotomy (g p 3 - g p 5) 0 with x0 | x0 | x0
    · have : (g p 3 - g p 5) * g p 4 ≤ (-1) * g p 4 := Int.mul_le_mul_of_nonneg_right (by omega) (by omega)
      omega
    · rw [x0, Int.zero_mul] at hd; omega
    · have : 1 * g p 4 ≤ (g p 3 - g p 5) * g p 4 := Int.mul_le_mul_of_nonneg_right (by omega) (by omega)
      omega
  refine ⟨by omega, by omega, by omega, by omega, by omega, fun k => ⟨by omega, ?_⟩, fun k => ⟨by omega, ?_⟩⟩
  · have k1 : g p 5 * g p 4 - g p 3 * g p 6 = 1 := by omega
    have x1 : g p 5 ≤ g p 3 := by
      have a1 : g p 3 * (g p 6 + 1) ≤ g p 3 * g p 4 := Int.mul_le_mul_of_nonneg_left (by omega) (by omega)
      rw [Int.mul_add, Int.mul_one] at a1
      exact Int.le_of_mul_le_mul_right (show g p 5 * g p 4 ≤ g p 3 * g p 4 by omega) (by omega)
    have hs := n_sp_mk (x := g p 3 - g p 5) (y := g p 4 - g p 6) (t := g p 3) (b := g p 4) (by omega) (by omega) (by omega) (by rw [Int.mul_sub, Int.sub_mul]; omega)
    rw [show g p 3 - (g p 3 - g p 5) = g p 5 by omega, show g p 4 - (g p 4 - g p 6) = g p 6 by omega] at hs
    refine hq _ _ _ _ _ hs (by omega) (by omega) ?_ ?_ ?_ ?_ ?_ fun c i hci => ?_
    all_goals try simp only [z_u1, z_u2 (Or.inr (show (0 : Int) ≠ 4 by omega)), z_u2 (Or.inr (show (0 : Int) ≠ 3 by omega)), z_u2 (Or.inr (show (0 : Int) ≠ 2 by omega)), z_u2 (Or.inr (show (0 : Int) ≠ 1 by omega)), z_u2 (Or.inr (show (1 : Int) ≠ 4 by omega)), z_u2 (Or.inr (show (1 : Int) ≠ 3 by omega)), z_u2 (Or.inr (show (1 : Int) ≠ 2 by omega)), z_u2 (Or.inr (show (2 : Int) ≠ 4 by omega)), z_u2 (Or.inr (show (2 : Int) ≠ 3 by omega)), z_u2 (Or.inr (show (3 : Int) ≠ 4 by omega))]
    · rfl
    · rw [z_u2 (Or.inl hci), z_u2 (Or.inl hci), z_u2 (Or.inl hci), z_u2 (Or.inl hci), z_u2 (Or.inl hci)]
  · have k1 : g p 3 * g p 6 - g p 5 * g p 4 = 1 := by omega
    have hs := n_sp_mk (x := g p 5) (y := g p 6) (t := g p 3) (b := g p 4) (by omega) (by omega) (by omega) k1
    refine hq _ _ _ _ _ hs (by omega) (by omega) ?_ ?_ ?_ ?_ ?_ fun c i hci => ?_
    all_goals try simp only [z_u1, z_u2 (Or.inr (show (0 : Int) ≠ 4 by omega)), z_u2 (Or.inr (show (0 : Int) ≠ 3 by omega)), z_u2 (Or.inr (show (0 : Int) ≠ 2 by omega)), z_u2 (Or.inr (show (0 : Int) ≠ 1 by omega)), z_u2 (Or.inr (show (1 : Int) ≠ 4 by omega)), z_u2 (Or.inr (show (1 : Int) ≠ 3 by omega)), z_u2 (Or.inr (show (1 : Int) ≠ 2 by omega)), z_u2 (Or.inr (show (2 : Int) ≠ 4 by omega)), z_u2 (Or.inr (show (2 : Int) ≠ 3 by omega)), z_u2 (Or.inr (show (3 : Int) ≠ 4 by omega))]
    · rfl
    · rw [z_u2 (Or.inl hci), z_u2 (Or.inl hci), z_u2 (Or.inl hci), z_u2 (Or.inl hci), z_u2 (Or.inl hci)]
theorem s_M_findsParent {X : z_X} {N : Nat} {σ g : z_G} {Q : z_P} (hx : z_lay X N σ 0 z_SM z_RM) {t b : Int} (h0 : 0 < t ∧ t < b ∧ b ≤ 9999) (hq : ∀ g', mS g g' → g' 0 28 = (n_par b.toNat t.toNat).2 → g' 0 29 = (n_par b.toNat t.toNat).1 → Q 0 g') : z_O X 2 m_M_findsParent [(2, 0), (0, t), (0, b)] N σ g Q := by
  refine b_M_findsParent_0 hx (s_M_laysTerms hx (by omega) (by omega) (by omega) fun g1 hs h1 h2 h3 => ?_)
  have hr : t.toNat % b.toNat = t.toNat := Nat.mod_eq_of_lt (by omega)
  have hcf : n_cf t.toNat b.toNat = 0 :: n_cf b.toNat t.toNat := by
    rw [n_cf_s (by omega), hr, Nat.div_eq_of_lt (by omega)]
  have hle : ∀ q ∈ n_cf b.toNat t.toNat, q ≤ 9999 := fun q hq => by
    rcases n_cf_le _ _ _ (Nat.le_refl _) q hq with h | h <;> omega
  have hlen : (n_cf b.toNat t.toNat).length ≤ 28 := by
    rw [n_cf_len _ _ _ (Nat.le_refl _)]
    exact n_K_le 14 _ _ (by omega)
  rw [hcf, List.length_cons] at h1 h2
  have key : ∀ (m a c j : Nat), c ≤ m → 1 ≤ c → c < a → a ≤ 9999 → 1 ≤ j → j + (n_cf a c).length ≤ 29 → (∀ k : Nat, k < (n_cf a c).length → g1 10 ((j : Int) + k) = ((n_cf a c)[k]?.getD 0 : Nat)) → L_M_findsParent_31 X N σ (n_par a c).1 (n_par a c).2 ((j : Int) - 1) g1 Q → L_M_findsParent_31 X N σ (g1 10 ((j : Int) + (n_cf a c).length - 1) - 1) 1 ((j : Int) + (n_cf a c).length - 2) g1 Q := by
    intro m
    induction m with
    | zero => intro a c j q1 q2; omega
    | succ m ih =>
      intro a c j q1 q2 q3 q4 q5 q6 q7 q8
      have hm := Nat.mod_lt a q2
      have ea := Nat.div_add_mod a c
      by_cases hz : a % c = 0
      · rw [n_cf_s (by omega), hz, n_cf_0] at q7 ⊢
        rw [n_par_e (by omega) hz] at q8
        have := q7 0 (by simp)
        have hq1 : 1 ≤ a / c := Nat.div_pos (by omega) q2
        simp only [List.length_cons, List.length_nil, List.getElem?_cons_zero, Option.getD_some] at this ⊢
        rw [show (j : Int) + ((0 + 1 : Nat) : Int) - 1 = (j : Int) + ((0 : Nat) : Int) by omega, this, show (j : Int) + ((0 + 1 : Nat) : Int) - 2 = (j : Int) - 1 by omega]
        rw [show ((a / c - 1 : Nat) : Int) = ((a / c : Nat) : Int) - 1 by omega] at q8
        exact q8
      · have hl : (n_cf a c).length = (n_cf c (a % c)).length + 1 := by rw [n_cf_s (by omega), List.length_cons]
        have hf := n_par_f a a c (by omega) q2 q3
        have hf2 := n_par_f a c (a % c) (by omega) (by omega) hm
        have := ih c (a % c) (j + 1) (by omega) (by omega) hm (by omega) (by omega) (by omega) (fun k hk => by
          have := q7 (k + 1) (by omega)
          rw [n_cf_s (by omega), List.getElem?_cons_succ] at this
          rw [← this]; congr 1; omega) ?_
        · rw [hl]
          rw [show ((j + 1 : Nat) : Int) + ((n_cf c (a % c)).length : Int) - 1 = (j : Int) + (((n_cf c (a % c)).length + 1 : Nat) : Int) - 1 by omega, show ((j + 1 : Nat) : Int) + ((n_cf c (a % c)).length : Int) - 2 = (j : Int) + (((n_cf c (a % c)).length + 1 : Nat) : Int) - 2 by omega] at this
          exact this
        · have e0 := q7 0 (by omega)
          rw [n_cf_s (by omega), List.getElem?_cons_zero, Option.getD_some] at e0
          rw [n_par_s (by omega) hz] at q8 hf
          have hG : 0 < Nat.gcd a c := Nat.gcd_pos_of_pos_right a q2
          generalize n_par c (a % c) = p at *
          obtain ⟨n, d⟩ := p
          simp only at q8 hf ⊢
          have l1 : (a / c * n + d) * 1 ≤ (a / c * n + d) * Nat.gcd a c := Nat.mul_le_mul_left _ hG
          have l2 : ((a / c * n : Nat) : Int) = ((a / c : Nat) : Int) * (n : Int) := Int.natCast_mul ..
          refine b_M_findsParent_31 hx ⟨fun p => absurd p (by omega), fun _ => ⟨by omega, ?_⟩⟩
          rw [show ((j + 1 : Nat) : Int) - 1 = (j : Int) + ((0 : Nat) : Int) by omega, e0, ← l2]
          refine ⟨by omega, by omega, by omega, ?_⟩
          rw [show (j : Int) + ((0 : Nat) : Int) + -1 = (j : Int) - 1 by omega, ← Int.natCast_add]
          exact q8
  have := key b.toNat b.toNat t.toNat 1 (by omega) (by omega) (by omega) (by omega) (by omega) (by omega) (fun k hk => by
    have := h2 (k + 1) (by omega)
    rw [List.getElem?_cons_succ] at this
    rw [← this]; congr 1; omega) (b_M_findsParent_31 hx ⟨fun _ => hq _ ((hs.up (by unfold mP mK; omega)).up (by unfold mP mK; omega)) (by rw [z_u2 (by omega), z_u1]) z_u1, fun p => absurd (by omega) p⟩)
  have hl1 : 1 ≤ (n_cf b.toNat t.toNat).length := by rw [n_cf_s (by omega)]; simp
  have hl2 := h2 (n_cf b.toNat t.toNat).length (by omega)
  have hl3 : (0 :: n_cf b.toNat t.toNat)[(n_cf b.toNat t.toNat).length]?.getD 0 ≤ 9999 := by
    rw [List.getElem?_eq_getElem (by simp)]
    rcases List.mem_cons.mp (List.getElem_mem (l := 0 :: n_cf b.toNat t.toNat) (n := (n_cf b.toNat t.toNat).length) (by simp)) with h | h
    · rw [Option.getD_some, h]; omega
    · exact hle _ h
  rw [h1, show (((n_cf b.toNat t.toNat).length + 1 : Nat) : Int) - 1 = ((n_cf b.toNat t.toNat).length : Int) by omega, hl2]
  rw [show ((1 : Nat) : Int) + ((n_cf b.toNat t.toNat).length : Int) - 1 = ((n_cf b.toNat t.toNat).length : Int) by omega, show ((1 : Nat) : Int) + ((n_cf b.toNat t.toNat).length : Int) - 2 = (((n_cf b.toNat t.toNat).length + 1 : Nat) : Int) - 2 by omega, hl2] at this
  exact ⟨by omega, by omega, by omega, by omega, this⟩
theorem n_D_zero {lt lb ht hb : Int} (h : n_sp lt lb ht hb) : (n_D (lt + ht) (lb + hb) = 0 ↔ lb = hb) ∧ (lb < hb → n_D ht hb = n_D (lt + ht) (lb + hb) - 1) ∧ (hb < lb → n_D lt lb = n_D (lt + ht) (lb + hb) - 1) := by
  have a1 : lb < hb → n_D ht hb = n_D (lt + ht) (lb + hb) - 1 ∧ 1 ≤ n_D (lt + ht) (lb + hb) := fun q => by
    have h2 := n_sp_upL h q
    have e := n_D_left h2
    have e2 := n_D_nonneg h2
    rw [show lt + (lt + (ht - lt)) = lt + ht by omega, show lb + (lb + (hb - lb)) = lb + hb by omega, show lt + (ht - lt) = ht by omega, show lb + (hb - lb) = hb by omega] at e
    rw [show lt + (ht - lt) = ht by omega, show lb + (hb - lb) = hb by omega] at e2
    omega
  have a2 : hb < lb → n_D lt lb = n_D (lt + ht) (lb + hb) - 1 ∧ 1 ≤ n_D (lt + ht) (lb + hb) := fun q => by
    have h2 := n_sp_upR h q
    have e := n_D_right h2
    have e2 := n_D_nonneg h2
    rw [show lt - ht + ht + ht = lt + ht by omega, show lb - hb + hb + hb = lb + hb by omega, show lt - ht + ht = lt by omega, show lb - hb + hb = lb by omega] at e
    rw [show lt - ht + ht = lt by omega, show lb - hb + hb = lb by omega] at e2
    omega
  refine ⟨⟨fun q => ?_, fun q => ?_⟩, fun q => (a1 q).1, fun q => (a2 q).1⟩
  · by_cases c1 : lb < hb
    · have := a1 c1; omega
    · by_cases c2 : hb < lb
      · have := a2 c2; omega
      · omega
  · obtain ⟨e1, e2, e3, e4⟩ := n_sp_eq h q
    rw [e1, e2, e3, e4]
    unfold n_D
    rw [show ((0 : Int) + 1).toNat = 1 from rfl, show ((1 : Int) + 1).toNat = 2 from rfl, n_E_s (by omega), n_E_s (by omega), show (2 % (1 % 2)) = 0 from rfl, n_E_0]
    rfl
theorem n_root {lt lb ht hb : Int} (h : n_sp lt lb ht hb) : 2 * (lt + ht) = lb + hb ↔ lb = hb := by
  refine ⟨fun q => ?_, fun q => by obtain ⟨e1, e2, e3, e4⟩ := n_sp_eq h q; omega⟩
  obtain ⟨h1, h2, h3, h4, h5, h6⟩ := h
  have e : (lt + ht) * (lb - 2 * lt) = 1 := by
    have a1 : (lt + ht) * (lb - 2 * lt) = (lt + ht) * lb - lt * (2 * (lt + ht)) := by rw [Int.mul_sub, Int.mul_left_comm (lt + ht) 2 lt, Int.mul_left_comm lt 2 (lt + ht), Int.mul_comm (lt + ht) lt]
    rw [a1, q, Int.mul_add, Int.add_mul]; omega
  have : lt + ht = 1 := by
    have u1 : 0 < lb - 2 * lt := by
      refine Int.not_le.mp fun u => ?_
      have : (lt + ht) * (lb - 2 * lt) ≤ (lt + ht) * 0 := Int.mul_le_mul_of_nonneg_left u (by omega)
      omega
    have : (lt + ht) * 1 ≤ (lt + ht) * (lb - 2 * lt) := Int.mul_le_mul_of_nonneg_left (by omega) (by omega)
    omega
  omega
theorem n_parent {t b lt lb ht hb : Int} (h0 : 0 < t ∧ t < b) (h : n_sp lt lb ht hb) (e1 : lt + ht = t / Int.gcd t b) (e2 : lb + hb = b / Int.gcd t b) : (2 * t = b ↔ lb = hb) ∧ (lb ≠ hb → (hb ≤ lb → ((n_par b.toNat t.toNat).1 : Int) = lb ∧ ((n_par b.toNat t.toNat).2 : Int) = lt) ∧ (¬ hb ≤ lb → ((n_par b.toNat t.toNat).1 : Int) = hb ∧ ((n_par b.toNat t.toNat).2 : Int) = ht)) := by
  have hp : 0 < Int.gcd t b := Int.gcd_pos_of_ne_zero_right t (by omega)
  have hg : Nat.gcd b.toNat t.toNat = Int.gcd t b := by
    rw [Nat.gcd_comm]
    show Nat.gcd t.toNat b.toNat = Nat.gcd t.natAbs b.natAbs
    rw [show t.toNat = t.natAbs by omega, show b.toNat = b.natAbs by omega]
  obtain ⟨f1, f2, f3, -, -⟩ := n_par_f b.toNat b.toNat t.toNat (by omega) (by omega) (by omega)
  rw [hg] at f1 f2 f3
  obtain ⟨y, hy⟩ := Int.gcd_dvd_right t b
  obtain ⟨x, hx⟩ := Int.gcd_dvd_left t b
  generalize Int.gcd t b = c at *
  rw [show t / (c : Int) = x by rw [hx]; exact Int.mul_ediv_cancel_left x (by omega)] at e1
  rw [show b / (c : Int) = y by rw [hy]; exact Int.mul_ediv_cancel_left y (by omega)] at e2
  rw [← e1] at hx
  rw [← e2] at hy
  have hr := n_root h
  have hc : (0 : Int) < c := by omega
  refine ⟨⟨fun q => hr.mp ?_, fun q => ?_⟩, fun hne => ?_⟩
  · have : (c : Int) * (2 * (lt + ht)) = c * (lb + hb) := by rw [Int.mul_left_comm]; omega
    exact Int.eq_of_mul_eq_mul_left (by omega) this
  · have := hr.mpr q
    rw [hx, hy, ← this, Int.mul_left_comm]
  · generalize n_par b.toNat t.toNat = p at *
    obtain ⟨n, d⟩ := p
    simp only at *
    have n1 : n < lb + hb := by
      have a1 : ((n * c : Nat) : Int) < b := by omega
      rw [Int.natCast_mul, Int.mul_comm, hy] at a1
      exact Int.lt_of_mul_lt_mul_left a1 (by omega)
    have n2 : lb + hb ≤ 2 * n := by
      have a1 : b ≤ 2 * ((n * c : Nat) : Int) := by omega
      rw [Int.natCast_mul, Int.mul_comm (n : Int), hy, Int.mul_left_comm] at a1
      exact Int.le_of_mul_le_mul_left a1 (by omega)
    have hlb := h.2.2.1
    have hhb : 1 ≤ hb := by have := h.2.2.2; omega
    have s1 : ((n * t.toNat : Nat) : Int) = c * (n * (lt + ht)) := by
      rw [Int.natCast_mul, show ((t.toNat : Nat) : Int) = t by omega, hx, Int.mul_left_comm]
    have s2 : ((d * b.toNat : Nat) : Int) = c * (d * (lb + hb)) := by
      rw [Int.natCast_mul, show ((b.toNat : Nat) : Int) = b by omega, hy, Int.mul_left_comm]
    rcases f1 with f1 | f1
    · have f : (c : Int) * (n * (lt + ht) + 1) = c * (d * (lb + hb)) := by rw [Int.mul_add, ← s1, ← s2]; omega
      have f := Int.eq_of_mul_eq_mul_left (by omega) f
      have := n_inv h (l := lb + hb - n) (k := lt + ht - d) (by omega) (by omega) (by
        rw [Int.mul_sub, Int.sub_mul, ← f, Int.mul_comm (lt + ht) (n : Int)]; omega)
      omega
    · have f : (c : Int) * (n * (lt + ht)) = c * (d * (lb + hb) + 1) := by rw [Int.mul_add (c : Int) (d * (lb + hb)) 1, ← s1, ← s2]; omega
      have f := Int.eq_of_mul_eq_mul_left (by omega) f
      have := n_inv h (l := n) (k := d) (by omega) (by omega) (by rw [Int.mul_comm]; omega)
      omega
theorem s_Sp_climb {X : z_X} {N : Nat} {σ g : z_G} {Q : z_P} {o : Nat} (ho : z_lay X N σ o z_SSp z_RSp) {lt lb ht hb : Int} (hs : n_sp lt lb ht hb) (hb9 : lb + hb ≤ 1000000) (e0 : g o 0 = lt) (e1 : g o 1 = lb) (e2 : g o 2 = ht) (e3 : g o 3 = hb) (e4 : g o 4 = n_D (lt + ht) (lb + hb)) (hD : n_D (lt + ht) (lb + hb) ≤ 1000000) (hr : lb = hb → Q 0 g) (hq : lb ≠ hb → ∀ (g' : z_G) (lt' lb' ht' hb' : Int), n_sp lt' lb' ht' hb' → lt' + ht' = (if hb ≤ lb then lt else ht) → lb' + hb' = (if hb ≤ lb then lb else hb) → g' o 0 = lt' → g' o 1 = lb' → g' o 2 = ht' → g' o 3 = hb' → g' o 4 = n_D (lt' + ht') (lb' + hb') → (∀ c i, c ≠ o → g' c i = g c i) → Q 1 g') : z_O X 1 m_Sp_climb [(2, ((o : Nat) : Int))] N σ g Q := by
  have hz := n_D_zero hs
  have hz0 := n_D_nonneg hs
  have hs0 := hs
  obtain ⟨h1, h2, h3, h4, h5, h6⟩ := hs0
  refine b_Sp_climb_0 ho ?_
  rw [e0, e1, e2, e3, e4]
  refine ⟨fun q => hr (hz.1.mp q), fun q => ⟨fun p => ⟨by omega, by omega, by omega, ?_⟩, fun p => ⟨by omega, by omega, by omega, ?_⟩⟩⟩
  · have hne : lb ≠ hb := fun p => q (hz.1.mpr p)
    refine hq hne _ _ _ _ _ (n_sp_upR hs (by omega)) (by rw [if_pos p]; omega) (by rw [if_pos p]; omega) ?_ ?_ ?_ ?_ ?_ fun c i hci => ?_
    · rw [z_u2 (Or.inr (by omega)), z_u2 (Or.inr (by omega)), z_u1]
    · rw [z_u2 (Or.inr (by omega)), z_u1]
    · rw [z_u2 (Or.inr (by omega)), z_u2 (Or.inr (by omega)), z_u2 (Or.inr (by omega)), e2]
    · rw [z_u2 (Or.inr (by omega)), z_u2 (Or.inr (by omega)), z_u2 (Or.inr (by omega)), e3]
    · rw [z_u1, show lt - ht + ht = lt by omega, show lb - hb + hb = lb by omega, hz.2.2 (by omega)]
    · rw [z_u2 (Or.inl hci), z_u2 (Or.inl hci), z_u2 (Or.inl hci)]
  · refine hq (by omega) _ _ _ _ _ (n_sp_upL hs (by omega)) (by rw [if_neg p]; omega) (by rw [if_neg p]; omega) ?_ ?_ ?_ ?_ ?_ fun c i hci => ?_
    · rw [z_u2 (Or.inr (by omega)), z_u2 (Or.inr (by omega)), z_u2 (Or.inr (by omega)), e0]
    · rw [z_u2 (Or.inr (by omega)), z_u2 (Or.inr (by omega)), z_u2 (Or.inr (by omega)), e1]
    · rw [z_u2 (Or.inr (by omega)), z_u2 (Or.inr (by omega)), z_u1]
    · rw [z_u2 (Or.inr (by omega)), z_u1]
    · rw [z_u1, show lt + (ht - lt) = ht by omega, show lb + (hb - lb) = hb by omega, hz.2.1 (by omega)]
    · rw [z_u2 (Or.inl hci), z_u2 (Or.inl hci), z_u2 (Or.inl hci)]
theorem o_parent {X Y : z_X} {N K : Nat} {σ τ gx gm : z_G} (hx : z_lay X N σ 0 z_SF z_RF) (hm : z_lay Y K τ 0 z_SM z_RM) (I : Inv gx gm) {a1 a2 : Int} (r1 : -2147483648 ≤ a1 ∧ a1 ≤ 2147483647) (r2 : -2147483648 ≤ a2 ∧ a2 ≤ 2147483647) : z_O X 5 m_F_parent [(2, 0), (0, a1), (0, a2)] N σ gx (fun r gx' => z_O Y 3 m_M_parent [(2, 0), (0, a1), (0, a2)] K τ gm (fun r' gm' => r' = r ∧ Inv gx' gm')) := by
  refine b_F_parent_0 hx (s_F_why hx (fun q => ?_) (fun q q2 g' hA => ?_) (fun q g' hc hf => ?_))
  · refine ⟨fun e => absurd e (by omega), fun _ => b_M_parent_0 hm ?_⟩
    repeat' (first | refine And.intro (by omega) ?_ | refine And.intro (fun _ => ?_) (fun q => absurd (by omega) q) | refine And.intro (fun q => absurd q (by omega)) (fun _ => ?_) | refine And.intro (fun _ => ?_) (fun _ => ?_) | refine And.intro (fun q => absurd q (by omega)) ?_ | refine And.intro (fun _ => ?_) ?_ | with_reducible intro _)
    all_goals first | exact I.fin xA.rf yA.rf I.2.2.2.2 1 | (exfalso; omega)
  · refine ⟨fun e => absurd e (by omega), fun _ => b_M_parent_0 hm ?_⟩
    repeat' (first | refine And.intro (by omega) ?_ | refine And.intro (fun _ => ?_) (fun q => absurd (by omega) q) | refine And.intro (fun q => absurd q (by omega)) (fun _ => ?_) | refine And.intro (fun _ => ?_) (fun _ => ?_) | refine And.intro (fun q => absurd q (by omega)) ?_ | refine And.intro (fun _ => ?_) ?_ | with_reducible intro _)
    all_goals first | exact I.fin hA yA.rf I.2.2.2.2 7 | (exfalso; omega)
  · have hE : n_E a1.toNat a2.toNat ≤ 28 * 9999 := by
      rw [← n_cf_sum _ _ _ (Nat.le_refl _)]
      have := n_take_le (L := n_cf a1.toNat a2.toNat) (m := 9999) (fun q hq => by rcases n_cf_le _ _ _ (Nat.le_refl _) q hq with h | h <;> omega) 28
      rw [List.take_of_length_le hc.2.1] at this
      exact this
    refine ⟨fun _ => s_Sp_standOn (o := 22) (p := 18) (ky_F_22 hx) (ky_F_18 hx) (by omega) hc (by omega) fun g2 lt lb ht hb hs s1 s2 e0 e1 e2 e3 e4 hf2 => ?_, fun e => absurd rfl e⟩
    have hp := n_parent (by omega) hs s1 s2
    have hD : n_D (lt + ht) (lb + hb) = n_D a1 a2 := by rw [s1, s2]; exact n_D_red (by omega) (by omega)
    have hB : lb + hb ≤ 9999 := by
      rw [s2]
      have := Int.ediv_le_self (a := a2) (Int.gcd a1 a2 : Int) (by omega)
      omega
    have hxa : xA gx g2 := (xA.ch hf).tr fun c i hk => hf2 c i (by unfold xK at hk; omega)
    have hs8 := hs
    obtain ⟨x1, x2, x3, x4, x5, -⟩ := hs8
    refine s_Sp_climb (o := 22) (ky_F_22 hx) hs (by omega) e0 e1 e2 e3 (by rw [e4, hD]) (by rw [hD]; unfold n_D; omega) (fun hr _ => ?_) (fun hne g3 lt' lb' ht' hb' hs' s1' s2' u0 u1 u2 u3 u4 hf3 _ => ?_)
    · refine ⟨fun _ => b_M_parent_0 hm ?_, fun e => absurd rfl e⟩
      have := hp.1.mpr hr
      repeat' (first | refine And.intro (by omega) ?_ | refine And.intro (fun _ => ?_) (fun q => absurd (by omega) q) | refine And.intro (fun q => absurd q (by omega)) (fun _ => ?_) | refine And.intro (fun _ => ?_) (fun _ => ?_) | refine And.intro (fun q => absurd q (by omega)) ?_ | refine And.intro (fun _ => ?_) ?_ | with_reducible intro _)
      all_goals first | exact I.fin hxa yA.rf I.2.2.2.2 6 | (exfalso; omega)
    · have hxb : xA gx g3 := hxa.tr fun c i hk => hf3 c i (by unfold xK at hk; omega)
      have hs9 := hs'
      obtain ⟨v1, v2, v3, v4, v5, -⟩ := hs9
      refine ⟨fun e => absurd e (by omega), fun _ => ?_⟩
      rw [u0, u1, u2, u3]
      have w1 : lb' + hb' ≤ 9999 := by rw [s2']; split <;> omega
      refine ⟨by omega, by omega, s_F_tell hx (by omega) (by omega) (by omega) fun _ => b_M_parent_0 hm ?_⟩
      have hn : ¬ 2 * a1 = a2 := fun q => hne (hp.1.mp q)
      repeat' (first | refine And.intro (by omega) ?_ | refine And.intro (fun _ => ?_) (fun q => absurd (by omega) q) | refine And.intro (fun q => absurd q (by omega)) (fun _ => ?_) | refine And.intro (fun _ => ?_) (fun _ => ?_) | refine And.intro (fun q => absurd q (by omega)) ?_ | refine And.intro (fun _ => ?_) ?_ | with_reducible intro _)
      refine s_M_findsParent hm (by omega) fun g4 hs4 k1 k2 => ?_
      have w2 : g4 0 28 = lt' + ht' ∧ g4 0 29 = lb' + hb' := by
        rw [k1, k2, s1', s2']
        by_cases c : hb ≤ lb
        · rw [if_pos c, if_pos c]; have := (hp.2 hne).1 c; omega
        · rw [if_neg c, if_neg c]; have := (hp.2 hne).2 c; omega
      rw [w2.1, w2.2]
      exact s_M_tellsBy hm (by omega) (by omega) fun _ => ⟨rfl, I.tell hxb hs4.y (hs4.c I.2.2.2.2) _ _⟩

/-! ## pin -/
theorem n_red {t b : Int} (h : 1 ≤ b ∧ b ≤ 9999 ∧ 0 ≤ t ∧ t ≤ b) : iVal (t / Int.gcd t b) (b / Int.gcd t b) := by
  have hp : 0 < Int.gcd t b := Int.gcd_pos_of_ne_zero_right t (by omega)
  have hg : Int.gcd (t / Int.gcd t b) (b / Int.gcd t b) = 1 := Int.gcd_ediv_gcd_ediv_gcd hp
  have l1 : t / (Int.gcd t b : Int) ≤ b / (Int.gcd t b : Int) := Int.ediv_le_ediv (by omega) h.2.2.2
  have l2 := Int.ediv_le_self (a := b) (Int.gcd t b : Int) (by omega)
  have l3 : 0 ≤ t / (Int.gcd t b : Int) := Int.ediv_nonneg h.2.2.1 (by omega)
  refine ⟨l3, l1, ?_, by omega, hg⟩
  obtain ⟨y, hy⟩ := Int.gcd_dvd_right t b
  generalize Int.gcd t b = c at *
  rw [show b / (c : Int) = y by rw [hy]; exact Int.mul_ediv_cancel_left y (by omega)]
  have : (c : Int) * 0 < c * y := by omega
  have := Int.lt_of_mul_lt_mul_left this (by omega)
  omega
theorem pI.add {gx gm gx' gm' : z_G} {T B w : Int} (h : pI gx gm) (hv : iVal T B) (hw : 1 ≤ w ∧ w ≤ 999) (hn : gm 1 4 < 12) (hk : pAt gm T B (-1)) (hx0 : gx' 25 3 = gm 1 4 + 1) (hx1 : ∀ i, gx' 26 i = if i = gm 1 4 then T else gx 26 i) (hx2 : ∀ i, gx' 27 i = if i = gm 1 4 then B else gx 27 i) (hx3 : ∀ i, gx' 28 i = if i = gm 1 4 then w else gx 28 i) (hm0 : gm' 1 4 = gm 1 4 + 1) (hm1 : gm' 1 (10 + 3 * gm 1 4) = T) (hm2 : gm' 1 (10 + 3 * gm 1 4 + 1) = B) (hm3 : gm' 1 (10 + 3 * gm 1 4 + 2) = w) (hm : ∀ i : Int, 10 ≤ i → i < 10 + 3 * gm 1 4 → gm' 1 i = gm 1 i) : pI gx' gm' := by
  obtain ⟨p1, p2, p3, p4, p5⟩ := h
  have hk : ∀ k : Int, 0 ≤ k → k < gm 1 4 → ¬ (gm 1 (10 + 3 * k) = T ∧ gm 1 (10 + 3 * k + 1) = B) := by
    rcases hk with ⟨-, a⟩ | ⟨a, -, -, -⟩
    · exact a
    · omega
  refine ⟨by rw [hx0, hm0], by omega, by omega, fun q q1 q2 => ?_, fun j q j1 j2 j3 => ?_⟩
  · rw [hx1, hx2, hx3]
    by_cases c : q = gm 1 4
    · rw [if_pos c, if_pos c, if_pos c, c, hm1, hm2, hm3]
      exact ⟨rfl, rfl, rfl, hv, hw⟩
    · rw [if_neg c, if_neg c, if_neg c, hm _ (by omega) (by omega), hm _ (by omega) (by omega), hm _ (by omega) (by omega)]
      exact p4 q q1 (by omega)
  · rw [hm (10 + 3 * j) (by omega) (by omega), hm (10 + 3 * j + 1) (by omega) (by omega)]
    by_cases c : q = gm 1 4
    · rw [c, hm1, hm2]; exact hk j j1 (by omega)
    · rw [hm (10 + 3 * q) (by omega) (by omega), hm (10 + 3 * q + 1) (by omega) (by omega)]; exact p5 j q j1 j2 (by omega)
theorem pI.more {gx gm gx' gm' : z_G} {k w : Int} (h : pI gx gm) (hk : 0 ≤ k ∧ k < gm 1 4) (hw : 1 ≤ w ∧ w ≤ 999) (hx0 : gx' 25 3 = gx 25 3) (hx1 : ∀ i, gx' 26 i = gx 26 i) (hx2 : ∀ i, gx' 27 i = gx 27 i) (hx3 : ∀ i, gx' 28 i = if i = k then w else gx 28 i) (hm : ∀ i : Int, gm' 1 i = if i = 10 + 3 * k + 2 then w else gm 1 i) : pI gx' gm' := by
  obtain ⟨p1, p2, p3, p4, p5⟩ := h
  have e4 : gm' 1 4 = gm 1 4 := by rw [hm, if_neg (by omega)]
  refine ⟨by rw [hx0, e4, p1], by omega, by omega, fun q q1 q2 => ?_, fun j q j1 j2 j3 => ?_⟩
  · have := p4 q q1 (by omega)
    rw [hx1, hx2, hx3, hm (10 + 3 * q), if_neg (by omega), hm (10 + 3 * q + 1), if_neg (by omega), hm (10 + 3 * q + 2)]
    by_cases c : q = k
    · rw [if_pos c, if_pos (by omega)]
      exact ⟨this.1, this.2.1, rfl, this.2.2.2.1, hw⟩
    · rw [if_neg c, if_neg (by omega)]
      exact this
  · rw [hm (10 + 3 * q), if_neg (by omega), hm (10 + 3 * q + 1), if_neg (by omega), hm (10 + 3 * j), if_neg (by omega), hm (10 + 3 * j + 1), if_neg (by omega)]
    exact p5 j q j1 j2 (by omega)
theorem s_M_pins {X : z_X} {N : Nat} {σ gx g : z_G} {Q : z_P} (hm : z_lay X N σ 0 z_SM z_RM) (h : pI gx g) {t b w : Int} (ht : 0 ≤ t) (hb : 1 ≤ b) (hw : 1 ≤ w ∧ w ≤ 99)
    (h4 : pAt g (t / Int.gcd t b) (b / Int.gcd t b) (-1) → g 1 4 = 12 → Q 4 g)
    (h7 : ∀ k : Int, 0 ≤ k → k < g 1 4 → pAt g (t / Int.gcd t b) (b / Int.gcd t b) k → 999 < g 1 (10 + 3 * k + 2) + w → Q 7 g)
    (hN : pAt g (t / Int.gcd t b) (b / Int.gcd t b) (-1) → g 1 4 < 12 → ∀ g', g' 0 28 = w → g' 1 4 = g 1 4 + 1 → g' 1 (10 + 3 * g 1 4) = t / Int.gcd t b → g' 1 (10 + 3 * g 1 4 + 1) = b / Int.gcd t b → g' 1 (10 + 3 * g 1 4 + 2) = w → (∀ i : Int, 10 ≤ i → i < 10 + 3 * g 1 4 → g' 1 i = g 1 i) → (∀ c i, ¬ (c = 1 ∧ (i = 4 ∨ (10 ≤ i ∧ i < 46))) → ¬ (c = 0 ∧ i = 28) → g' c i = g c i) → Q 0 g')
    (hK : ∀ k : Int, 0 ≤ k → k < g 1 4 → pAt g (t / Int.gcd t b) (b / Int.gcd t b) k → g 1 (10 + 3 * k + 2) + w ≤ 999 → ∀ g', g' 0 28 = g 1 (10 + 3 * k + 2) + w → (∀ i : Int, g' 1 i = if i = 10 + 3 * k + 2 then g 1 (10 + 3 * k + 2) + w else g 1 i) → (∀ c i, ¬ (c = 1 ∧ i = 10 + 3 * k + 2) → ¬ (c = 0 ∧ i = 28) → g' c i = g c i) → Q 0 g') : z_O X 3 m_M_pins [(2, 0), (0, t), (0, b), (0, w)] N σ g Q := by
  have hp : 0 < Int.gcd t b := Int.gcd_pos_of_ne_zero_right t (by omega)
  refine b_M_pins_0 hm (s_M_pinOf hm h ht hb fun k hk => ?_)
  obtain ⟨p1, p2, p3, p4, p5⟩ := h
  refine ⟨fun e => ?_, fun e => ?_⟩
  · rw [e] at hk
    refine ⟨fun q => h4 hk q, fun q => s_M_common (by omega) (by omega) ?_⟩
    rw [n_td (by omega), n_td (by omega)]
    have z4 : ∀ (g' : z_G) (i v : Int), i ≠ 4 → z_up g' 1 i v 1 4 = g' 1 4 := fun g' i v q => z_u2 (Or.inr (by omega))
    rw [z4 _ (10 + 3 * g 1 4 + 2) _ (by omega), z4 _ (10 + 3 * g 1 4 + 1) _ (by omega), z4 _ (10 + 3 * g 1 4) _ (by omega)]
    have z5 : ∀ (g' : z_G) (v v' : Int), z_up (z_up g' 1 (10 + 3 * g 1 4 + 2) v) 1 4 v' 1 (10 + 3 * g 1 4 + 2) = v := fun g' v v' => by rw [z_u2 (Or.inr (by omega)), z_u1]
    rw [z5]
    refine ⟨by omega, by omega, by omega, by omega, by omega, by omega, by omega, by omega, by omega, by omega, ?_⟩
    refine hN hk (by omega) _ (by rw [z_u1, z_u1]; omega) ?_ ?_ ?_ ?_ (fun i i1 i2 => ?_) (fun c i c1 c2 => ?_)
    · rw [z_u2 (Or.inl (by omega)), z_u2 (Or.inr (by omega)), z_u1]
    · rw [z_u2 (Or.inl (by omega)), z_u2 (Or.inr (by omega)), z_u2 (Or.inr (by omega)), z_u2 (Or.inr (by omega)), z_u2 (Or.inr (by omega)), z_u1]
    · rw [z_u2 (Or.inl (by omega)), z_u2 (Or.inr (by omega)), z_u2 (Or.inr (by omega)), z_u2 (Or.inr (by omega)), z_u1]
    · rw [z_u2 (Or.inl (by omega)), z_u1]; omega
    · rw [z_u2 (Or.inl (by omega)), z_u2 (Or.inr (by omega)), z_u2 (Or.inr (by omega)), z_u2 (Or.inr (by omega)), z_u2 (Or.inr (by omega)), z_u2 (Or.inr (by omega))]
    · rw [z_u2 (by omega), z_u2 (by omega), z_u2 (by omega), z_u2 (by omega), z_u2 (by omega), z_u2 (by omega)]
  · have hk2 : 0 ≤ k ∧ k < g 1 4 := by
      rcases hk with ⟨a, -⟩ | ⟨a, b, -, -⟩ <;> omega
    have hk3 := (p4 k hk2.1 hk2.2).2.2.2.2
    refine ⟨by omega, by omega, by omega, by omega, by omega, fun q => s_M_common (by omega) (by omega) ⟨by omega, ?_⟩, fun q => h7 k hk2.1 hk2.2 hk (by omega)⟩
    refine hK k hk2.1 hk2.2 hk q _ (by rw [z_u1, z_u1]) (fun i => ?_) (fun c i c1 c2 => ?_)
    · rw [z_u2 (Or.inl (by omega))]
      by_cases c : i = 10 + 3 * k + 2
      · rw [if_pos c, c, z_u1]
      · rw [if_neg c, z_u2 (Or.inr c)]
    · rw [z_u2 (by omega), z_u2 (by omega)]

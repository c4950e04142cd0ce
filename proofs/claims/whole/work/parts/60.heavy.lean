/-! ## heaviest, middle -/
theorem n_cop_dvd {k n m : Int} (h : Int.gcd k n = 1) (hd : k ∣ n * m) : k ∣ m := by
  have := (Int.dvd_gcd_mul_iff_dvd_mul (k := k) (n := n) (m := m)).mpr hd
  rw [h] at this
  simpa using this
theorem n_val_eq {t b t' b' : Int} (hb : 1 ≤ b) (hb' : 1 ≤ b') (h1 : Int.gcd t b = 1) (h2 : Int.gcd t' b' = 1) (h : t * b' = t' * b) : t = t' ∧ b = b' := by
  have d1 : b ∣ b' := n_cop_dvd (n := t) (by rw [Int.gcd_comm]; exact h1) ⟨t', by rw [h, Int.mul_comm]⟩
  have d2 : b' ∣ b := n_cop_dvd (n := t') (by rw [Int.gcd_comm]; exact h2) ⟨t, by rw [← h, Int.mul_comm]⟩
  have l1 := Int.le_of_dvd (by omega) d1
  have l2 := Int.le_of_dvd (by omega) d2
  have e : b = b' := by omega
  subst e
  exact ⟨Int.eq_of_mul_eq_mul_right (by omega) h, rfl⟩
theorem n_less_tr {t b u c v d : Int} (hb : 1 ≤ b) (hc : 1 ≤ c) (hd : 1 ≤ d) (h1 : t * c < u * b) (h2 : u * d < v * c) : t * d < v * b := by
  have a1 : t * c * d < u * b * d := Int.mul_lt_mul_of_pos_right h1 (by omega)
  have a2 : u * d * b < v * c * b := Int.mul_lt_mul_of_pos_right h2 (by omega)
  have e1 : u * b * d = u * d * b := by ac_rfl
  have e2 : t * c * d = c * (t * d) := by ac_rfl
  have e3 : v * c * b = c * (v * b) := by ac_rfl
  rw [e1, e2] at a1
  rw [e3] at a2
  exact Int.lt_of_mul_lt_mul_left (show c * (t * d) < c * (v * b) by omega) (by omega)
/-- pin x is less than pin y -/
def pL (gm : z_G) (x y : Int) : Prop := gm 1 (10 + 3 * x) * gm 1 (10 + 3 * y + 1) < gm 1 (10 + 3 * y) * gm 1 (10 + 3 * x + 1)
theorem pB_lt {gx gm : z_G} (h : pI gx gm) {x y : Int} (hx : 0 ≤ x ∧ x < gm 1 4) (hy : 0 ≤ y ∧ y < gm 1 4) (hl : pL gm x y) : ∀ m : Nat, (m : Int) ≤ gm 1 4 → pB gm x m + (if x < m then 1 else 0) ≤ pB gm y m := by
  obtain ⟨p1, p2, p3, p4, p5⟩ := h
  obtain ⟨-, -, -, ⟨u1, u2, u3, u4, -⟩, -⟩ := p4 x hx.1 hx.2
  obtain ⟨-, -, -, ⟨v1, v2, v3, v4, -⟩, -⟩ := p4 y hy.1 hy.2
  intro m
  induction m with
  | zero => intro _; rw [if_neg (by omega)]; exact Int.le_refl 0
  | succ m ih =>
    intro hm
    have ih := ih (by omega)
    obtain ⟨-, -, -, ⟨w1, w2, w3, w4, -⟩, -⟩ := p4 m (by omega) (by omega)
    unfold pB
    by_cases c : x = m
    · rw [if_pos (show x < ((m + 1 : Nat) : Int) by omega), if_neg (show ¬ x < (m : Int) by omega)] at *
      rw [← c, if_pos (Int.le_refl _), if_neg (show ¬ (gm 1 (10 + 3 * y) * gm 1 (10 + 3 * x + 1) ≤ gm 1 (10 + 3 * x) * gm 1 (10 + 3 * y + 1)) by unfold pL at hl; omega)]
      omega
    · have e : (if x < ((m + 1 : Nat) : Int) then (1 : Int) else 0) = if x < (m : Int) then 1 else 0 := by
        by_cases c2 : x < (m : Int)
        · rw [if_pos c2, if_pos (by omega)]
        · rw [if_neg c2, if_neg (by omega)]
      rw [e]
      by_cases c1 : gm 1 (10 + 3 * x) * gm 1 (10 + 3 * (m : Int) + 1) ≤ gm 1 (10 + 3 * (m : Int)) * gm 1 (10 + 3 * x + 1)
      · rw [if_pos c1]
        split <;> split <;> split at ih <;> omega
      · have tr : gm 1 (10 + 3 * (m : Int)) * gm 1 (10 + 3 * y + 1) < gm 1 (10 + 3 * y) * gm 1 (10 + 3 * (m : Int) + 1) := n_less_tr w3 u3 v3 (by omega) hl
        rw [if_neg c1, if_neg (show ¬ (gm 1 (10 + 3 * y) * gm 1 (10 + 3 * (m : Int) + 1) ≤ gm 1 (10 + 3 * (m : Int)) * gm 1 (10 + 3 * y + 1)) by omega)]
        have fin : ∀ w : Int, pB gm x m + w ≤ pB gm y m → pB gm x m + 1 + w ≤ pB gm y m + 1 := by omega
        exact fin _ ih
theorem pB_lt' {gx gm : z_G} (h : pI gx gm) {x y : Int} (hx : 0 ≤ x ∧ x < gm 1 4) (hy : 0 ≤ y ∧ y < gm 1 4) (hl : pL gm x y) : pB gm x (gm 1 4).toNat < pB gm y (gm 1 4).toNat := by
  have := pB_lt h hx hy hl (gm 1 4).toNat (by omega)
  rw [if_pos (by omega)] at this
  omega
theorem pL_tri {gx gm : z_G} (h : pI gx gm) {x y : Int} (hx : 0 ≤ x ∧ x < gm 1 4) (hy : 0 ≤ y ∧ y < gm 1 4) (h1 : ¬ pL gm x y) (h2 : ¬ pL gm y x) : x = y := by
  obtain ⟨p1, p2, p3, p4, p5⟩ := h
  obtain ⟨-, -, -, ⟨u1, u2, u3, u4, u5⟩, -⟩ := p4 x hx.1 hx.2
  obtain ⟨-, -, -, ⟨v1, v2, v3, v4, v5⟩, -⟩ := p4 y hy.1 hy.2
  unfold pL at h1 h2
  have e := n_val_eq u3 v3 u5 v5 (by omega)
  rcases Int.lt_trichotomy x y with c | c | c
  · exact absurd e (p5 x y hx.1 c hy.2)
  · exact c
  · exact absurd ⟨e.1.symm, e.2.symm⟩ (p5 y x hy.1 c hx.2)
theorem pB_top {gx gm : z_G} (h : pI gx gm) {x : Int} (hx : 0 ≤ x ∧ x < gm 1 4) : pB gm x (gm 1 4).toNat < gm 1 4 := by
  have : ∀ m : Nat, pB gm x m + (if x < m then 1 else 0) ≤ m := by
    intro m
    induction m with
    | zero => rw [if_neg (by omega)]; exact Int.le_refl 0
    | succ m ih =>
      unfold pB
      by_cases c : x = m
      · rw [if_pos (show x < ((m + 1 : Nat) : Int) by omega), if_pos (show gm 1 (10 + 3 * x) * gm 1 (10 + 3 * (m : Int) + 1) ≤ gm 1 (10 + 3 * (m : Int)) * gm 1 (10 + 3 * x + 1) by rw [← c]; exact Int.le_refl _)]
        have := (pB_le gm x m).2
        omega
      · have e : (if x < ((m + 1 : Nat) : Int) then (1 : Int) else 0) = if x < (m : Int) then 1 else 0 := by
          by_cases c2 : x < (m : Int)
          · rw [if_pos c2, if_pos (by omega)]
          · rw [if_neg c2, if_neg (by omega)]
        rw [e]
        split <;> split <;> split at ih <;> omega
  have := this (gm 1 4).toNat
  rw [if_pos (by omega)] at this
  omega
/-- each rank has its pin -/
theorem pR_on {gx gm : z_G} (h : pI gx gm) {k r : Int} (hk : 0 ≤ k ∧ k < gm 1 4) (hr : pR gm k r) : 0 ≤ r ∧ r < gm 1 4 ∧ pB gm r (gm 1 4).toNat = k := by
  rcases hr with ⟨-, hn⟩ | ⟨a1, a2, a3, -⟩
  · exfalso
    have hn0 : 1 ≤ gm 1 4 := by omega
    have inj : ∀ i j : Nat, i < j → (j : Int) < gm 1 4 → pB gm i (gm 1 4).toNat ≠ pB gm j (gm 1 4).toNat := fun i j h1 h2 e => by
      have c1 : ¬ pL gm i j := fun l => by have := pB_lt' h (by omega) (by omega) l; omega
      have c2 : ¬ pL gm j i := fun l => by have := pB_lt' h (by omega) (by omega) l; omega
      have := pL_tri h (x := i) (y := j) (by omega) (by omega) c1 c2
      omega
    obtain ⟨i, j, h1, h2, h3⟩ := n_pig ((gm 1 4).toNat - 1) (fun i => if pB gm i (gm 1 4).toNat < k then (pB gm i (gm 1 4).toNat).toNat else (pB gm i (gm 1 4).toNat).toNat - 1) (fun i hi => by
      have t1 := pB_top h (x := i) (by omega)
      have t2 := (pB_le gm i (gm 1 4).toNat).1
      have t3 := hn i (by omega) (by omega)
      split <;> omega)
    have t1 := (pB_le gm i (gm 1 4).toNat).1
    have t2 := (pB_le gm j (gm 1 4).toNat).1
    have n1 := hn i (by omega) (by omega)
    have n2 := hn j (by omega) (by omega)
    have := inj i j h1 (by omega)
    split at h3 <;> split at h3 <;> omega
  · exact ⟨a1, a2, a3⟩
/-- the heaviest, of several the least -/
def pM (gm : z_G) (r : Int) : Prop := 0 ≤ r ∧ r < gm 1 4 ∧ ∀ x : Int, 0 ≤ x → x < gm 1 4 → gm 1 (10 + 3 * x + 2) < gm 1 (10 + 3 * r + 2) ∨ (gm 1 (10 + 3 * x + 2) = gm 1 (10 + 3 * r + 2) ∧ ¬ pL gm x r)
theorem pM.eq {gx gm : z_G} {r r' : Int} (h : pI gx gm) (h1 : pM gm r) (h2 : pM gm r') : r = r' := by
  obtain ⟨a1, a2, a3⟩ := h1
  obtain ⟨b1, b2, b3⟩ := h2
  have c1 := a3 r' b1 b2
  have c2 := b3 r a1 a2
  rcases c1 with c1 | c1
  · omega
  · rcases c2 with c2 | c2
    · omega
    · exact pL_tri h ⟨a1, a2⟩ ⟨b1, b2⟩ c2.2 c1.2
/-- the least with half of the weight -/
def pC (gm : z_G) (x : Int) : Prop := pW gm 1 1 (gm 1 4).toNat ≤ 2 * pW gm (gm 1 (10 + 3 * x)) (gm 1 (10 + 3 * x + 1)) (gm 1 4).toNat
def pH (gm : z_G) (r : Int) : Prop := (r = -1 ∧ ∀ x : Int, 0 ≤ x → x < gm 1 4 → ¬ pC gm x) ∨ (0 ≤ r ∧ r < gm 1 4 ∧ pC gm r ∧ ∀ x : Int, 0 ≤ x → x < gm 1 4 → pC gm x → ¬ pL gm x r)
theorem pH.eq {gx gm : z_G} {r r' : Int} (h : pI gx gm) (h1 : pH gm r) (h2 : pH gm r') : r = r' := by
  rcases h1 with ⟨a1, a2⟩ | ⟨a1, a2, a3, a4⟩
  · rcases h2 with ⟨b1, b2⟩ | ⟨b1, b2, b3, b4⟩
    · omega
    · exact absurd b3 (a2 r' b1 b2)
  · rcases h2 with ⟨b1, b2⟩ | ⟨b1, b2, b3, b4⟩
    · exact absurd a3 (b2 r a1 a2)
    · exact pL_tri h ⟨a1, a2⟩ ⟨b1, b2⟩ (b4 r a1 a2 a3) (a4 r' b1 b2 b3)
theorem s_F_ofMostWeight {X : z_X} {N : Nat} {σ g gm : z_G} {Q : z_P} (hx : z_lay X N σ 0 z_SF z_RF) (h : pI g gm) (h0 : gm 1 4 = 0 → Q (-1) g) (hq : ∀ r, pM gm r → Q r g) : z_O X 3 m_Pi_ofMostWeight [(2, 25)] N σ g Q := by
  obtain ⟨p1, p2, p3, p4, p5⟩ := id h
  refine b_Pi_ofMostWeight_0 (o := 25) (ky_F_25 hx) ?_
  have loop : ∀ (m : Nat) (x1 x2 : Int), gm 1 4 ≤ x2 + m → 0 ≤ x2 → x2 ≤ gm 1 4 → (x2 = 0 → x1 = -1) → (0 < x2 → 0 ≤ x1 ∧ x1 < x2 ∧ ∀ x : Int, 0 ≤ x → x < x2 → gm 1 (10 + 3 * x + 2) < gm 1 (10 + 3 * x1 + 2) ∨ (gm 1 (10 + 3 * x + 2) = gm 1 (10 + 3 * x1 + 2) ∧ ¬ pL gm x x1)) → L_Pi_ofMostWeight_4 X N σ x1 x2 25 g Q := by
    intro m
    have fin : ∀ x1 x2 : Int, x2 = gm 1 4 → (x2 = 0 → x1 = -1) → (0 < x2 → 0 ≤ x1 ∧ x1 < x2 ∧ ∀ x : Int, 0 ≤ x → x < x2 → gm 1 (10 + 3 * x + 2) < gm 1 (10 + 3 * x1 + 2) ∨ (gm 1 (10 + 3 * x + 2) = gm 1 (10 + 3 * x1 + 2) ∧ ¬ pL gm x x1)) → L_Pi_ofMostWeight_4 X N σ x1 x2 25 g Q := fun x1 x2 k1 k2 k3 => b_Pi_ofMostWeight_4 (o := 25) (ky_F_25 hx) ⟨fun _ => by
      by_cases c : x2 = 0
      · rw [k2 c]; exact h0 (by omega)
      · have := k3 (by omega)
        rw [k1] at this
        exact hq x1 this, fun p => absurd (by omega) p⟩
    induction m with
    | zero => exact fun x1 x2 k1 k2 k3 k4 k5 => fin x1 x2 (by omega) k4 k5
    | succ m ih =>
      intro x1 x2 k1 k2 k3 k4 k5
      by_cases c : x2 = gm 1 4
      · exact fin x1 x2 c k4 k5
      · obtain ⟨t1, t2, t3, ⟨v1, v2, v3, v4, -⟩, -⟩ := p4 x2 k2 (by omega)
        have f1 : g (25 + 1) x2 = gm 1 (10 + 3 * x2) := t1
        have f2 : g (25 + 2) x2 = gm 1 (10 + 3 * x2 + 1) := t2
        have f3 : g (25 + 3) x2 = gm 1 (10 + 3 * x2 + 2) := t3
        refine b_Pi_ofMostWeight_4 (o := 25) (ky_F_25 hx) ⟨fun p => absurd p (by omega), fun _ => ⟨fun p => ⟨by omega, ?_⟩, fun p => ?_⟩⟩
        · have z : x2 = 0 := by
            rcases Int.lt_or_le 0 x2 with q | q
            · have := k5 q; omega
            · omega
          refine ih x2 (x2 + 1) (by omega) (by omega) (by omega) (fun q => by omega) (fun _ => ⟨k2, by omega, fun x q1 q2 => Or.inr ?_⟩)
          have : x = x2 := by omega
          subst this
          exact ⟨rfl, fun l => by unfold pL at l; omega⟩
        · have hx2 : 0 < x2 := by
            rcases Int.lt_or_le 0 x2 with q | q
            · exact q
            · have := k4 (by omega); omega
          obtain ⟨q1, q2, q3⟩ := k5 hx2
          obtain ⟨s1, s2, s3, ⟨w1, w2, w3, w4, -⟩, -⟩ := p4 x1 q1 (by omega)
          have e1 : g (25 + 1) x1 = gm 1 (10 + 3 * x1) := s1
          have e2 : g (25 + 2) x1 = gm 1 (10 + 3 * x1 + 1) := s2
          have e3 : g (25 + 3) x1 = gm 1 (10 + 3 * x1 + 2) := s3
          have b1 := n_mb (u := gm 1 (10 + 3 * x2)) (v := gm 1 (10 + 3 * x1 + 1)) (by omega) (by omega) (by omega) (by omega)
          have b2 := n_mb (u := gm 1 (10 + 3 * x1)) (v := gm 1 (10 + 3 * x2 + 1)) (by omega) (by omega) (by omega) (by omega)
          rw [f1, f2, f3, e1, e2, e3]
          have keep : (gm 1 (10 + 3 * x2 + 2) < gm 1 (10 + 3 * x1 + 2) ∨ (gm 1 (10 + 3 * x2 + 2) = gm 1 (10 + 3 * x1 + 2) ∧ ¬ pL gm x2 x1)) → L_Pi_ofMostWeight_4 X N σ x1 (x2 + 1) 25 g Q := fun hk => ih x1 (x2 + 1) (by omega) (by omega) (by omega) (fun q => by omega) (fun _ => ⟨q1, by omega, fun x y1 y2 => by
            by_cases cx : x = x2
            · rw [cx]; exact hk
            · exact q3 x y1 (by omega)⟩)
          have take : (gm 1 (10 + 3 * x1 + 2) < gm 1 (10 + 3 * x2 + 2) ∨ (gm 1 (10 + 3 * x1 + 2) = gm 1 (10 + 3 * x2 + 2) ∧ pL gm x2 x1)) → L_Pi_ofMostWeight_4 X N σ x2 (x2 + 1) 25 g Q := fun hk => ih x2 (x2 + 1) (by omega) (by omega) (by omega) (fun q => by omega) (fun _ => ⟨k2, by omega, fun x y1 y2 => by
            by_cases cx : x = x2
            · rw [cx]; exact Or.inr ⟨rfl, fun l => by unfold pL at l; omega⟩
            · have := q3 x y1 (by omega)
              rcases hk with hk | ⟨hk1, hk2⟩
              · exact Or.inl (by omega)
              · rcases this with this | ⟨i1, i2⟩
                · exact Or.inl (by omega)
                · refine Or.inr ⟨by omega, fun l => i2 ?_⟩
                  obtain ⟨-, -, -, ⟨j1, j2, j3, j4, -⟩, -⟩ := p4 x y1 (by omega)
                  exact n_less_tr j3 v3 w3 l hk2⟩)
          refine ⟨by omega, by omega, fun y => ⟨by omega, take (Or.inl y)⟩, fun y => ⟨fun y2 => ⟨by omega, by omega, by omega, fun y3 => ⟨by omega, keep (Or.inr ⟨y2, fun l => by unfold pL at l; omega⟩)⟩, fun y3 => ⟨by omega, take (Or.inr ⟨y2.symm, by unfold pL; omega⟩)⟩⟩, fun y2 => ⟨by omega, keep (Or.inl (by omega))⟩⟩⟩
  exact loop (gm 1 4).toNat (-1) 0 (by omega) (by omega) p2 (fun _ => rfl) (fun q => by omega)
theorem o_heaviest {X Y : z_X} {N K : Nat} {σ τ gx gm : z_G} (hx : z_lay X N σ 0 z_SF z_RF) (hm : z_lay Y K τ 0 z_SM z_RM) (I : Inv gx gm) : z_O X 4 m_F_heaviest [(2, 0)] N σ gx (fun r gx' => z_O Y 5 m_M_heaviest [(2, 0)] K τ gm (fun r' gm' => r' = r ∧ Inv gx' gm')) := by
  obtain ⟨p1, p2, p3, p4, p5⟩ := I.pI
  have mrun : ∀ {Q : z_P}, (gm 1 4 = 0 → z_O Y 3 m_M_tellsPin [(2, 0), (0, -1)] K τ gm (fun r0 g0 => (r0 = 0 ∨ r0 = 1) → Q r0 g0)) → (∀ r, pM gm r → z_O Y 3 m_M_tellsPin [(2, 0), (0, r)] K τ gm (fun r0 g0 => (r0 = 0 ∨ r0 = 1) → Q r0 g0)) → z_O Y 5 m_M_heaviest [(2, 0)] K τ gm Q := by
    intro Q h0 hq
    refine b_M_heaviest_0 hm ?_
    have loop : ∀ (m : Nat) (x1 x2 : Int), gm 1 4 ≤ x2 + m → 0 ≤ x2 → x2 ≤ gm 1 4 → (x2 = 0 → x1 = -1) → (0 < x2 → 0 ≤ x1 ∧ x1 < gm 1 4 ∧ pB gm x1 (gm 1 4).toNat < x2 ∧ ∀ x : Int, 0 ≤ x → x < gm 1 4 → pB gm x (gm 1 4).toNat < x2 → gm 1 (10 + 3 * x + 2) < gm 1 (10 + 3 * x1 + 2) ∨ (gm 1 (10 + 3 * x + 2) = gm 1 (10 + 3 * x1 + 2) ∧ ¬ pL gm x x1)) → L_M_heaviest_4 Y K τ x1 x2 gm Q := by
      intro m
      have fin : ∀ x1 x2 : Int, x2 = gm 1 4 → (x2 = 0 → x1 = -1) → (0 < x2 → 0 ≤ x1 ∧ x1 < gm 1 4 ∧ pB gm x1 (gm 1 4).toNat < x2 ∧ ∀ x : Int, 0 ≤ x → x < gm 1 4 → pB gm x (gm 1 4).toNat < x2 → gm 1 (10 + 3 * x + 2) < gm 1 (10 + 3 * x1 + 2) ∨ (gm 1 (10 + 3 * x + 2) = gm 1 (10 + 3 * x1 + 2) ∧ ¬ pL gm x x1)) → L_M_heaviest_4 Y K τ x1 x2 gm Q := fun x1 x2 k1 k2 k3 => b_M_heaviest_4 hm ⟨fun _ => by
        by_cases c : x2 = 0
        · rw [k2 c]; exact h0 (by omega)
        · obtain ⟨q1, q2, q3, q4⟩ := k3 (by omega)
          exact hq x1 ⟨q1, q2, fun x y1 y2 => q4 x y1 y2 (by rw [k1]; exact pB_top I.pI ⟨y1, y2⟩)⟩, fun p => absurd (by omega) p⟩
      induction m with
      | zero => exact fun x1 x2 k1 k2 k3 k4 k5 => fin x1 x2 (by omega) k4 k5
      | succ m ih =>
        intro x1 x2 k1 k2 k3 k4 k5
        by_cases c : x2 = gm 1 4
        · exact fin x1 x2 c k4 k5
        · refine b_M_heaviest_4 hm ⟨fun p => absurd p (by omega), fun _ => s_M_rising hm I.pI fun r hr => ?_⟩
          obtain ⟨r1, r2, r3⟩ := pR_on I.pI ⟨k2, by omega⟩ hr
          have only : ∀ x : Int, 0 ≤ x → x < gm 1 4 → pB gm x (gm 1 4).toNat = x2 → x = r := fun x y1 y2 y3 => pL_tri I.pI ⟨y1, y2⟩ ⟨r1, r2⟩ (fun l => by have := pB_lt' I.pI ⟨y1, y2⟩ ⟨r1, r2⟩ l; omega) (fun l => by have := pB_lt' I.pI ⟨r1, r2⟩ ⟨y1, y2⟩ l; omega)
          refine ⟨fun e => ⟨by omega, ?_⟩, fun e => ?_⟩
          · have z : x2 = 0 := by
              rcases Int.lt_or_le 0 x2 with q | q
              · have := k5 q; omega
              · omega
            refine ih r (x2 + 1) (by omega) (by omega) (by omega) (fun q => by omega) (fun _ => ⟨r1, r2, by omega, fun x y1 y2 y3 => Or.inr ?_⟩)
            have y4 := (pB_le gm x (gm 1 4).toNat).1
            have := only x y1 y2 (by omega)
            subst this
            exact ⟨rfl, fun l => by unfold pL at l; omega⟩
          · have hx2 : 0 < x2 := by
              rcases Int.lt_or_le 0 x2 with q | q
              · exact q
              · have := k4 (by omega); omega
            obtain ⟨q1, q2, q3, q4⟩ := k5 hx2
            refine ⟨by omega, by omega, by omega, by omega, by omega, by omega, by omega, by omega, fun y => ⟨by omega, ih x1 (x2 + 1) (by omega) (by omega) (by omega) (fun q => by omega) (fun _ => ⟨q1, q2, by omega, fun x y1 y2 y3 => ?_⟩)⟩, fun y => ⟨by omega, ih r (x2 + 1) (by omega) (by omega) (by omega) (fun q => by omega) (fun _ => ⟨r1, r2, by omega, fun x y1 y2 y3 => ?_⟩)⟩⟩
            · by_cases cx : pB gm x (gm 1 4).toNat < x2
              · exact q4 x y1 y2 cx
              · have := only x y1 y2 (by omega)
                subst this
                have nl : ¬ pL gm x x1 := fun l => by have := pB_lt' I.pI ⟨y1, y2⟩ ⟨q1, q2⟩ l; omega
                by_cases ce : gm 1 (10 + 3 * x + 2) = gm 1 (10 + 3 * x1 + 2)
                · exact Or.inr ⟨ce, nl⟩
                · exact Or.inl (by omega)
            · by_cases cx : pB gm x (gm 1 4).toNat < x2
              · have := q4 x y1 y2 cx
                exact Or.inl (by omega)
              · have := only x y1 y2 (by omega)
                subst this
                exact Or.inr ⟨rfl, fun l => by unfold pL at l; omega⟩
    exact loop (gm 1 4).toNat (-1) 0 (by omega) (by omega) p2 (fun _ => rfl) (fun q => by omega)
  refine b_F_heaviest_0 hx (s_F_ofMostWeight hx I.pI (fun z => o_tellPin hx hm I (by omega) fun q gx' ht hq _ => mrun (fun _ => ht) (fun r hr => by have := hr.1; have := hr.2.1; exfalso; omega)) (fun r hr => o_tellPin hx hm I ⟨by have := hr.1; omega, hr.2.1⟩ fun q gx' ht hq _ => mrun (fun z => by have := hr.1; have := hr.2.1; exfalso; omega) (fun r' hr' => ?_)))
  rw [hr'.eq I.pI hr]; exact ht

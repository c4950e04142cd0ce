/-! ## middle, copyPins -/
theorem o_middle {X Y : z_X} {N K : Nat} {σ τ gx gm : z_G} (hx : z_lay X N σ 0 z_SF z_RF) (hm : z_lay Y K τ 0 z_SM z_RM) (I : Inv gx gm) : z_O X 5 m_F_middle [(2, 0)] N σ gx (fun r gx' => z_O Y 5 m_M_middle [(2, 0)] K τ gm (fun r' gm' => r' = r ∧ Inv gx' gm')) := by
  obtain ⟨p1, p2, p3, p4, p5⟩ := I.pI
  have wall := pW_le I.pI 1 1 (gm 1 4).toNat (by omega)
  have wle : ∀ x : Int, 0 ≤ pW gm (gm 1 (10 + 3 * x)) (gm 1 (10 + 3 * x + 1)) (gm 1 4).toNat ∧ pW gm (gm 1 (10 + 3 * x)) (gm 1 (10 + 3 * x + 1)) (gm 1 4).toNat ≤ 999 * 12 := fun x => by
    have := pW_le I.pI (gm 1 (10 + 3 * x)) (gm 1 (10 + 3 * x + 1)) (gm 1 4).toNat (by omega)
    omega
  have mrun : ∀ {Q : z_P}, (∀ r, pH gm r → z_O Y 3 m_M_tellsPin [(2, 0), (0, r)] K τ gm (fun r0 g0 => (r0 = 0 ∨ r0 = 1) → Q r0 g0)) → z_O Y 5 m_M_middle [(2, 0)] K τ gm Q := by
    intro Q hq
    refine b_M_middle_0 hm (s_M_rising hm I.pI fun r0 hr0 => ?_)
    have loop : ∀ (m : Nat) (x1 x2 : Int), gm 1 4 ≤ x1 + m → 0 ≤ x1 → x1 ≤ gm 1 4 → pR gm x1 x2 → (∀ x : Int, 0 ≤ x → x < gm 1 4 → pB gm x (gm 1 4).toNat < x1 → ¬ pC gm x) → L_M_middle_8 Y K τ x1 x2 gm Q := by
      intro m
      have fin : ∀ x1 x2 : Int, x1 = gm 1 4 → pR gm x1 x2 → (∀ x : Int, 0 ≤ x → x < gm 1 4 → pB gm x (gm 1 4).toNat < x1 → ¬ pC gm x) → L_M_middle_8 Y K τ x1 x2 gm Q := by
        intro x1 x2 k1 k2 k3
        have e : x2 = -1 := by
          rcases k2 with ⟨a1, -⟩ | ⟨a1, a2, a3, -⟩
          · exact a1
          · have := pB_top I.pI ⟨a1, a2⟩; omega
        exact b_M_middle_8 hm ⟨fun _ => hq x2 (Or.inl ⟨e, fun x y1 y2 => k3 x y1 y2 (by rw [k1]; exact pB_top I.pI ⟨y1, y2⟩)⟩), fun p => absurd e p⟩
      induction m with
      | zero => exact fun x1 x2 k1 k2 k3 k4 k5 => fin x1 x2 (by omega) k4 k5
      | succ m ih =>
        intro x1 x2 k1 k2 k3 k4 k5
        by_cases c : x1 = gm 1 4
        · exact fin x1 x2 c k4 k5
        · obtain ⟨r1, r2, r3⟩ := pR_on I.pI ⟨k2, by omega⟩ k4
          obtain ⟨-, -, -, ⟨v1, v2, v3, v4, -⟩, -⟩ := p4 x2 r1 r2
          have wx := wle x2
          refine b_M_middle_8 hm ⟨fun p => absurd p (by omega), fun _ => ⟨by omega, by omega, by omega, by omega, by omega, s_M_weightTo hm I.pI (by omega) (by omega) ⟨by omega, s_M_weightTo hm I.pI (by omega) (by omega) ⟨fun q => hq x2 (Or.inr ⟨r1, r2, q, fun x y1 y2 y3 l => ?_⟩), fun q => ⟨by omega, s_M_rising hm I.pI fun r' hr' => ih (x1 + 1) r' (by omega) (by omega) (by omega) hr' (fun x y1 y2 y3 => ?_)⟩⟩⟩⟩⟩
          · have := pB_lt' I.pI ⟨y1, y2⟩ ⟨r1, r2⟩ l
            exact k5 x y1 y2 (by omega) y3
          · by_cases cx : pB gm x (gm 1 4).toNat < x1
            · exact k5 x y1 y2 cx
            · have : x = x2 := pL_tri I.pI ⟨y1, y2⟩ ⟨r1, r2⟩ (fun l => by have := pB_lt' I.pI ⟨y1, y2⟩ ⟨r1, r2⟩ l; omega) (fun l => by have := pB_lt' I.pI ⟨r1, r2⟩ ⟨y1, y2⟩ l; omega)
              rw [this]; exact q
    exact loop (gm 1 4).toNat 0 r0 (by omega) (by omega) p2 hr0 (fun x y1 y2 y3 => by have := (pB_le gm x (gm 1 4).toNat).1; omega)
  have hfr : ∀ c i, c ≠ 18 → c ≠ 18 + 1 → gx c i = gx c i := fun _ _ _ _ => rfl
  refine b_F_middle_0 hx (b_Pi_halfWay_0 (o := 25) (ky_F_25 hx) (b_Pi_weightOfAll_0 (o := 25) (ky_F_25 hx) (s_F_weightUpTo hx I.pI hfr (by omega) (by omega) ?_)))
  have loop : ∀ (m : Nat) (x2 x3 : Int), gm 1 4 ≤ x3 + m → 0 ≤ x3 → x3 ≤ gm 1 4 → (x2 = -1 ∧ (∀ x : Int, 0 ≤ x → x < x3 → ¬ pC gm x)) ∨ (0 ≤ x2 ∧ x2 < x3 ∧ pC gm x2 ∧ ∀ x : Int, 0 ≤ x → x < x3 → pC gm x → ¬ pL gm x x2) → L_Pi_halfWay_9 X N σ (pW gm 1 1 (gm 1 4).toNat) x2 x3 25 gx (fun r0 g0 => z_O X 3 m_F_tellPin [(2, 0), (0, r0)] N σ g0 (fun r1 g1 => (r1 = 0 ∨ r1 = 1) → z_O Y 5 m_M_middle [(2, 0)] K τ gm (fun r' gm' => r' = r1 ∧ Inv g1 gm'))) := by
    intro m
    have fin : ∀ x2 x3 : Int, x3 = gm 1 4 → (x2 = -1 ∧ (∀ x : Int, 0 ≤ x → x < x3 → ¬ pC gm x)) ∨ (0 ≤ x2 ∧ x2 < x3 ∧ pC gm x2 ∧ ∀ x : Int, 0 ≤ x → x < x3 → pC gm x → ¬ pL gm x x2) → L_Pi_halfWay_9 X N σ (pW gm 1 1 (gm 1 4).toNat) x2 x3 25 gx (fun r0 g0 => z_O X 3 m_F_tellPin [(2, 0), (0, r0)] N σ g0 (fun r1 g1 => (r1 = 0 ∨ r1 = 1) → z_O Y 5 m_M_middle [(2, 0)] K τ gm (fun r' gm' => r' = r1 ∧ Inv g1 gm'))) := by
      intro x2 x3 k1 k2
      rw [k1] at k2
      have hH : pH gm x2 := k2
      refine b_Pi_halfWay_9 (o := 25) (ky_F_25 hx) ⟨fun _ => o_tellPin hx hm I (by rcases k2 with ⟨a, -⟩ | ⟨a, b, -, -⟩ <;> omega) fun q gx' ht hq _ => mrun (fun r hr => ?_), fun p => absurd (by omega) p⟩
      rw [hr.eq I.pI hH]; exact ht
    induction m with
    | zero => exact fun x2 x3 k1 k2 k3 k4 => fin x2 x3 (by omega) k4
    | succ m ih =>
      intro x2 x3 k1 k2 k3 k4
      by_cases c : x3 = gm 1 4
      · exact fin x2 x3 c k4
      · obtain ⟨t1, t2, t3, ⟨v1, v2, v3, v4, -⟩, -⟩ := p4 x3 k2 (by omega)
        have f1 : gx (25 + 1) x3 = gm 1 (10 + 3 * x3) := t1
        have f2 : gx (25 + 2) x3 = gm 1 (10 + 3 * x3 + 1) := t2
        have wx := wle x3
        refine b_Pi_halfWay_9 (o := 25) (ky_F_25 hx) ⟨fun p => absurd p (by omega), fun _ => ?_⟩
        rw [f1, f2]
        refine ⟨by omega, s_F_weightUpTo hx I.pI hfr (by omega) (by omega) ⟨by omega, fun q => ⟨by omega, ih x2 (x3 + 1) (by omega) (by omega) (by omega) ?_⟩, fun q => ⟨fun q2 => ⟨by omega, ih x3 (x3 + 1) (by omega) (by omega) (by omega) (Or.inr ?_)⟩, fun q2 => ?_⟩⟩⟩
        · have nc : ¬ pC gm x3 := fun h => by unfold pC at h; omega
          rcases k4 with ⟨a1, a2⟩ | ⟨a1, a2, a3, a4⟩
          · refine Or.inl ⟨a1, fun x y1 y2 => ?_⟩
            by_cases cx : x = x3
            · rw [cx]; exact nc
            · exact a2 x y1 (by omega)
          · refine Or.inr ⟨a1, by omega, a3, fun x y1 y2 y3 => ?_⟩
            by_cases cx : x = x3
            · rw [cx] at y3; exact absurd y3 nc
            · exact a4 x y1 (by omega) y3
        · rcases k4 with ⟨a1, a2⟩ | ⟨a1, a2, a3, a4⟩
          · refine ⟨k2, by omega, by unfold pC; omega, fun x y1 y2 y3 => ?_⟩
            by_cases cx : x = x3
            · rw [cx]; intro l; unfold pL at l; omega
            · exact absurd y3 (a2 x y1 (by omega))
          · omega
        · rcases k4 with ⟨a1, a2⟩ | ⟨a1, a2, a3, a4⟩
          · omega
          · obtain ⟨s1, s2, s3, ⟨w1, w2, w3, w4, -⟩, -⟩ := p4 x2 a1 (by omega)
            have e1 : gx (25 + 1) x2 = gm 1 (10 + 3 * x2) := s1
            have e2 : gx (25 + 2) x2 = gm 1 (10 + 3 * x2 + 1) := s2
            have b1 := n_mb (u := gm 1 (10 + 3 * x3)) (v := gm 1 (10 + 3 * x2 + 1)) (by omega) (by omega) (by omega) (by omega)
            have b2 := n_mb (u := gm 1 (10 + 3 * x2)) (v := gm 1 (10 + 3 * x3 + 1)) (by omega) (by omega) (by omega) (by omega)
            rw [f1, f2, e1, e2]
            refine ⟨by omega, by omega, by omega, by omega, fun y => ⟨by omega, ih x2 (x3 + 1) (by omega) (by omega) (by omega) (Or.inr ⟨a1, by omega, a3, fun x y1 y2 y3 => ?_⟩)⟩, fun y => ⟨by omega, ih x3 (x3 + 1) (by omega) (by omega) (by omega) (Or.inr ⟨k2, by omega, by unfold pC; omega, fun x y1 y2 y3 => ?_⟩)⟩⟩
            · by_cases cx : x = x3
              · rw [cx]; intro l; unfold pL at l; omega
              · exact a4 x y1 (by omega) y3
            · by_cases cx : x = x3
              · rw [cx]; intro l; unfold pL at l; omega
              · intro l
                obtain ⟨-, -, -, ⟨j1, j2, j3, j4, -⟩, -⟩ := p4 x y1 (by omega)
                exact a4 x y1 (by omega) y3 (n_less_tr j3 v3 w3 l (by omega))
  exact loop (gm 1 4).toNat (-1) 0 (by omega) (by omega) p2 (Or.inl ⟨rfl, fun x y1 y2 => by omega⟩)

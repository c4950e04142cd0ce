/-! ## risingAt: both -/
theorem s_F_rising {X : z_X} {N : Nat} {σ g gm : z_G} {Q : z_P} (hx : z_lay X N σ 0 z_SF z_RF) (h : pI g gm) {a : Int} (hq : ∀ r, pR gm a r → Q r g) : z_O X 4 m_Pi_rising [(2, 25), (0, a)] N σ g Q := by
  obtain ⟨p1, p2, p3, p4, p5⟩ := h
  have many : ∀ {Q : z_P} (x : Int), 0 ≤ x → x < gm 1 4 → Q (pB gm x (gm 1 4).toNat) g → z_O X 3 m_Pi_manyBelow [(2, 25), (0, x)] N σ g Q := by
    intro Q x x1 x2 hQ
    refine b_Pi_manyBelow_0 (o := 25) (ky_F_25 hx) ?_
    obtain ⟨u1, u2, -, ⟨w1, w2, w3, w4, -⟩, -⟩ := p4 x x1 x2
    have f1 : g (25 + 1) x = gm 1 (10 + 3 * x) := u1
    have f2 : g (25 + 2) x = gm 1 (10 + 3 * x + 1) := u2
    have loop : ∀ (m n : Nat), gm 1 4 ≤ (n : Int) + m → (n : Int) ≤ gm 1 4 → L_Pi_manyBelow_4 X N σ x (pB gm x n) n 25 g Q := by
      intro m
      induction m with
      | zero =>
        intro n k1 k2
        have : n = (gm 1 4).toNat := by omega
        subst this
        exact b_Pi_manyBelow_4 (o := 25) (ky_F_25 hx) ⟨fun _ => hQ, fun p => absurd (by omega) p⟩
      | succ m ih =>
        intro n k1 k2
        by_cases c : gm 1 4 ≤ (n : Int)
        · exact ih n (by omega) k2
        · have i1 := ih (n + 1) (by omega) (by omega)
          have l := pB_le gm x n
          obtain ⟨t1, t2, -, ⟨v1, v2, v3, v4, -⟩, -⟩ := p4 n (by omega) (by omega)
          have f3 : g (25 + 1) n = gm 1 (10 + 3 * (n : Int)) := t1
          have f4 : g (25 + 2) n = gm 1 (10 + 3 * (n : Int) + 1) := t2
          have b1 := n_mb (u := gm 1 (10 + 3 * (n : Int))) (v := gm 1 (10 + 3 * x + 1)) (by omega) (by omega) (by omega) (by omega)
          have b2 := n_mb (u := gm 1 (10 + 3 * x)) (v := gm 1 (10 + 3 * (n : Int) + 1)) (by omega) (by omega) (by omega) (by omega)
          unfold pB at i1
          refine b_Pi_manyBelow_4 (o := 25) (ky_F_25 hx) ⟨fun p => absurd p (by omega), fun _ => ?_⟩
          rw [f1, f2, f3, f4]
          refine ⟨by omega, by omega, by omega, by omega, by omega, fun p => ⟨by omega, ?_⟩, fun p => ⟨by omega, by omega, ?_⟩⟩
          · rw [if_pos (by omega), Int.add_zero] at i1; exact i1
          · rw [if_neg (by omega)] at i1; exact i1
    exact loop (gm 1 4).toNat 0 (by omega) (by omega)
  refine b_Pi_rising_0 (o := 25) (ky_F_25 hx) ?_
  have outer : ∀ (m : Nat) (x : Int), gm 1 4 ≤ x + m → 0 ≤ x → x ≤ gm 1 4 → (∀ y : Int, 0 ≤ y → y < x → pB gm y (gm 1 4).toNat ≠ a) → L_Pi_rising_2 X N σ a x 25 g Q := by
    intro m
    induction m with
    | zero => exact fun x k1 k2 k3 k4 => b_Pi_rising_2 (o := 25) (ky_F_25 hx) ⟨fun _ => hq _ (Or.inl ⟨rfl, fun y y1 y2 => k4 y y1 (by omega)⟩), fun p => absurd (by omega) p⟩
    | succ m ih =>
      intro x k1 k2 k3 k4
      by_cases c : gm 1 4 ≤ x
      · exact ih x (by omega) k2 k3 k4
      · refine b_Pi_rising_2 (o := 25) (ky_F_25 hx) ⟨fun p => absurd p (by omega), fun _ => many x k2 (by omega) ⟨fun q => hq _ (Or.inr ⟨k2, by omega, q, k4⟩), fun q => ⟨by omega, ih (x + 1) (by omega) (by omega) (by omega) fun y y1 y2 => ?_⟩⟩⟩
        by_cases e : y = x
        · rw [e]; exact q
        · exact k4 y y1 (by omega)
  exact outer (gm 1 4).toNat 0 (by omega) (by omega) p2 (fun y _ _ => by omega)
/-- both tell the pin r (or that there is none) -/
theorem o_tellPin {X Y : z_X} {N K : Nat} {σ τ gx gm : z_G} (hx : z_lay X N σ 0 z_SF z_RF) (hm : z_lay Y K τ 0 z_SM z_RM) (I : Inv gx gm) {r : Int} (hr : -1 ≤ r ∧ r < gm 1 4) {P : Int → z_G → Prop} (hP : ∀ q gx', z_O Y 3 m_M_tellsPin [(2, 0), (0, r)] K τ gm (fun r' gm' => (r' = 0 ∨ r' = 1) → r' = q ∧ Inv gx' gm') → (q = 0 ∨ q = 1) → P q gx') : z_O X 3 m_F_tellPin [(2, 0), (0, r)] N σ gx P := by
  obtain ⟨p1, p2, p3, p4, p5⟩ := I.pI
  refine b_F_tellPin_0 hx ⟨fun c => hP _ _ (b_M_tellsPin_0 hm ⟨fun _ _ => ⟨rfl, I.fin xA.rf yA.rf I.2.2.2.2 6⟩, fun e => absurd (by omega) e⟩) (by omega), fun c => ⟨fun q => ⟨by omega, ?_⟩, fun q => absurd (by omega) q⟩⟩
  obtain ⟨q1, q2, q3, q4, q5⟩ := p4 r (by omega) (by omega)
  obtain ⟨u1, u2, u3, u4, u5⟩ := q4
  rw [q1, q2]
  refine s_F_tell hx (by omega) (by omega) (by omega) fun _ => hP _ _ (b_M_tellsPin_0 hm ⟨fun e => absurd e (by omega), fun _ => ⟨by omega, by omega, by omega, by omega, by omega, s_M_tellsBy hm (by omega) (by omega) fun _ _ => ⟨rfl, I.tell xA.rf yA.rf I.2.2.2.2 _ _⟩⟩⟩) (by omega)
theorem pR.le {gm : z_G} {a r : Int} (h : pR gm a r) (h0 : 0 ≤ gm 1 4) : -1 ≤ r ∧ r < gm 1 4 := by
  rcases h with ⟨a1, -⟩ | ⟨a1, a2, -, -⟩ <;> omega
theorem o_risingAt {X Y : z_X} {N K : Nat} {σ τ gx gm : z_G} (hx : z_lay X N σ 0 z_SF z_RF) (hm : z_lay Y K τ 0 z_SM z_RM) (I : Inv gx gm) {a1 : Int} (r1 : -2147483648 ≤ a1 ∧ a1 ≤ 2147483647) : z_O X 5 m_F_risingAt [(2, 0), (0, a1)] N σ gx (fun r gx' => z_O Y 5 m_M_risingAt [(2, 0), (0, a1)] K τ gm (fun r' gm' => r' = r ∧ Inv gx' gm')) := by
  refine b_F_risingAt_0 hx ⟨fun c => s_F_rising hx I.pI fun r hr => o_tellPin hx hm I (hr.le I.pI.2.1) fun q gx' ht hq _ => b_M_risingAt_0 hm ⟨fun _ => s_M_rising hm I.pI fun r2 hr2 => ?_, fun p => absurd c p⟩, fun c => b_M_risingAt_0 hm ⟨fun p => absurd p c, fun _ => ⟨rfl, I.fin xA.rf yA.rf I.2.2.2.2 1⟩⟩⟩
  rw [hr2.eq hr]; exact ht

/-! ## gap: step by step -/
theorem n_mb2 {u v : Int} (u1 : -100000000 ≤ u) (u2 : u ≤ 100000000) (v1 : 0 ≤ v) (v2 : v ≤ 100000000) : -10000000000000000 ≤ u * v ∧ u * v ≤ 10000000000000000 := by
  have a1 : u * v ≤ 100000000 * v := Int.mul_le_mul_of_nonneg_right u2 v1
  have a2 : (-100000000) * v ≤ u * v := Int.mul_le_mul_of_nonneg_right u1 v1
  omega
theorem o_gap {X Y : z_X} {N K : Nat} {σ τ gx gm : z_G} (hx : z_lay X N σ 0 z_SF z_RF) (hm : z_lay Y K τ 0 z_SM z_RM) (I : Inv gx gm) : z_O X 5 m_F_gap [(2, 0)] N σ gx (fun r gx' => z_O Y 5 m_M_gap [(2, 0)] K τ gm (fun r' gm' => r' = r ∧ Inv gx' gm')) := by
  obtain ⟨p1, p2, p3, p4, p5⟩ := I.pI
  refine b_F_gap_0 hx ?_
  have loop : ∀ (m : Nat) (x2 x3 x4 x6 x8 : Int), gm 1 4 < x8 + m → 0 ≤ x8 → x8 ≤ gm 1 4 + 1 → 0 ≤ x2 → x2 ≤ 9999 → 1 ≤ x3 → x3 ≤ 9999 → 0 ≤ x4 → x4 ≤ 100000000 → 1 ≤ x6 → x6 ≤ 100000000 → (∀ Q : z_P, L_M_gap_12 Y K τ x2 x3 x4 x6 x8 gm Q → z_O Y 5 m_M_gap [(2, 0)] K τ gm Q) → L_F_gap_21 X N σ x2 x3 x4 x6 x8 gx (fun r gx' => z_O Y 5 m_M_gap [(2, 0)] K τ gm (fun r' gm' => r' = r ∧ Inv gx' gm')) := by
    intro m
    induction m with
    | zero =>
      intro x2 x3 x4 x6 x8 k1 k2 k3 k4 k5 k6 k7 k8 k9 k10 k11 H
      exact b_F_gap_21 hx ⟨fun _ => s_F_tell hx (by omega) (by omega) (by omega) fun _ => H _ (b_M_gap_12 hm ⟨fun _ => s_M_tellsBy hm (by omega) (by omega) fun _ => ⟨rfl, I.tell xA.rf yA.rf I.2.2.2.2 _ _⟩, fun p => absurd (by omega) p⟩), fun p => absurd (by omega) p⟩
    | succ m ih =>
      intro x2 x3 x4 x6 x8 k1 k2 k3 k4 k5 k6 k7 k8 k9 k10 k11 H
      by_cases c : gm 1 4 < x8
      · exact b_F_gap_21 hx ⟨fun _ => s_F_tell hx (by omega) (by omega) (by omega) fun _ => H _ (b_M_gap_12 hm ⟨fun _ => s_M_tellsBy hm (by omega) (by omega) fun _ => ⟨rfl, I.tell xA.rf yA.rf I.2.2.2.2 _ _⟩, fun p => absurd (by omega) p⟩), fun p => absurd (by omega) p⟩
      · refine b_F_gap_21 hx ⟨fun p => absurd p (by omega), fun _ => s_F_rising hx I.pI fun r hr => ⟨fun r0 => ?_, fun r0 => ?_⟩⟩
        · have hr1 := hr.le p2
          obtain ⟨q1, q2, q3, ⟨u1, u2, u3, u4, -⟩, q5⟩ := p4 r (by omega) (by omega)
          rw [q1, q2]
          have mstep : ∀ Q : z_P, (¬ ((gm 1 (10 + 3 * r) * x3 - x2 * gm 1 (10 + 3 * r + 1)) * x6 ≤ x4 * (x3 * gm 1 (10 + 3 * r + 1))) → L_M_gap_12 Y K τ (gm 1 (10 + 3 * r)) (gm 1 (10 + 3 * r + 1)) (gm 1 (10 + 3 * r) * x3 - x2 * gm 1 (10 + 3 * r + 1)) (x3 * gm 1 (10 + 3 * r + 1)) (x8 + 1) gm Q) → ((gm 1 (10 + 3 * r) * x3 - x2 * gm 1 (10 + 3 * r + 1)) * x6 ≤ x4 * (x3 * gm 1 (10 + 3 * r + 1)) → L_M_gap_12 Y K τ (gm 1 (10 + 3 * r)) (gm 1 (10 + 3 * r + 1)) x4 x6 (x8 + 1) gm Q) → z_O Y 5 m_M_gap [(2, 0)] K τ gm Q := by
            intro Q h1 h2
            have b1 := n_mb (u := gm 1 (10 + 3 * r)) (v := x3) (by omega) (by omega) (by omega) (by omega)
            have b2 := n_mb (u := x2) (v := gm 1 (10 + 3 * r + 1)) (by omega) (by omega) (by omega) (by omega)
            have b3 := n_mb (u := x3) (v := gm 1 (10 + 3 * r + 1)) (by omega) (by omega) (by omega) (by omega)
            have b4 := n_mb2 (u := gm 1 (10 + 3 * r) * x3 - x2 * gm 1 (10 + 3 * r + 1)) (v := x6) (by omega) (by omega) (by omega) (by omega)
            have b5 := n_mb2 (u := x4) (v := x3 * gm 1 (10 + 3 * r + 1)) (by omega) (by omega) (by omega) (by omega)
            refine H Q (b_M_gap_12 hm ⟨fun p => absurd p c, fun _ => s_M_rising hm I.pI fun r2 hr2 => ?_⟩)
            rw [hr2.eq hr]
            exact ⟨fun e => absurd e (by omega), fun _ => ⟨by omega, by omega, by omega, by omega, by omega, by omega, by omega, by omega, by omega, by omega, by omega, fun p => ⟨by omega, h2 p⟩, fun p => ⟨by omega, h1 p⟩⟩⟩
          rw [Int.mul_comm (gm 1 (10 + 3 * r + 1)) x3]
          have b1 := n_mb (u := gm 1 (10 + 3 * r)) (v := x3) (by omega) (by omega) (by omega) (by omega)
          have b2 := n_mb (u := x2) (v := gm 1 (10 + 3 * r + 1)) (by omega) (by omega) (by omega) (by omega)
          have b3 := n_mb (u := x3) (v := gm 1 (10 + 3 * r + 1)) (by omega) (by omega) (by omega) (by omega)
          have b4 := n_mb2 (u := gm 1 (10 + 3 * r) * x3 - x2 * gm 1 (10 + 3 * r + 1)) (v := x6) (by omega) (by omega) (by omega) (by omega)
          have b5 := n_mb2 (u := x4) (v := x3 * gm 1 (10 + 3 * r + 1)) (by omega) (by omega) (by omega) (by omega)
          refine ⟨by omega, by omega, by omega, by omega, by omega, by omega, by omega, fun p => ⟨by omega, ?_⟩, fun p => ⟨by omega, ?_⟩⟩
          · exact ih _ _ _ _ _ (by omega) (by omega) (by omega) (by omega) (by omega) (by omega) (by omega) (by omega) (by omega) (by omega) (by omega) fun Q h => mstep Q (fun q => absurd p q) (fun _ => h)
          · have d0 : 0 ≤ gm 1 (10 + 3 * r) * x3 - x2 * gm 1 (10 + 3 * r + 1) := by
              refine Int.not_lt.mp fun d => p ?_
              have e1 : (gm 1 (10 + 3 * r) * x3 - x2 * gm 1 (10 + 3 * r + 1)) * x6 ≤ 0 * x6 := Int.mul_le_mul_of_nonneg_right (by omega) (by omega)
              have e2 : 0 ≤ x4 * (x3 * gm 1 (10 + 3 * r + 1)) := Int.mul_nonneg (by omega) (by omega)
              omega
            have d1 : 1 ≤ x3 * gm 1 (10 + 3 * r + 1) := by
              have : 1 * gm 1 (10 + 3 * r + 1) ≤ x3 * gm 1 (10 + 3 * r + 1) := Int.mul_le_mul_of_nonneg_right (by omega) (by omega)
              omega
            exact ih _ _ _ _ _ (by omega) (by omega) (by omega) (by omega) (by omega) (by omega) (by omega) (by omega) (by omega) (by omega) (by omega) fun Q h => mstep Q (fun _ => h) (fun q => absurd q p)
        · have hr1 := hr.le p2
          have er : r = -1 := by omega
          have b4 := n_mb2 (u := x3 - x2) (v := x6) (by omega) (by omega) (by omega) (by omega)
          have b5 := n_mb2 (u := x4) (v := x3) (by omega) (by omega) (by omega) (by omega)
          have mstep : ∀ Q : z_P, (¬ ((x3 - x2) * x6 ≤ x4 * x3) → L_M_gap_12 Y K τ 1 1 (x3 - x2) x3 (x8 + 1) gm Q) → ((x3 - x2) * x6 ≤ x4 * x3 → L_M_gap_12 Y K τ 1 1 x4 x6 (x8 + 1) gm Q) → z_O Y 5 m_M_gap [(2, 0)] K τ gm Q := by
            intro Q h1 h2
            refine H Q (b_M_gap_12 hm ⟨fun p => absurd p c, fun _ => s_M_rising hm I.pI fun r2 hr2 => ?_⟩)
            rw [hr2.eq hr, Int.one_mul, Int.mul_one, Int.mul_one]
            exact ⟨fun _ => ⟨by omega, by omega, by omega, by omega, by omega, by omega, fun p => ⟨by omega, h2 p⟩, fun p => ⟨by omega, h1 p⟩⟩, fun e => absurd er e⟩
          rw [Int.one_mul, Int.mul_one]
          refine ⟨by omega, by omega, by omega, by omega, by omega, fun p => ⟨by omega, ?_⟩, fun p => ⟨by omega, ?_⟩⟩
          · exact ih _ _ _ _ _ (by omega) (by omega) (by omega) (by omega) (by omega) (by omega) (by omega) (by omega) (by omega) (by omega) (by omega) fun Q h => mstep Q (fun q => absurd p q) (fun _ => h)
          · have d0 : 0 ≤ x3 - x2 := by
              refine Int.not_lt.mp fun d => p ?_
              have e1 : (x3 - x2) * x6 ≤ 0 * x6 := Int.mul_le_mul_of_nonneg_right (by omega) (by omega)
              have e2 : 0 ≤ x4 * x3 := Int.mul_nonneg (by omega) (by omega)
              omega
            exact ih _ _ _ _ _ (by omega) (by omega) (by omega) (by omega) (by omega) (by omega) (by omega) (by omega) (by omega) (by omega) (by omega) fun Q h => mstep Q (fun _ => h) (fun q => absurd q p)
  exact loop 20 0 1 0 1 0 (by omega) (by omega) (by omega) (by omega) (by omega) (by omega) (by omega) (by omega) (by omega) (by omega) (by omega) fun Q h => b_M_gap_0 hm h

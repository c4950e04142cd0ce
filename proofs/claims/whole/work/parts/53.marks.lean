/-! ## mark, undo, pinsOfRow -/
theorem s_M_copies {X : z_X} {N : Nat} {σ g : z_G} {Q : z_P} (hm : z_lay X N σ 0 z_SM z_RM) {a b : Int} (ha : 0 ≤ a ∧ a ≤ 3) (hb : 0 ≤ b ∧ b ≤ 3) (hab : a ≠ b) (hq : ∀ g', (∀ i : Int, 0 ≤ i → i < 610 → g' 1 (610 * b + i) = g 1 (610 * a + i)) → (∀ c i, ¬ (c = 1 ∧ 610 * b ≤ i ∧ i < 610 * b + 610) → g' c i = g c i) → Q 0 g') : z_O X 1 m_M_copies [(2, 0), (0, a), (0, b)] N σ g Q := by
  refine b_M_copies_0 hm ?_
  have loop : ∀ (m : Nat) (x : Int) (g' : z_G), 610 ≤ x + m → 0 ≤ x → x ≤ 610 → (∀ i : Int, 0 ≤ i → i < x → g' 1 (610 * b + i) = g 1 (610 * a + i)) → (∀ c i, ¬ (c = 1 ∧ 610 * b ≤ i ∧ i < 610 * b + 610) → g' c i = g c i) → L_M_copies_2 X N σ a b x g' Q := by
    intro m
    induction m with
    | zero => exact fun x g' k1 k2 k3 k4 k5 => b_M_copies_2 hm ⟨fun _ => hq g' (fun i i0 i1 => k4 i i0 (by omega)) k5, fun p => absurd (by omega) p⟩
    | succ m ih =>
      intro x g' k1 k2 k3 k4 k5
      by_cases c : 610 ≤ x
      · exact ih x g' (by omega) k2 k3 k4 k5
      · refine b_M_copies_2 hm ⟨fun p => absurd p c, fun _ => ⟨by omega, by omega, by omega, by omega, by omega, by omega, by omega, ih (x + 1) _ (by omega) (by omega) (by omega) (fun i i0 i1 => ?_) (fun c i hc => ?_)⟩⟩
        · by_cases e : i = x
          · rw [e, z_u1]; exact k5 _ _ (by omega)
          · rw [z_u2 (by omega)]; exact k4 i i0 (by omega)
        · rw [z_u2 (by omega)]; exact k5 c i hc
  exact loop 610 0 g (by omega) (by omega) (by omega) (fun i i0 i1 => by omega) (fun c i _ => rfl)
theorem k_marks {X : z_X} {N : Nat} {σ : z_G} (hx : z_lay X N σ 0 z_SF z_RF) {t : Int} (ht : 0 ≤ t ∧ t < 3) : σ 51 t = ((52 + 14 * t.toNat : Nat) : Int) ∧ z_sh X (52 + 14 * t.toNat) = (0, 0) ∧ 52 + 14 * t.toNat < N ∧ z_lay X N σ (52 + 14 * t.toNat) z_SBd z_RBd := by
  rcases (show t = 0 ∨ t = 1 ∨ t = 2 by omega) with rfl | rfl | rfl
  · refine ⟨kr_F_51_0 hx, ks_F_52 hx, kl_F_52 hx, ?_⟩
    have h := hx.sub (SL' := z_SBd) (RL' := z_RBd) 52 (by decide) rfl (by decide); rw [Nat.zero_add] at h; exact h
  · refine ⟨kr_F_51_1 hx, ks_F_66 hx, kl_F_66 hx, ?_⟩
    have h := hx.sub (SL' := z_SBd) (RL' := z_RBd) 66 (by decide) rfl (by decide); rw [Nat.zero_add] at h; exact h
  · refine ⟨kr_F_51_2 hx, ks_F_80 hx, kl_F_80 hx, ?_⟩
    have h := hx.sub (SL' := z_SBd) (RL' := z_RBd) 80 (by decide) rfl (by decide); rw [Nat.zero_add] at h; exact h
theorem o_mark {X Y : z_X} {N K : Nat} {σ τ gx gm : z_G} (hx : z_lay X N σ 0 z_SF z_RF) (hm : z_lay Y K τ 0 z_SM z_RM) (I : Inv gx gm) : z_O X 3 m_F_mark [(2, 0)] N σ gx (fun r gx' => z_O Y 2 m_M_mark [(2, 0)] K τ gm (fun r' gm' => r' = r ∧ Inv gx' gm')) := by
  obtain ⟨e1, e2, e3⟩ := I.2.2.2.1.2.2.2.2.1
  have hB := I.2.2.2.1.2.2.2.2.2.2.1
  refine b_F_mark_0 hx ⟨fun c => ⟨by omega, ?_⟩, fun c => b_M_mark_0 hm ⟨fun _ => ⟨rfl, I.fin xA.rf yA.rf I.2.2.2.2 4⟩, fun p => absurd (by omega) p⟩⟩
  obtain ⟨k1, k2, k3, k4⟩ := k_marks hx (t := gx 0 14) (by omega)
  refine ⟨_, k1, k2, k3, s_Bd_copyFrom (o := 52 + 14 * (gx 0 14).toNat) (p := 23) k4 (ky_F_23 hx) (by omega) fun g1 h1 h2 => ?_⟩
  have f14 : g1 0 14 = gx 0 14 := h2 _ _ (by omega)
  refine ⟨by omega, b_M_mark_0 hm ⟨fun p => absurd p (by omega), fun _ => ⟨by omega, s_M_copies hm (by omega) (by omega) (by omega) fun m1 j1 j2 => ?_⟩⟩⟩
  have m41 : m1 0 41 = gm 0 41 + 1 := by rw [j2 _ _ (by omega)]; exact z_u1
  have mk : ∀ c i, ¬ (c = 1 ∧ 610 * (gm 0 41 + 1) ≤ i ∧ i < 610 * (gm 0 41 + 1) + 610) → ¬ (c = 0 ∧ i = 41) → m1 c i = gm c i := fun c i q1 q2 => by rw [j2 c i q1, z_u2 (by omega)]
  refine ⟨by rw [m41, f14, e1], ?_⟩
  obtain ⟨i1, i2, i3, ⟨t1, t2, t3, t4, t5, t6, t7, t8⟩, i5⟩ := I
  have xk : ∀ c i, ¬ (52 + 14 * (gx 0 14).toNat ≤ c ∧ c ≤ 52 + 14 * (gx 0 14).toNat + 13) → ¬ (c = 0 ∧ (i = 14 ∨ i = 0)) → z_up (z_up g1 0 14 (g1 0 14 + 1)) 0 0 0 c i = gx c i := fun c i q1 q2 => by rw [z_u2 (by omega), z_u2 (by omega), h2 c i q1]
  have yk : ∀ c i, ¬ (c = 1 ∧ 610 * (gm 0 41 + 1) ≤ i ∧ i < 610 * (gm 0 41 + 1) + 610) → ¬ (c = 0 ∧ (i = 41 ∨ i = 1)) → z_up m1 0 1 0 c i = gm c i := fun c i q1 q2 => by rw [z_u2 (by omega), mk c i q1 (by omega)]
  have x14 : z_up (z_up g1 0 14 (g1 0 14 + 1)) 0 0 0 0 14 = gx 0 14 + 1 := by rw [z_u2 (by omega), z_u1, f14]
  have y41 : z_up m1 0 1 0 0 41 = gm 0 41 + 1 := by rw [z_u2 (by omega), m41]
  generalize hgx : z_up (z_up g1 0 14 (g1 0 14 + 1)) 0 0 0 = gx' at *
  have xb : ∀ j i, bR j i → gx' (52 + 14 * (gx 0 14).toNat + j) i = gx (23 + j) i := fun j i q => by
    rw [← hgx, z_u2 (by omega), z_u2 (by omega)]; exact h1 j i q
  have x0 : gx' 0 0 = 0 := by rw [← hgx, z_u1]
  generalize hgm : z_up m1 0 1 0 = gm' at *
  have yb : ∀ i : Int, 0 ≤ i → i < 610 → gm' 1 (610 * (gm 0 41 + 1) + i) = gm 1 i := fun i q1 q2 => by
    rw [← hgm, z_u2 (by omega), j1 i q1 q2, z_u2 (by omega)]; congr 1; omega
  have y0 : gm' 0 1 = 0 := by rw [← hgm, z_u1]
  refine ⟨by rw [x0, y0], by rw [xk _ _ (by omega) (by omega), yk _ _ (by omega) (by omega)]; exact i2, by rw [xk _ _ (by omega) (by omega), yk _ _ (by omega) (by omega)]; exact i3, ⟨fun t a b => ?_, ?_, ?_, ?_, ⟨by omega, by omega, by omega⟩, fun j hj => ?_, ?_, fun d hd => ?_⟩, ?_⟩
  · obtain ⟨q1, q2, q3, q4, q5, q6, q7⟩ := t1 t a b
    rw [xk 7 t (by omega) (by omega), xk 8 t (by omega) (by omega), yk 2 t (by omega) (by omega), yk 3 t (by omega) (by omega)]
    refine ⟨q1, q2, q3, q4, q5, q6, fun i i1 i2 => ?_⟩
    rw [xk _ i (by omega) (by omega), yk 4 _ (by omega) (by omega)]; exact q7 i i1 i2
  · unfold iF at t2 ⊢
    rw [xk 10 1 (by omega) (by omega), yk 0 9 (by omega) (by omega)]
    refine ⟨t2.1, t2.2.1, t2.2.2.1, fun i i1 i2 => ?_⟩
    rw [xk 11 i (by omega) (by omega), yk 5 i (by omega) (by omega)]; exact t2.2.2.2 i i1 i2
  · rw [xk 0 5 (by omega) (by omega), xk 0 6 (by omega) (by omega), yk 0 15 (by omega) (by omega), yk 0 16 (by omega) (by omega)]; exact t3
  · unfold iL at t4 ⊢
    rw [xk 0 17 (by omega) (by omega), xk 94 1 (by omega) (by omega), xk 94 2 (by omega) (by omega), xk 94 3 (by omega) (by omega), xk 94 4 (by omega) (by omega), xk 94 5 (by omega) (by omega), yk 0 40 (by omega) (by omega), yk 17 0 (by omega) (by omega), yk 17 1 (by omega) (by omega), yk 17 2 (by omega) (by omega), yk 17 3 (by omega) (by omega), yk 17 4 (by omega) (by omega)]; exact t4
  · by_cases cj : (j : Int) < gm 0 41
    · exact (t6 j cj).congr (fun a i ha => xk _ _ (by omega) (by omega)) (fun i i1 i2 => yk _ _ (by omega) (by omega))
    · have ej : j = (gx 0 14).toNat := by omega
      have ej2 : (j : Int) = gm 0 41 := by omega
      refine iB.fine (fx := fX gx 23) (t7.congr (fun a i ha => rfl) (fun i i1 i2 => ?_)) (fun a i ha => ?_)
      · unfold fM
        rw [ej2, yb i i1 (by omega), Int.zero_add]
      · unfold fX
        rw [ej]; exact xb a i ha
  · exact t7.congr (fun a i ha => xk _ _ (by omega) (by omega)) (fun i i1 i2 => yk _ _ (by omega) (by omega))
  · rw [xk 16 d (by omega) (by omega), xk 17 d (by omega) (by omega)]; exact t8 d hd
  · exact i5.congr (fun i => yk _ _ (by omega) (by omega)) (fun i => yk _ _ (by omega) (by omega)) (yk _ _ (by omega) (by omega)) (yk _ _ (by omega) (by omega))
theorem o_undo {X Y : z_X} {N K : Nat} {σ τ gx gm : z_G} (hx : z_lay X N σ 0 z_SF z_RF) (hm : z_lay Y K τ 0 z_SM z_RM) (I : Inv gx gm) : z_O X 3 m_F_undo [(2, 0)] N σ gx (fun r gx' => z_O Y 2 m_M_undo [(2, 0)] K τ gm (fun r' gm' => r' = r ∧ Inv gx' gm')) := by
  obtain ⟨e1, e2, e3⟩ := I.2.2.2.1.2.2.2.2.1
  refine b_F_undo_0 hx ⟨fun c => b_M_undo_0 hm ⟨fun _ => ⟨rfl, I.fin xA.rf yA.rf I.2.2.2.2 6⟩, fun p => absurd (by omega) p⟩, fun c => ⟨fun c2 => ⟨by omega, by omega, ?_⟩, fun p => absurd (by omega) p⟩⟩
  obtain ⟨k1, k2, k3, k4⟩ := k_marks hx (t := gx 0 14 - 1) (by omega)
  refine ⟨_, k1, k2, k3, s_Bd_copyFrom (o := 23) (p := 52 + 14 * (gx 0 14 - 1).toNat) (ky_F_23 hx) k4 (by omega) fun g1 h1 h2 => ?_⟩
  have f14 : g1 0 14 = gx 0 14 - 1 := by rw [h2 _ _ (by omega), z_u1]
  refine b_M_undo_0 hm ⟨fun p => absurd p (by omega), fun _ => s_M_copies hm (by omega) (by omega) (by omega) fun m1 j1 j2 => ?_⟩
  have m41 : m1 0 41 = gm 0 41 := by rw [j2 _ _ (by omega)]
  refine ⟨by omega, by omega, ?_⟩
  obtain ⟨i1, i2, i3, ⟨t1, t2, t3, t4, t5, t6, t7, t8⟩, i5⟩ := I
  have xk : ∀ c i, ¬ (23 ≤ c ∧ c ≤ 36) → ¬ (c = 0 ∧ (i = 14 ∨ i = 0)) → z_up g1 0 0 0 c i = gx c i := fun c i q1 q2 => by rw [z_u2 (by omega), h2 c i (by omega), z_u2 (by omega)]
  have yk : ∀ c i, ¬ (c = 1 ∧ 0 ≤ i ∧ i < 610) → ¬ (c = 0 ∧ (i = 41 ∨ i = 1)) → z_up (z_up m1 0 41 (m1 0 41 - 1)) 0 1 0 c i = gm c i := fun c i q1 q2 => by rw [z_u2 (by omega), z_u2 (by omega), j2 c i (by omega)]
  have x14 : z_up g1 0 0 0 0 14 = gx 0 14 - 1 := by rw [z_u2 (by omega), f14]
  have y41 : z_up (z_up m1 0 41 (m1 0 41 - 1)) 0 1 0 0 41 = gm 0 41 - 1 := by rw [z_u2 (by omega), z_u1, m41]
  have xb : ∀ j i, bR j i → z_up g1 0 0 0 (23 + j) i = gx (52 + 14 * (gx 0 14 - 1).toNat + j) i := fun j i q => by
    rw [z_u2 (by omega), h1 j i q, z_u2 (by omega)]
  have x0 : z_up g1 0 0 0 0 0 = 0 := z_u1
  have yb : ∀ i : Int, 0 ≤ i → i < 610 → z_up (z_up m1 0 41 (m1 0 41 - 1)) 0 1 0 1 i = gm 1 (610 * gm 0 41 + i) := fun i q1 q2 => by
    rw [z_u2 (by omega), z_u2 (by omega)]
    have := j1 i q1 q2
    rw [show 610 * (0 : Int) + i = i by omega] at this
    exact this
  have y0 : z_up (z_up m1 0 41 (m1 0 41 - 1)) 0 1 0 0 1 = 0 := z_u1
  generalize z_up g1 0 0 0 = gx' at *
  generalize z_up (z_up m1 0 41 (m1 0 41 - 1)) 0 1 0 = gm' at *
  refine ⟨by rw [x0, y0], by rw [xk _ _ (by omega) (by omega), yk _ _ (by omega) (by omega)]; exact i2, by rw [xk _ _ (by omega) (by omega), yk _ _ (by omega) (by omega)]; exact i3, ⟨fun t a b => ?_, ?_, ?_, ?_, ⟨by omega, by omega, by omega⟩, fun j hj => ?_, ?_, fun d hd => ?_⟩, ?_⟩
  · obtain ⟨q1, q2, q3, q4, q5, q6, q7⟩ := t1 t a b
    rw [xk 7 t (by omega) (by omega), xk 8 t (by omega) (by omega), yk 2 t (by omega) (by omega), yk 3 t (by omega) (by omega)]
    refine ⟨q1, q2, q3, q4, q5, q6, fun i i1 i2 => ?_⟩
    rw [xk _ i (by omega) (by omega), yk 4 _ (by omega) (by omega)]; exact q7 i i1 i2
  · unfold iF at t2 ⊢
    rw [xk 10 1 (by omega) (by omega), yk 0 9 (by omega) (by omega)]
    refine ⟨t2.1, t2.2.1, t2.2.2.1, fun i i1 i2 => ?_⟩
    rw [xk 11 i (by omega) (by omega), yk 5 i (by omega) (by omega)]; exact t2.2.2.2 i i1 i2
  · rw [xk 0 5 (by omega) (by omega), xk 0 6 (by omega) (by omega), yk 0 15 (by omega) (by omega), yk 0 16 (by omega) (by omega)]; exact t3
  · unfold iL at t4 ⊢
    rw [xk 0 17 (by omega) (by omega), xk 94 1 (by omega) (by omega), xk 94 2 (by omega) (by omega), xk 94 3 (by omega) (by omega), xk 94 4 (by omega) (by omega), xk 94 5 (by omega) (by omega), yk 0 40 (by omega) (by omega), yk 17 0 (by omega) (by omega), yk 17 1 (by omega) (by omega), yk 17 2 (by omega) (by omega), yk 17 3 (by omega) (by omega), yk 17 4 (by omega) (by omega)]; exact t4
  · exact (t6 j (by omega)).congr (fun a i ha => xk _ _ (by omega) (by omega)) (fun i i1 i2 => yk _ _ (by omega) (by omega))
  · have hj := t6 (gx 0 14 - 1).toNat (by omega)
    refine iB.fine (hj.congr (fun a i ha => rfl) (fun i i1 i2 => ?_)) (fun a i ha => xb a i ha)
    unfold fM
    rw [Int.zero_add, yb i i1 (by omega)]; congr 1; omega
  · rw [xk 16 d (by omega) (by omega), xk 17 d (by omega) (by omega)]; exact t8 d hd
  · exact i5.congr (fun i => yk _ _ (by omega) (by omega)) (fun i => yk _ _ (by omega) (by omega)) (yk _ _ (by omega) (by omega)) (yk _ _ (by omega) (by omega))
theorem o_pinsOfRow {X Y : z_X} {N K : Nat} {σ τ gx gm : z_G} (hx : z_lay X N σ 0 z_SF z_RF) (hm : z_lay Y K τ 0 z_SM z_RM) (I : Inv gx gm) : z_O X 2 m_F_pinsOfRow [(2, 0)] N σ gx (fun r gx' => z_O Y 3 m_M_pinsOfRow [(2, 0)] K τ gm (fun r' gm' => r' = r ∧ Inv gx' gm')) := by
  obtain ⟨p1, p2, p3, p4, p5⟩ := I.pI
  have hO := I.2.2.2.1.2.2.2.2.2.2.1.1
  have o1 : gx 23 0 = gm 1 1 := hO.1
  refine b_F_pinsOfRow_0 hx (b_Pi_manyOfOrder_0 (o := 25) (ky_F_25 hx) ?_)
  have loop : ∀ (m : Nat) (x2 x3 : Int), gm 1 4 ≤ x3 + m → 0 ≤ x3 → x3 ≤ gm 1 4 → 0 ≤ x2 → x2 ≤ x3 → (∀ Q : z_P, L_M_pinsOfRow_4 Y K τ x2 x3 gm Q → z_O Y 3 m_M_pinsOfRow [(2, 0)] K τ gm Q) → L_Pi_manyOfOrder_4 X N σ (gx 23 0) x2 x3 25 gx (fun r0 g0 => z_O Y 3 m_M_pinsOfRow [(2, 0)] K τ gm (fun r' gm' => r' = r0 ∧ Inv (z_up g0 0 0 0) gm')) := by
    intro m
    have fin : ∀ x2 x3 : Int, gm 1 4 ≤ x3 → (∀ Q : z_P, L_M_pinsOfRow_4 Y K τ x2 x3 gm Q → z_O Y 3 m_M_pinsOfRow [(2, 0)] K τ gm Q) → L_Pi_manyOfOrder_4 X N σ (gx 23 0) x2 x3 25 gx (fun r0 g0 => z_O Y 3 m_M_pinsOfRow [(2, 0)] K τ gm (fun r' gm' => r' = r0 ∧ Inv (z_up g0 0 0 0) gm')) := fun x2 x3 k1 H => b_Pi_manyOfOrder_4 (o := 25) (ky_F_25 hx) ⟨fun _ => H _ (b_M_pinsOfRow_4 hm ⟨fun _ => ⟨rfl, I.fin xA.rf yA.rf I.2.2.2.2 0⟩, fun p => absurd k1 p⟩), fun p => absurd (by omega) p⟩
    induction m with
    | zero => exact fun x2 x3 k1 k2 k3 k4 k5 H => fin x2 x3 (by omega) H
    | succ m ih =>
      intro x2 x3 k1 k2 k3 k4 k5 H
      by_cases c : gm 1 4 ≤ x3
      · exact fin x2 x3 c H
      · have e : gx (25 + 2) x3 = gm 1 (10 + 3 * x3 + 1) := (p4 x3 k2 (by omega)).2.1
        refine b_Pi_manyOfOrder_4 (o := 25) (ky_F_25 hx) ⟨fun p => absurd p (by omega), fun _ => ⟨by omega, fun p => ⟨by omega, ih _ _ (by omega) (by omega) (by omega) k4 (by omega) fun Q h => H Q (b_M_pinsOfRow_4 hm ⟨fun q => absurd q c, fun _ => ⟨by omega, by omega, by omega, by omega, fun q => ⟨by omega, by omega, ?_⟩, fun q => absurd (by omega) q⟩⟩)⟩, fun p => ⟨by omega, by omega, ih _ _ (by omega) (by omega) (by omega) (by omega) (by omega) fun Q h => H Q (b_M_pinsOfRow_4 hm ⟨fun q => absurd q c, fun _ => ⟨by omega, by omega, by omega, by omega, fun q => absurd q (by omega), fun q => ⟨by omega, by omega, h⟩⟩⟩)⟩⟩⟩
        rw [Int.add_zero]; exact h
  exact loop (gm 1 4).toNat 0 0 (by omega) (by omega) p2 (by omega) (by omega) fun Q h => b_M_pinsOfRow_0 hm h

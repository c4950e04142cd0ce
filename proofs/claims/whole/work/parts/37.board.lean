/-! ## Boards: their relation by parts, moves -/
theorem ky_F_23 {X : z_X} {N : Nat} {σ : z_G} (h : z_lay X N σ 0 z_SF z_RF) : z_lay X N σ 23 z_SBd z_RBd := by have h := h.sub (SL' := z_SBd) (RL' := z_RBd) 23 (by decide) rfl (by decide); rw [Nat.zero_add] at h; exact h
theorem ky_F_29 {X : z_X} {N : Nat} {σ : z_G} (h : z_lay X N σ 0 z_SF z_RF) : z_lay X N σ 29 z_SVi z_RVi := by have h := h.sub (SL' := z_SVi) (RL' := z_RVi) 29 (by decide) rfl (by decide); rw [Nat.zero_add] at h; exact h
theorem ky_Bd_6 {X : z_X} {N : Nat} {σ : z_G} {o : Nat} (h : z_lay X N σ o z_SBd z_RBd) : z_lay X N σ (o + 6) z_SVi z_RVi := by have h := h.sub (SL' := z_SVi) (RL' := z_RVi) 6 (by decide) rfl (by decide); exact h
theorem iO.c {fx fx' : Nat → Int → Int} {fm fm' : Int → Int} (hO : iO fx fm) (hx : ∀ i, fx' 0 i = fx 0 i) (hm : ∀ i, 0 ≤ i → i ≤ 1 → fm' i = fm i) : iO fx' fm' := by
  unfold iO at hO ⊢
  rw [hx 0, hx 1, hm 1 (by omega) (by omega), hm 0 (by omega) (by omega)]; exact hO
theorem iW.c {fx fx' : Nat → Int → Int} {fm fm' : Int → Int} (hW : iW fx fm) (hx : ∀ i, fx' 1 i = fx 1 i) (hm : ∀ i, 2 ≤ i → i ≤ 3 → fm' i = fm i) : iW fx' fm' := by
  unfold iW at hW ⊢
  rw [hx 0, hx 1, hx 2, hx 3, hx 4, hm 2 (by omega) (by omega), hm 3 (by omega) (by omega)]; exact hW
theorem iP.c {fx fx' : Nat → Int → Int} {fm fm' : Int → Int} (hP : iP fx fm) (hx : ∀ j i, 2 ≤ j → j ≤ 5 → fx' j i = fx j i) (hm : ∀ i, i = 4 ∨ (10 ≤ i ∧ i < 46) → fm' i = fm i) : iP fx' fm' := by
  unfold iP at hP ⊢
  rw [hx 2 3 (by omega) (by omega), hm 4 (by omega)]
  obtain ⟨p1, p2, p3, p4, p5⟩ := hP
  refine ⟨p1, p2, p3, fun k h1 h2 => ?_, fun j k h1 h2 h3 => ?_⟩
  · rw [hx 3 k (by omega) (by omega), hx 4 k (by omega) (by omega), hx 5 k (by omega) (by omega), hm _ (by omega), hm _ (by omega), hm _ (by omega)]
    exact p4 k h1 h2
  · rw [hm _ (by omega), hm _ (by omega), hm _ (by omega), hm _ (by omega)]
    exact p5 j k h1 h2 h3
theorem iG.c {fx fx' : Nat → Int → Int} {fm fm' : Int → Int} (hG : iG fx fm) (hx : ∀ j i, 8 ≤ j → j ≤ 13 → fx' j i = fx j i) (hm : ∀ i, i = 6 ∨ (246 ≤ i ∧ i < 606) → fm' i = fm i) : iG fx' fm' := by
  unfold iG at hG ⊢
  rw [hx 8 0 (by omega) (by omega), hx 8 2 (by omega) (by omega), hm 6 (by omega)]
  rcases hG with h | ⟨p1, p2, p3, p4, p5, p6⟩
  · exact Or.inl h
  · refine Or.inr ⟨p1, p2, p3, p4, fun n h1 h2 => ?_, fun n m h1 h2 h3 => by rw [hx 9 n (by omega) (by omega), hx 9 m (by omega) (by omega), hx 13 n (by omega) (by omega), hx 13 m (by omega) (by omega)]; exact p6 n m h1 h2 h3⟩
    have := p5 n h1 h2
    unfold iLn at this ⊢
    rw [hx 9 n (by omega) (by omega), hx 10 n (by omega) (by omega), hx 11 n (by omega) (by omega), hx 12 n (by omega) (by omega), hx 13 n (by omega) (by omega), hx 9 (fx 13 n) (by omega) (by omega), hx 13 (fx 13 n) (by omega) (by omega)]
    dsimp only at this ⊢
    rw [hm _ (by omega), hm _ (by omega), hm _ (by omega), hm _ (by omega), hm _ (by omega)]
    exact this
theorem iV.step {fx fx' : Nat → Int → Int} {fm fm' : Int → Int} {key : Int} (h : iV fx fm) (hx : eX (fx 7) (fx 6 1) (fx' 7) (fx' 6 1) key) (hm : eM (fun i => fm (46 + i)) (fm 5) (fun i => fm' (46 + i)) (fm' 5) key) : iV fx' fm' := by
  obtain ⟨p1, p2, p3, p4, p5, p6, p7⟩ := h
  rw [p1] at hx
  rcases hx with ⟨a1, a2, a3⟩ | ⟨a1, a2, a3, a4, a5, a6, a7⟩
  · rcases hm with ⟨b1, b2, b3⟩ | ⟨b1, b2, b3, b4, b5⟩
    · have b3 : ∀ i : Int, 0 ≤ i → i < 200 → fm' (46 + i) = fm (46 + i) := b3
      unfold iV
      rw [a2, b2]
      refine ⟨rfl, p2, p3, fun i j h1 h2 h3 => ?_, fun i h1 h2 => ?_, fun i h1 h2 => ?_, fun i j h1 h2 h3 => ?_⟩
      · rw [a3, a3]; exact p4 i j h1 h2 h3
      · obtain ⟨j, q1, q2, q3⟩ := p5 i h1 h2
        exact ⟨j, q1, q2, by rw [a3, b3 i h1 (by omega)]; exact q3⟩
      · obtain ⟨j, q1, q2, q3⟩ := p6 i h1 h2
        exact ⟨j, q1, q2, by rw [a3, b3 j q1 (by omega)]; exact q3⟩
      · rw [b3 i h1 (by omega), b3 j (by omega) (by omega)]; exact p7 i j h1 h2 h3
    · exfalso
      rcases a1 with a1 | ⟨j, j1, j2, j3⟩
      · omega
      · obtain ⟨i, q1, q2, q3⟩ := p6 j j1 j2
        exact b2 i q1 q2 (by show fm (46 + i) = key; omega)
  · rcases hm with ⟨b1, b2, b3⟩ | ⟨b1, b2, b3, b4, b5⟩
    · exfalso
      rcases b1 with b1 | ⟨j, j1, j2, j3⟩
      · omega
      · obtain ⟨i, q1, q2, q3⟩ := p5 j j1 j2
        have j3 : fm (46 + j) = key := j3
        exact a2 i q1 q2 (by omega)
    · unfold iV
      rw [a3, b3]
      have b4 : fm' (46 + fm 5) = key := b4
      have b5 : ∀ i : Int, 0 ≤ i → i < fm 5 → fm' (46 + i) = fm (46 + i) := b5
      have b2 : ∀ i : Int, 0 ≤ i → i < fm 5 → fm (46 + i) ≠ key := b2
      refine ⟨rfl, by omega, by omega, fun i j h1 h2 h3 => a4 i j h1 h2 h3, fun i h1 h2 => ?_, fun i h1 h2 => ?_, fun i j h1 h2 h3 => ?_⟩
      · by_cases c : i = fm 5
        · rw [c, b4]; exact a7
        · rw [b5 i h1 (by omega)]
          obtain ⟨j, q1, q2, q3⟩ := p5 i h1 (by omega)
          rw [← q3]; exact a6 j q1 q2
      · rcases a5 i h1 h2 with c | ⟨j, j1, j2, j3⟩
        · exact ⟨fm 5, p2, by omega, by rw [c, b4]⟩
        · obtain ⟨k, q1, q2, q3⟩ := p6 j j1 j2
          exact ⟨k, q1, by omega, by rw [b5 k q1 q2, q3, j3]⟩
      · rw [b5 i h1 (by omega)]
        by_cases c : j = fm 5
        · rw [c, b4]; exact b2 i h1 (by omega)
        · rw [b5 j (by omega) (by omega)]; exact p7 i j h1 h2 (by omega)
theorem iJ.board {gx gx' gm gm' : z_G} (h : iJ gx gm) (hx : ∀ c i, xK c i → ¬ (23 ≤ c ∧ c ≤ 36) → gx' c i = gx c i) (hm : ∀ c i, yK c i → ¬ (c = 1 ∧ 0 ≤ i ∧ i < 610) → gm' c i = gm c i) (hb : iB (fX gx' 23) (fM gm' 0)) : iJ gx' gm' := by
  obtain ⟨h1, h2, h3, h4, h5, h6, h7, h8⟩ := h
  refine ⟨fun t a b => ?_, ?_, ?_, ?_, ?_, fun j hj => ?_, hb, fun d hd => ?_⟩
  · obtain ⟨q1, q2, q3, q4, q5, q6, q7⟩ := h1 t a b
    rw [hx 7 t (by unfold xK; omega) (by omega), hx 8 t (by unfold xK; omega) (by omega), hm 2 t (by unfold yK; omega) (by omega), hm 3 t (by unfold yK; omega) (by omega)]
    refine ⟨q1, q2, q3, q4, q5, q6, fun i i1 i2 => ?_⟩
    rw [hx _ i (by unfold xK; omega) (by omega), hm 4 _ (by unfold yK; omega) (by omega)]; exact q7 i i1 i2
  · unfold iF at h2 ⊢
    rw [hx 10 1 (by unfold xK; omega) (by omega), hm 0 9 (by unfold yK; omega) (by omega)]
    refine ⟨h2.1, h2.2.1, h2.2.2.1, fun i i1 i2 => ?_⟩
    rw [hx 11 i (by unfold xK; omega) (by omega), hm 5 i (by unfold yK; omega) (by omega)]; exact h2.2.2.2 i i1 i2
  · rw [hx 0 5 (by unfold xK; omega) (by omega), hx 0 6 (by unfold xK; omega) (by omega), hm 0 15 (by unfold yK; omega) (by omega), hm 0 16 (by unfold yK; omega) (by omega)]; exact h3
  · unfold iL at h4 ⊢
    rw [hx 0 17 (by unfold xK; omega) (by omega), hx 94 1 (by unfold xK; omega) (by omega), hx 94 2 (by unfold xK; omega) (by omega), hx 94 3 (by unfold xK; omega) (by omega), hx 94 4 (by unfold xK; omega) (by omega), hx 94 5 (by unfold xK; omega) (by omega), hm 0 40 (by unfold yK; omega) (by omega), hm 17 0 (by unfold yK; omega) (by omega), hm 17 1 (by unfold yK; omega) (by omega), hm 17 2 (by unfold yK; omega) (by omega), hm 17 3 (by unfold yK; omega) (by omega), hm 17 4 (by unfold yK; omega) (by omega)]; exact h4
  · rw [hx 0 14 (by unfold xK; omega) (by omega), hm 0 41 (by unfold yK; omega) (by omega)]; exact h5
  · rw [hm 0 41 (by unfold yK; omega) (by omega)] at hj
    refine (h6 j hj).congr (fun a i ha => hx _ _ (by unfold xK; omega) (by omega)) (fun i i1 i2 => hm _ _ (by unfold yK; omega) (by omega))
  · rw [hx 16 d (by unfold xK; omega) (by omega), hx 17 d (by unfold xK; omega) (by omega)]; exact h8 d hd
theorem Inv.board {gx gm gx' gm' : z_G} (h : Inv gx gm) (hx : ∀ c i, xK c i → ¬ (23 ≤ c ∧ c ≤ 36) → gx' c i = gx c i) (hm : ∀ c i, yK c i → ¬ (c = 1 ∧ 0 ≤ i ∧ i < 610) → gm' c i = gm c i) (hc : mC gm') (hb : iB (fX gx' 23) (fM gm' 0)) (s : Int) : Inv (z_up gx' 0 0 s) (z_up gm' 0 1 s) := by
  obtain ⟨h1, h2, h3, h4, h5⟩ := h
  refine ⟨by rw [z_u1, z_u1], ?_, ?_, (h4.board hx hm hb).congr (xA.rf.up (by unfold xK; omega)) (yA.rf.up (by unfold yK; omega)), hc.up (by omega) (by omega) (by omega)⟩
  · rw [z_u2 (by omega), z_u2 (by omega), hx 0 1 (by unfold xK; omega) (by omega), hm 0 2 (by unfold yK; omega) (by omega)]; exact h2
  · rw [z_u2 (by omega), z_u2 (by omega), hx 0 2 (by unfold xK; omega) (by omega), hm 0 3 (by unfold yK; omega) (by omega)]; exact h3
theorem n_sp_lt {lt lb ht hb : Int} (h : n_sp lt lb ht hb) : 0 < lt + ht ∧ lt + ht < lb + hb := by
  obtain ⟨h1, h2, h3, h4, h5, h6⟩ := h
  refine ⟨by omega, ?_⟩
  by_cases c : lt = lb ∧ ht = hb
  · rw [c.1, c.2, Int.mul_comm hb lb] at h6; omega
  · omega
theorem n_D_le {t b : Int} (h0 : 0 < t) (h1 : t < b) (h2 : b ≤ 9999) : n_D t b ≤ 280000 := by
  have hl : (n_cf t.toNat b.toNat).length ≤ 28 := by
    rw [n_cf_len _ _ _ (Nat.le_refl _)]
    exact n_K_le 14 _ _ (by omega)
  have := n_take_le (L := n_cf t.toNat b.toNat) (m := 9999) (fun q hq => by rcases n_cf_le _ _ _ (Nat.le_refl _) q hq with h | h <;> omega) 28
  rw [List.take_of_length_le hl, n_cf_sum _ _ _ (Nat.le_refl _)] at this
  unfold n_D; omega
theorem o_here {X Y : z_X} {N K : Nat} {σ τ gx gm : z_G} (hx : z_lay X N σ 0 z_SF z_RF) (hm : z_lay Y K τ 0 z_SM z_RM) (I : Inv gx gm) : z_O X 3 m_F_here [(2, 0)] N σ gx (fun r gx' => z_O Y 3 m_M_here [(2, 0)] K τ gm (fun r' gm' => r' = r ∧ Inv gx' gm')) := by
  have hW := I.2.2.2.1.2.2.2.2.2.2.1.2.1
  have w0 : n_sp (gx 24 0) (gx 24 1) (gx 24 2) (gx 24 3) := hW.1
  have w1 : gx 24 0 + gx 24 2 = gm 1 2 := hW.2.1
  have w2 : gx 24 1 + gx 24 3 = gm 1 3 := hW.2.2.1
  have w3 : gm 1 3 ≤ 9999 := hW.2.2.2.1
  have w4 := n_sp_lt w0
  refine b_F_here_0 hx ⟨by omega, by omega, ?_⟩
  rw [w1, w2]
  refine s_F_tell hx (by omega) (by omega) (by omega) fun _ => b_M_here_0 hm (s_M_tellsBy hm (by omega) (by omega) fun _ => ⟨rfl, I.tell xA.rf yA.rf I.2.2.2.2 _ _⟩)

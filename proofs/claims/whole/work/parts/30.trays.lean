/-! TRAYS -/
theorem o_status {X Y : z_X} {N K : Nat} {σ τ gx gm : z_G} (hx : z_lay X N σ 0 z_SF z_RF) (hm : z_lay Y K τ 0 z_SM z_RM) (I : Inv gx gm) : z_O X 1 m_F_status [(2, 0)] N σ gx (fun r gx' => z_O Y 1 m_M_status [(2, 0)] K τ gm (fun r' gm' => r' = r ∧ Inv gx' gm')) := by
  refine b_F_status_0 hx (b_M_status_0 hm ⟨I.1.symm, I⟩)
theorem o_top {X Y : z_X} {N K : Nat} {σ τ gx gm : z_G} (hx : z_lay X N σ 0 z_SF z_RF) (hm : z_lay Y K τ 0 z_SM z_RM) (I : Inv gx gm) : z_O X 1 m_F_top [(2, 0)] N σ gx (fun r gx' => z_O Y 1 m_M_top [(2, 0)] K τ gm (fun r' gm' => r' = r ∧ Inv gx' gm')) := by
  refine b_F_top_0 hx (b_M_top_0 hm ⟨I.2.1.symm, I⟩)
theorem o_bottom {X Y : z_X} {N K : Nat} {σ τ gx gm : z_G} (hx : z_lay X N σ 0 z_SF z_RF) (hm : z_lay Y K τ 0 z_SM z_RM) (I : Inv gx gm) : z_O X 1 m_F_bottom [(2, 0)] N σ gx (fun r gx' => z_O Y 1 m_M_bottom [(2, 0)] K τ gm (fun r' gm' => r' = r ∧ Inv gx' gm')) := by
  refine b_F_bottom_0 hx (b_M_bottom_0 hm ⟨I.2.2.1.symm, I⟩)
theorem o_fault {X Y : z_X} {N K : Nat} {σ τ gx gm : z_G} (hx : z_lay X N σ 0 z_SF z_RF) (hm : z_lay Y K τ 0 z_SM z_RM) (I : Inv gx gm) {a1 : Int} (r1 : -2147483648 ≤ a1 ∧ a1 ≤ 2147483647) : z_O X 1 m_F_fault [(2, 0), (0, a1)] N σ gx (fun r gx' => z_O Y 1 m_M_fault [(2, 0), (0, a1)] K τ gm (fun r' gm' => r' = r ∧ Inv gx' gm')) := by
  refine b_F_fault_0 hx ?_
  have hf := I.2.2.2.1.2.2.1
  repeat' (first | refine And.intro (by omega) ?_ | refine And.intro (fun _ => ?_) (fun q => absurd (by omega) q) | refine And.intro (fun q => absurd q (by omega)) (fun _ => ?_) | refine And.intro (fun _ => ?_) (fun _ => ?_) | refine And.intro (fun q => absurd q (by omega)) ?_ | refine And.intro (fun _ => ?_) ?_ | with_reducible intro _)
  all_goals refine b_M_fault_0 hm ?_
  repeat' (first | refine And.intro (by omega) ?_ | refine And.intro (fun _ => ?_) (fun q => absurd (by omega) q) | refine And.intro (fun q => absurd q (by omega)) (fun _ => ?_) | refine And.intro (fun _ => ?_) (fun _ => ?_) | refine And.intro (fun q => absurd q (by omega)) ?_ | refine And.intro (fun _ => ?_) ?_ | with_reducible intro _)
  all_goals exact I
theorem s_Tr_hasRoom {X : z_X} {N : Nat} {σ g : z_G} {Q : z_P} (hx : z_lay X N σ 0 z_SF z_RF) {t p m : Int} (ht : 0 ≤ t ∧ t < 4) (hl : ¬ g 8 t = -1) (hp : 0 ≤ p ∧ p ≤ 2147483647) (hm : 0 ≤ m ∧ m ≤ 2147483647) (h1 : p + m ≤ g 8 t → Q 1 g) (h0 : ¬ p + m ≤ g 8 t → Q 0 g) : z_O X 3 m_Tr_hasRoom [(2, 1), (0, t), (0, p), (0, m)] N σ g Q := by
  refine b_Tr_hasRoom_0 hx ?_
  repeat' (first | refine And.intro (by omega) ?_ | refine And.intro (fun _ => ?_) (fun q => absurd (by omega) q) | refine And.intro (fun q => absurd q (by omega)) (fun _ => ?_) | refine And.intro (fun _ => ?_) (fun _ => ?_) | refine And.intro (fun q => absurd q (by omega)) ?_ | refine And.intro (fun _ => ?_) ?_ | with_reducible intro _)
  · exact h0 (by omega)
  · exact h1 (by omega)
theorem s_F_whyNoPlace {X : z_X} {N : Nat} {σ g : z_G} {Q : z_P} (hx : z_lay X N σ 0 z_SF z_RF) {t p : Int} (hp : -2147483648 ≤ p ∧ p ≤ 2147483647) (h1 : ¬ (0 ≤ t ∧ t < 4) → Q 1 g) (h2 : 0 ≤ t ∧ t < 4 → g 8 t = -1 → Q 2 g) (h3 : 0 ≤ t ∧ t < 4 → ¬ g 8 t = -1 → ¬ (0 ≤ p ∧ p < g 8 t) → Q 3 g) (h0 : 0 ≤ t ∧ t < 4 → ¬ g 8 t = -1 → 0 ≤ p ∧ p < g 8 t → Q 0 g) : z_O X 4 m_F_whyNoPlace [(2, 0), (0, t), (0, p)] N σ g Q := by
  refine b_F_whyNoPlace_0 hx ?_
  repeat' (first | refine And.intro (by omega) ?_ | refine And.intro (fun _ => ?_) (fun q => absurd (by omega) q) | refine And.intro (fun q => absurd q (by omega)) (fun _ => ?_) | refine And.intro (fun _ => ?_) (fun _ => ?_) | refine And.intro (fun q => absurd q (by omega)) ?_ | refine And.intro (fun _ => ?_) ?_ | with_reducible intro _)
  · exact h1 (by omega)
  · exact h1 (by omega)
  · exact h2 (by omega) (by omega)
  · exact h3 (by omega) (by omega) (by omega)
  · refine s_Tr_hasRoom hx (by omega) (by omega) (by omega) (by omega) (fun q => ?_) (fun q => ?_)
    · repeat' (first | refine And.intro (by omega) ?_ | refine And.intro (fun _ => ?_) (fun q => absurd (by omega) q) | refine And.intro (fun q => absurd q (by omega)) (fun _ => ?_) | refine And.intro (fun _ => ?_) (fun _ => ?_) | refine And.intro (fun q => absurd q (by omega)) ?_ | refine And.intro (fun _ => ?_) ?_ | with_reducible intro _)
      exact h0 (by omega) (by omega) (by omega)
    · repeat' (first | refine And.intro (by omega) ?_ | refine And.intro (fun _ => ?_) (fun q => absurd (by omega) q) | refine And.intro (fun q => absurd q (by omega)) (fun _ => ?_) | refine And.intro (fun _ => ?_) (fun _ => ?_) | refine And.intro (fun q => absurd q (by omega)) ?_ | refine And.intro (fun _ => ?_) ?_ | with_reducible intro _)
      exact h3 (by omega) (by omega) (by omega)
theorem k_rows {X : z_X} {N : Nat} {σ : z_G} (hx : z_lay X N σ 0 z_SF z_RF) {t : Int} (ht : 0 ≤ t ∧ t < 4) : σ 2 t = ((3 + t.toNat : Nat) : Int) ∧ z_sh X (3 + t.toNat) = (2, 60) ∧ 3 + t.toNat < N := by
  rcases (show t = 0 ∨ t = 1 ∨ t = 2 ∨ t = 3 by omega) with rfl | rfl | rfl | rfl
  · exact ⟨kr_F_2_0 hx, ks_F_3 hx, kl_F_3 hx⟩
  · exact ⟨kr_F_2_1 hx, ks_F_4 hx, kl_F_4 hx⟩
  · exact ⟨kr_F_2_2 hx, ks_F_5 hx, kl_F_5 hx⟩
  · exact ⟨kr_F_2_3 hx, ks_F_6 hx, kl_F_6 hx⟩
theorem o_read {X Y : z_X} {N K : Nat} {σ τ gx gm : z_G} (hx : z_lay X N σ 0 z_SF z_RF) (hm : z_lay Y K τ 0 z_SM z_RM) (I : Inv gx gm) {a1 a2 : Int} (r1 : -2147483648 ≤ a1 ∧ a1 ≤ 2147483647) (r2 : -2147483648 ≤ a2 ∧ a2 ≤ 2147483647) : z_O X 5 m_F_read [(2, 0), (0, a1), (0, a2)] N σ gx (fun r gx' => z_O Y 3 m_M_read [(2, 0), (0, a1), (0, a2)] K τ gm (fun r' gm' => r' = r ∧ Inv gx' gm')) := by
  have hT := I.2.2.2.1.1
  refine b_F_read_0 hx ?_
  refine s_F_whyNoPlace hx r2 (fun h => ?_) (fun h q => ?_) (fun h q q2 => ?_) (fun h q q2 => ?_)
  · repeat' (first | refine And.intro (by omega) ?_ | refine And.intro (fun _ => ?_) (fun q => absurd (by omega) q) | refine And.intro (fun q => absurd q (by omega)) (fun _ => ?_) | refine And.intro (fun _ => ?_) (fun _ => ?_) | refine And.intro (fun q => absurd q (by omega)) ?_ | refine And.intro (fun _ => ?_) ?_ | with_reducible intro _)
    refine b_M_read_0 hm ?_
    repeat' (first | refine And.intro (by omega) ?_ | refine And.intro (fun _ => ?_) (fun q => absurd (by omega) q) | refine And.intro (fun q => absurd q (by omega)) (fun _ => ?_) | refine And.intro (fun _ => ?_) (fun _ => ?_) | refine And.intro (fun q => absurd q (by omega)) ?_ | refine And.intro (fun _ => ?_) ?_ | with_reducible intro _)
    all_goals exact I.fin xA.rf yA.rf I.2.2.2.2 1
  · obtain ⟨e1, e2, e3, e4, e5, e6, e7⟩ := hT a1 h.1 h.2
    repeat' (first | refine And.intro (by omega) ?_ | refine And.intro (fun _ => ?_) (fun q => absurd (by omega) q) | refine And.intro (fun q => absurd q (by omega)) (fun _ => ?_) | refine And.intro (fun _ => ?_) (fun _ => ?_) | refine And.intro (fun q => absurd q (by omega)) ?_ | refine And.intro (fun _ => ?_) ?_ | with_reducible intro _)
    refine b_M_read_0 hm ?_
    repeat' (first | refine And.intro (by omega) ?_ | refine And.intro (fun _ => ?_) (fun q => absurd (by omega) q) | refine And.intro (fun q => absurd q (by omega)) (fun _ => ?_) | refine And.intro (fun _ => ?_) (fun _ => ?_) | refine And.intro (fun q => absurd q (by omega)) ?_ | refine And.intro (fun _ => ?_) ?_ | with_reducible intro _)
    exact I.fin xA.rf yA.rf I.2.2.2.2 2
  · obtain ⟨e1, e2, e3, e4, e5, e6, e7⟩ := hT a1 h.1 h.2
    repeat' (first | refine And.intro (by omega) ?_ | refine And.intro (fun _ => ?_) (fun q => absurd (by omega) q) | refine And.intro (fun q => absurd q (by omega)) (fun _ => ?_) | refine And.intro (fun _ => ?_) (fun _ => ?_) | refine And.intro (fun q => absurd q (by omega)) ?_ | refine And.intro (fun _ => ?_) ?_ | with_reducible intro _)
    refine b_M_read_0 hm ?_
    repeat' (first | refine And.intro (by omega) ?_ | refine And.intro (fun _ => ?_) (fun q => absurd (by omega) q) | refine And.intro (fun q => absurd q (by omega)) (fun _ => ?_) | refine And.intro (fun _ => ?_) (fun _ => ?_) | refine And.intro (fun q => absurd q (by omega)) ?_ | refine And.intro (fun _ => ?_) ?_ | with_reducible intro _)
    all_goals exact I.fin xA.rf yA.rf I.2.2.2.2 3
  · obtain ⟨e1, e2, e3, e4, e5, e6, e7⟩ := hT a1 h.1 h.2
    have e8 := e7 a2 (by omega) (by omega)
    repeat' (first | refine And.intro (by omega) ?_ | refine And.intro (fun _ => ?_) (fun q => absurd (by omega) q) | refine And.intro (fun q => absurd q (by omega)) (fun _ => ?_) | refine And.intro (fun _ => ?_) (fun _ => ?_) | refine And.intro (fun q => absurd q (by omega)) ?_ | refine And.intro (fun _ => ?_) ?_ | with_reducible intro _)
    refine b_Tr_look_0 hx ?_
    have z8 : z_up gx 0 0 0 8 a1 = gx 8 a1 := z_u2 (by omega)
    refine s_Tr_hasRoom hx h (by omega) (by omega) (by omega) (fun q3 => ?_) (fun q3 => absurd (by omega) q3)
    obtain ⟨k1, k2, k3⟩ := k_rows hx h
    refine fun _ => ⟨fun q => absurd q (by omega), fun _ => ⟨h, _, k1, k2, k3, by omega, ?_⟩⟩
    refine b_M_read_0 hm ?_
    have z9 : z_up gx 0 0 0 (3 + a1.toNat) a2 = gx (3 + a1.toNat) a2 := z_u2 (by omega)
    repeat' (first | refine And.intro (by omega) ?_ | refine And.intro (fun _ => ?_) (fun q => absurd (by omega) q) | refine And.intro (fun q => absurd q (by omega)) (fun _ => ?_) | refine And.intro (fun _ => ?_) (fun _ => ?_) | refine And.intro (fun q => absurd q (by omega)) ?_ | refine And.intro (fun _ => ?_) ?_ | with_reducible intro _)
    exact I.fin xA.rf yA.rf I.2.2.2.2 0
theorem s_Tr_lay {X : z_X} {N : Nat} {σ g : z_G} {Q : z_P} (hx : z_lay X N σ 0 z_SF z_RF) {t s m : Int} (ht : 0 ≤ t ∧ t < 4) (hq : ∀ g', g' 7 t = s → g' 8 t = m → (∀ i : Int, 0 ≤ i → i < 60 → g' (3 + t.toNat) i = 0) → (∀ c i, ¬ (c = 3 + t.toNat) → ¬ ((c = 7 ∨ c = 8) ∧ i = t) → g' c i = g c i) → Q 0 g') : z_O X 2 m_Tr_lay [(2, 1), (0, t), (0, s), (0, m)] N σ g Q := by
  refine b_Tr_lay_0 hx ?_
  repeat' (first | refine And.intro (by omega) ?_ | refine And.intro (fun _ => ?_) (fun q => absurd (by omega) q) | refine And.intro (fun q => absurd q (by omega)) (fun _ => ?_) | refine And.intro (fun _ => ?_) (fun _ => ?_) | refine And.intro (fun q => absurd q (by omega)) ?_ | refine And.intro (fun _ => ?_) ?_ | with_reducible intro _)
  obtain ⟨k1, k2, k3⟩ := k_rows hx ht
  have key : ∀ (n : Nat) (j : Int) (g' : z_G), (60 - j).toNat ≤ n → 0 ≤ j → j ≤ 60 → g' 7 t = s → g' 8 t = m → (∀ i : Int, 0 ≤ i → i < j → g' (3 + t.toNat) i = 0) → (∀ c i, ¬ (c = 3 + t.toNat) → ¬ ((c = 7 ∨ c = 8) ∧ i = t) → g' c i = g c i) → L_Tr_lay_26 X N σ t j g' Q := by
    intro n
    induction n with
    | zero =>
      intro j g' hn h0 h1 a1 a2 a3 a4
      refine b_Tr_lay_26 hx ⟨fun _ => hq g' a1 a2 (fun i i0 i1 => a3 i i0 (by omega)) a4, fun q => absurd (by omega) q⟩
    | succ n ih =>
      intro j g' hn h0 h1 a1 a2 a3 a4
      refine b_Tr_lay_26 hx ⟨fun _ => hq g' a1 a2 (fun i i0 i1 => a3 i i0 (by omega)) a4, fun q => ⟨ht, _, k1, k2, k3, by omega, by omega, ?_⟩⟩
      refine ih (j + 1) _ (by omega) (by omega) (by omega) (by rw [z_u2 (by omega)]; exact a1) (by rw [z_u2 (by omega)]; exact a2) (fun i i0 i1 => ?_) (fun c i c1 c2 => by rw [z_u2 (by omega)]; exact a4 c i c1 c2)
      by_cases e : i = j
      · rw [e, z_u1]
      · rw [z_u2 (by omega)]; exact a3 i i0 (by omega)
  refine key 60 0 _ (by omega) (by omega) (by omega) ?_ ?_ (fun i i0 i1 => absurd i1 (by omega)) (fun c i c1 c2 => ?_)
  · rw [z_u2 (by omega), z_u1]
  · rw [z_u1]
  · rw [z_u2 (by omega), z_u2 (by omega)]
theorem iT.one {gx gm gx' gm' : z_G} (h : iJ gx gm) (hT : iT gx' gm') (hx : ∀ c i, xK c i → ¬ (3 ≤ c ∧ c ≤ 8) → gx' c i = gx c i) (hm : ∀ c i, yK c i → ¬ (c = 2 ∨ c = 3 ∨ c = 4) → gm' c i = gm c i) : iJ gx' gm' := by
  have h2 : iJ (fun c i => if 3 ≤ c ∧ c ≤ 8 then gx c i else gx' c i) (fun c i => if c = 2 ∨ c = 3 ∨ c = 4 then gm c i else gm' c i) := h.congr (fun c i hk => by
      by_cases q : 3 ≤ c ∧ c ≤ 8
      · rw [if_pos q]
      · rw [if_neg q]; exact hx c i hk q) (fun c i hk => by
      by_cases q : c = 2 ∨ c = 3 ∨ c = 4
      · rw [if_pos q]
      · rw [if_neg q]; exact hm c i hk q)
  obtain ⟨-, h2, h3, h4, h5, h6, h7, h8⟩ := h2
  refine ⟨hT, h2, h3, h4, h5, fun j hj => (h6 j hj).congr (fun a i ha => ?_) (fun i _ _ => rfl), h7.congr (fun a i ha => ?_) (fun i _ _ => rfl), h8⟩
  · unfold fX; dsimp only; rw [if_neg (by omega)]
  · unfold fX; dsimp only; rw [if_neg (by omega)]
theorem o_tray {X Y : z_X} {N K : Nat} {σ τ gx gm : z_G} (hx : z_lay X N σ 0 z_SF z_RF) (hm : z_lay Y K τ 0 z_SM z_RM) (I : Inv gx gm) {a1 a2 a3 : Int} (r1 : -2147483648 ≤ a1 ∧ a1 ≤ 2147483647) (r2 : -2147483648 ≤ a2 ∧ a2 ≤ 2147483647) (r3 : -2147483648 ≤ a3 ∧ a3 ≤ 2147483647) : z_O X 3 m_F_tray [(2, 0), (0, a1), (0, a2), (0, a3)] N σ gx (fun r gx' => z_O Y 2 m_M_tray [(2, 0), (0, a1), (0, a2), (0, a3)] K τ gm (fun r' gm' => r' = r ∧ Inv gx' gm')) := by
  refine b_F_tray_0 hx ?_
  have bad : ¬ (0 ≤ a1 ∧ a1 < 4 ∧ 0 ≤ a2 ∧ a2 ≤ 3 ∧ 0 ≤ a3 ∧ a3 ≤ 60) → z_O Y 2 m_M_tray [(2, 0), (0, a1), (0, a2), (0, a3)] K τ gm (fun r' gm' => r' = 0 ∧ Inv (z_up gx 0 0 1) gm') := by
    intro hb
    refine b_M_tray_0 hm ?_
    repeat' (first | refine And.intro (by omega) ?_ | refine And.intro (fun _ => ?_) (fun q => absurd (by omega) q) | refine And.intro (fun q => absurd q (by omega)) (fun _ => ?_) | refine And.intro (fun _ => ?_) (fun _ => ?_) | refine And.intro (fun q => absurd q (by omega)) ?_ | refine And.intro (fun _ => ?_) ?_ | with_reducible intro _)
    all_goals first | exact I.fin xA.rf yA.rf I.2.2.2.2 1 | (exfalso; omega)
  refine ⟨fun _ => bad (by omega), fun _ => ⟨fun _ => bad (by omega), fun _ => ⟨fun _ => bad (by omega), fun _ => ⟨fun _ => bad (by omega), fun _ => ⟨fun _ => bad (by omega), fun _ => ⟨fun _ => ?_, fun _ => bad (by omega)⟩⟩⟩⟩⟩⟩
  refine s_Tr_lay hx (by omega) fun gx' x7 x8 x9 xo => ?_
  refine b_M_tray_0 hm ?_
  repeat' (first | refine And.intro (by omega) ?_ | refine And.intro (fun _ => ?_) (fun q => absurd (by omega) q) | refine And.intro (fun q => absurd q (by omega)) (fun _ => ?_) | refine And.intro (fun _ => ?_) (fun _ => ?_) | refine And.intro (fun q => absurd q (by omega)) ?_ | refine And.intro (fun _ => ?_) ?_ | with_reducible intro _)
  have key : ∀ (n : Nat) (j : Int) (gm' : z_G), (a3 - j).toNat ≤ n → 0 ≤ j → j ≤ a3 → gm' 2 a1 = a2 → gm' 3 a1 = a3 → (∀ i : Int, 0 ≤ i → i < j → gm' 4 (60 * a1 + i) = 0) → (∀ c i, ¬ (c = 4 ∧ 60 * a1 ≤ i ∧ i < 60 * a1 + 60) → ¬ ((c = 2 ∨ c = 3) ∧ i = a1) → gm' c i = gm c i) → L_M_tray_49 Y K τ a1 a3 j gm' (fun r' gm' => r' = 1 ∧ Inv (z_up gx' 0 0 0) gm') := by
    intro n
    have fin : ∀ gm' : z_G, gm' 2 a1 = a2 → gm' 3 a1 = a3 → (∀ i : Int, 0 ≤ i → i < a3 → gm' 4 (60 * a1 + i) = 0) → (∀ c i, ¬ (c = 4 ∧ 60 * a1 ≤ i ∧ i < 60 * a1 + 60) → ¬ ((c = 2 ∨ c = 3) ∧ i = a1) → gm' c i = gm c i) → Inv (z_up gx' 0 0 0) (z_up gm' 0 1 0) := by
      intro gm' b1 b2 b3 b4
      obtain ⟨h1, h2, h3, h4, h5⟩ := I
      refine ⟨by rw [z_u1, z_u1], ?_, ?_, iT.one h4 (fun t t0 t1 => ?_) (fun c i hk hn => ?_) (fun c i hk hn => ?_), ?_⟩
      · rw [z_u2 (by omega), z_u2 (by omega), xo _ _ (by omega) (by omega), b4 _ _ (by omega) (by omega)]; exact h2
      · rw [z_u2 (by omega), z_u2 (by omega), xo _ _ (by omega) (by omega), b4 _ _ (by omega) (by omega)]; exact h3
      · rw [z_u2 (by omega), z_u2 (by omega), z_u2 (by omega), z_u2 (by omega)]
        by_cases e : t = a1
        · subst e
          rw [x7, x8, b1, b2]
          refine ⟨rfl, by omega, by omega, rfl, by omega, by omega, fun i i0 i1 => ?_⟩
          rw [z_u2 (by omega), z_u2 (by omega), x9 i i0 (by omega), b3 i i0 i1]
        · rw [xo _ _ (by omega) (by omega), xo _ _ (by omega) (by omega), b4 _ _ (by omega) (by omega), b4 _ _ (by omega) (by omega)]
          obtain ⟨q1, q2, q3, q4, q5, q6, q7⟩ := h4.1 t t0 t1
          refine ⟨q1, q2, q3, q4, q5, q6, fun i i0 i1 => ?_⟩
          rw [z_u2 (by omega), z_u2 (by omega), xo _ _ (by omega) (by omega), b4 _ _ (by omega) (by omega)]
          exact q7 i i0 i1
      · unfold xK at hk
        rw [z_u2 (by omega)]; exact xo c i (by omega) (by omega)
      · unfold yK at hk
        rw [z_u2 (by omega)]; exact b4 c i (by omega) (by omega)
      · exact (h5.congr (fun i => b4 _ _ (by omega) (by omega)) (fun i => b4 _ _ (by omega) (by omega)) (b4 _ _ (by omega) (by omega)) (b4 _ _ (by omega) (by omega))).up (by omega) (by omega) (by omega)
    induction n with
    | zero =>
      intro j gm' hn j0 j1 b1 b2 b3 b4
      exact b_M_tray_49 hm ⟨fun _ => ⟨rfl, fin gm' b1 b2 (fun i i0 i1 => b3 i i0 (by omega)) b4⟩, fun q => absurd (by omega) q⟩
    | succ n ih =>
      intro j gm' hn j0 j1 b1 b2 b3 b4
      refine b_M_tray_49 hm ⟨fun _ => ⟨rfl, fin gm' b1 b2 (fun i i0 i1 => b3 i i0 (by omega)) b4⟩, fun q => ⟨by omega, by omega, by omega, by omega, ?_⟩⟩
      refine ih (j + 1) _ (by omega) (by omega) (by omega) (by rw [z_u2 (by omega)]; exact b1) (by rw [z_u2 (by omega)]; exact b2) (fun i i0 i1 => ?_) (fun c i c1 c2 => by rw [z_u2 (by omega)]; exact b4 c i c1 c2)
      by_cases e : i = j
      · rw [e, z_u1]
      · rw [z_u2 (by omega)]; exact b3 i i0 (by omega)
  refine key 60 0 _ (by omega) (by omega) (by omega) ?_ ?_ (fun i i0 i1 => absurd i1 (by omega)) (fun c i c1 c2 => ?_)
  · rw [z_u2 (by omega), z_u1]
  · rw [z_u1]
  · rw [z_u2 (by omega), z_u2 (by omega)]

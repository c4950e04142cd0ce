/-! ## mean -/
/-- the board is saved -/
def gSv (gm : z_G) : z_G := fun c i => if c = 1 ∧ 3050 ≤ i ∧ i < 3296 then gm 1 (i - 3050) else gm c i
theorem gSv_1 {gm : z_G} {i : Int} (h : 0 ≤ i ∧ i < 246) : gSv gm 1 (3050 + i) = gm 1 i := by
  unfold gSv; rw [if_pos ⟨rfl, by omega, by omega⟩]; congr 1; omega
theorem gSv_2 {gm : z_G} {c : Nat} {i : Int} (h : ¬ (c = 1 ∧ 3050 ≤ i ∧ i < 3296)) : gSv gm c i = gm c i := by
  unfold gSv; rw [if_neg h]
theorem s_save {Y : z_X} {K : Nat} {τ g : z_G} {Q : z_P} {x1 x2 : Int} (hm : z_lay Y K τ 0 z_SM z_RM) (hq : ∀ g', (∀ c i, g' c i = gSv g c i) → L_M_mean_95 Y K τ x1 x2 0 0 g' Q) : L_M_mean_61 Y K τ x1 x2 0 g Q := by
  have L : ∀ (n : Nat) (x : Int) (g1 : z_G), x + n = 246 → 0 ≤ x → (∀ i : Int, 0 ≤ i → i < x → g1 1 (3050 + i) = g 1 i) → (∀ c i, ¬ (c = 1 ∧ 3050 ≤ i ∧ i < 3050 + x) → g1 c i = g c i) → L_M_mean_61 Y K τ x1 x2 x g1 Q := by
    intro n
    induction n with
    | zero =>
      intro x g1 h1 h2 h3 h4
      refine b_M_mean_61 hm ⟨fun _ => hq g1 fun c i => ?_, fun z => by exfalso; omega⟩
      by_cases e : c = 1 ∧ 3050 ≤ i ∧ i < 3296
      · obtain ⟨rfl, e1, e2⟩ := e
        have := h3 (i - 3050) (by omega) (by omega)
        rw [show 3050 + (i - 3050) = i by omega] at this
        rw [this]; unfold gSv; rw [if_pos ⟨rfl, e1, e2⟩]
      · rw [gSv_2 e]; exact h4 c i (by omega)
    | succ n ih =>
      intro x g1 h1 h2 h3 h4
      refine b_M_mean_61 hm ⟨fun z => by exfalso; omega, fun _ => ⟨by omega, by omega, by omega, by omega, ih (x + 1) _ (by omega) (by omega) (fun i i0 i1 => ?_) (fun c i c1 => by rw [z_u2 (by omega)]; exact h4 c i (by omega))⟩⟩
      by_cases e : i = x
      · subst e; rw [z_u1]; exact h4 1 _ (by omega)
      · rw [z_u2 (by omega)]; exact h3 i i0 (by omega)
  exact L 246 0 g (by omega) (by omega) (fun i i0 i1 => by exfalso; omega) (fun _ _ _ => rfl)
theorem s_back {Y : z_X} {K : Nat} {τ g : z_G} {Q : z_P} {x1 x2 x3 x5 : Int} (hm : z_lay Y K τ 0 z_SM z_RM) (h5 : 0 ≤ x5 ∧ x5 ≤ 20) (hq : ∀ g', (∀ i : Int, 0 ≤ i → i < 246 → g' 1 i = g 1 (3050 + i)) → (∀ c i, ¬ (c = 1 ∧ 0 ≤ i ∧ i < 246) → g' c i = g c i) → L_M_mean_95 Y K τ x1 x2 x3 (x5 + 1) g' Q) : L_M_mean_120 Y K τ x1 x2 x3 x5 0 g Q := by
  have L : ∀ (n : Nat) (x : Int) (g1 : z_G), x + n = 246 → 0 ≤ x → (∀ i : Int, 0 ≤ i → i < x → g1 1 i = g 1 (3050 + i)) → (∀ c i, ¬ (c = 1 ∧ 0 ≤ i ∧ i < x) → g1 c i = g c i) → L_M_mean_120 Y K τ x1 x2 x3 x5 x g1 Q := by
    intro n
    induction n with
    | zero =>
      intro x g1 h1 h2 h3 h4
      exact b_M_mean_120 hm ⟨fun _ => ⟨by omega, hq g1 (fun i i0 i1 => h3 i i0 (by omega)) fun c i hc => h4 c i (by omega)⟩, fun z => by exfalso; omega⟩
    | succ n ih =>
      intro x g1 h1 h2 h3 h4
      refine b_M_mean_120 hm ⟨fun z => by exfalso; omega, fun _ => ⟨by omega, by omega, by omega, by omega, ih (x + 1) _ (by omega) (by omega) (fun i i0 i1 => ?_) (fun c i c1 => by rw [z_u2 (by omega)]; exact h4 c i (by omega))⟩⟩
      by_cases e : i = x
      · subst e; rw [z_u1]; exact h4 1 _ (by omega)
      · rw [z_u2 (by omega)]; exact h3 i i0 (by omega)
  exact L 246 0 g (by omega) (by omega) (fun i i0 i1 => by exfalso; omega) (fun _ _ _ => rfl)
def mJ (gm g : z_G) : Prop := ∀ c i, mP c i → c ≠ 15 → c ≠ 16 → ¬ (c = 0 ∧ (i = 35 ∨ i = 36)) → g c i = gSv gm c i
theorem t_mean {X Y : z_X} {N K : Nat} {σ τ gx gm : z_G} {a1 a2 : Int} {P : z_P} (hx : z_lay X N σ 0 z_SF z_RF) (hm : z_lay Y K τ 0 z_SM z_RM) (I : Inv gx gm) (h31 : gx 31 0 = 1) (r1 : 0 ≤ a1 ∧ a1 ≤ 9999) (r2 : 1 ≤ a2 ∧ a2 ≤ 20) (r3 : a1 + a2 - 1 ≤ 9999) {W : z_P → Prop} (hP : ∀ gx' x3, 0 ≤ x3 → x3 ≤ 280000 * a2 → xA gx gx' → (∀ Q : z_P, (∀ gm', mJ gm gm' → z_O Y 2 m_M_tellsBy [(2, 0), (1, x3), (1, a2)] K τ gm' (fun r0 g0 => (r0 = 0 ∨ r0 = 1) → Q r0 g0)) → W Q) → z_O X 2 m_F_tell [(2, 0), (1, x3), (1, a2)] N σ gx' (fun r0 g0 => (r0 = 0 ∨ r0 = 1) → P r0 g0)) :
    ∀ (m : Nat) (x3 x5 : Int) (gx1 : z_G), x5 + m = a2 → 0 ≤ x5 → 0 ≤ x3 → x3 ≤ 280000 * x5 → xA gx gx1 → (∀ Q : z_P, (∀ gm', mJ gm gm' → L_M_mean_95 Y K τ a1 a2 x3 x5 gm' Q) → W Q) → L_F_mean_64 X N σ a1 a2 x3 x5 gx1 P := by
  intro m
  induction m with
  | zero =>
    intro x3 x5 gx1 h1 h2 h3 h4 h5 h6
    refine b_F_mean_64 hx ⟨fun _ => hP gx1 x3 h3 (by omega) h5 fun Q hQ => h6 Q fun gm' hj => b_M_mean_95 hm ⟨fun _ => hQ gm' hj, fun z => by exfalso; omega⟩, fun z => by exfalso; omega⟩
  | succ m ih =>
    intro x3 x5 gx1 h1 h2 h3 h4 h5 h6
    have hb : iB (fX gx 23) (fM gm 0) := I.2.2.2.1.2.2.2.2.2.2.1
    refine b_F_mean_64 hx ⟨fun z => by exfalso; omega, fun _ => s_Bd_copyFrom (o := 37) (p := 23) (ky_F_37 hx) (ky_F_23 hx) (by omega) fun g1 b1 b2 => ⟨by omega, ?_⟩⟩
    have hb1 : iB (fX g1 37) (fM gm 0) := hb.fine fun j i hj => by
      show g1 (37 + j) i = gx (23 + j) i
      rw [b1 j i hj]
      exact h5 _ _ (by unfold bR at hj; unfold xK; omega)
    have tb : ∀ gm', mJ gm gm' → tB (gSv gm) g1 gm' 37 := fun gm' hj => ⟨hb1.congr (fun _ _ _ => rfl) (fun i i1 i2 => (hj 1 (0 + i) (by unfold mP mK; omega) (by omega) (by omega) (by omega)).trans (gSv_2 (by omega))), fun c i hk c1 c2 c3 => hj c i hk.1 c1 c2 c3⟩
    have e31 : g1 45 0 = 1 := by
      have := b1 8 0 (by unfold bR; omega)
      have z : gx1 31 0 = gx 31 0 := h5 31 0 (by unfold xK; omega)
      have this : g1 45 0 = gx1 31 0 := this
      rw [this, z]; exact h31
    refine s_tour (o := 96) (p := 37) (gm0 := gSv gm) (gw := gSv gm) (a := a1 + x5) (ky_F_96 hx) (ky_F_37 hx) hm (by omega) e31 (by omega) (tb _ fun _ _ _ _ _ _ => rfl) (W := fun Q => ∀ gm', mJ gm gm' → z_O Y 6 m_M_lives [(2, 0), (0, a1 + x5)] K τ gm' Q) (fun Q h gm' hj => h gm' (tb gm' hj)) fun gx' hex hM => ?_
    obtain ⟨ge, he⟩ := hex
    have wk : ∀ gm', tE g1 (gSv gm) gx' gm' 96 37 → gx' 38 4 = n_D (gm' 1 2) (gm' 1 3) ∧ 0 < gm' 1 2 ∧ gm' 1 2 < gm' 1 3 ∧ gm' 1 3 ≤ 9999 ∧ 0 ≤ n_D (gm' 1 2) (gm' 1 3) := fun gm' h => by
      obtain ⟨w0, w1, w2, w3, w4⟩ := h.1.bW
      have := n_sp_lt w0
      exact ⟨w4, by omega, by omega, w3, by have z := n_D_nonneg w0; rw [w1, w2] at z; exact z⟩
    obtain ⟨v1, v2, v3, v4, v6⟩ := wk ge he
    have v5 := n_D_le v2 v3 v4
    refine ⟨by omega, by omega, ih (x3 + gx' 38 4) (x5 + 1) gx' (by omega) (by omega) (by omega) (by omega) (fun c i hk => ?_) fun Q hQ => h6 Q fun gm' hj => b_M_mean_95 hm ⟨fun z => by exfalso; omega, fun _ => ⟨by omega, hM _ (fun gn hn => ?_) gm' hj⟩⟩⟩
    · have f := he.2.2.2.2.2.2.2.1 c i (by unfold xK at hk; omega) (by unfold xK at hk; omega) (by unfold xK at hk; omega)
      rw [f, b2 c i (by unfold xK at hk; omega)]
      exact h5 c i hk
    · obtain ⟨u1, u2, u3, u4, u5⟩ := wk gn hn
      refine s_M_depthOf hm u2 u3 u4 fun gk hs _ => ⟨by omega, ?_⟩
      rw [← u1]
      refine s_back hm (by omega) fun gl l1 l2 => hQ gl fun c i hk c1 c2 c3 => ?_
      have fr : ∀ c i, mP c i → ¬ (c = 1 ∧ 0 ≤ i ∧ i < 246) → c ≠ 15 → c ≠ 16 → ¬ (c = 0 ∧ (i = 35 ∨ i = 36)) → gk c i = gSv gm c i := fun c i d1 d2 d3 d4 d5 => by rw [hs c i d1]; exact hn.2.2.2.2.2.2.2.2 c i ⟨d1, d2⟩ d3 d4 d5
      by_cases e : c = 1 ∧ 0 ≤ i ∧ i < 246
      · obtain ⟨rfl, e1, e2⟩ := e
        rw [l1 i e1 e2, fr 1 (3050 + i) (by unfold mP mK; omega) (by omega) (by omega) (by omega) (by omega), gSv_1 ⟨e1, e2⟩, gSv_2 (by omega)]
      · rw [l2 c i e]; exact fr c i hk e c1 c2 c3
theorem o_mean {X Y : z_X} {N K : Nat} {σ τ gx gm : z_G} (hx : z_lay X N σ 0 z_SF z_RF) (hm : z_lay Y K τ 0 z_SM z_RM) (I : Inv gx gm) {a1 a2 : Int} (r1 : -2147483648 ≤ a1 ∧ a1 ≤ 2147483647) (r2 : -2147483648 ≤ a2 ∧ a2 ≤ 2147483647) : z_O X 8 m_F_mean [(2, 0), (0, a1), (0, a2)] N σ gx (fun r gx' => z_O Y 7 m_M_mean [(2, 0), (0, a1), (0, a2)] K τ gm (fun r' gm' => r' = r ∧ Inv gx' gm')) := by
  have F : ∀ s, (0 : Int) = 0 ∧ Inv (z_up gx 0 0 s) (z_up gm 0 1 s) := fun s => ⟨rfl, I.fin xA.rf yA.rf I.2.2.2.2 s⟩
  have hb : iB (fX gx 23) (fM gm 0) := I.2.2.2.1.2.2.2.2.2.2.1
  have hG : (gx 31 0 = 0 ∧ gm 1 6 = -1) ∨ (gx 31 0 = 1 ∧ 0 ≤ gm 1 6) := by
    rcases hb.2.2.2.2 with ⟨g1, g2⟩ | ⟨g1, -, g3, -⟩
    · exact Or.inl ⟨g1, g2⟩
    · exact Or.inr ⟨g1, g3⟩
  refine b_F_mean_0 hx ⟨fun c => b_M_mean_0 hm ⟨fun _ => F 1, fun z => absurd c z⟩, fun c => ⟨fun c2 => b_M_mean_0 hm ⟨fun z => absurd z c, fun _ => ⟨fun _ => F 1, fun z => absurd c2 z⟩⟩, fun c2 => ⟨fun c3 => b_M_mean_0 hm ⟨fun z => absurd z c, fun _ => ⟨fun z => absurd z c2, fun _ => ⟨fun _ => F 1, fun z => absurd c3 z⟩⟩⟩, fun c3 => ⟨fun c4 => b_M_mean_0 hm ⟨fun z => absurd z c, fun _ => ⟨fun z => absurd z c2, fun _ => ⟨fun z => absurd z c3, fun _ => ⟨fun _ => F 1, fun z => absurd c4 z⟩⟩⟩⟩, fun c4 => ⟨by omega, by omega, fun c5 => ⟨fun c6 => ?_, fun c6 => ?_⟩, fun c5 => ?_⟩⟩⟩⟩⟩
  · exact b_M_mean_0 hm ⟨fun z => absurd z c, fun _ => ⟨fun z => absurd z c2, fun _ => ⟨fun z => absurd z c3, fun _ => ⟨fun z => absurd z c4, fun _ => ⟨by omega, by omega, fun _ => ⟨fun _ => F 6, fun z => by exfalso; omega⟩, fun z => absurd c5 z⟩⟩⟩⟩⟩
  · refine t_mean hx hm I (by omega) (by omega) (by omega) c5 (W := fun Q => z_O Y 7 m_M_mean [(2, 0), (0, a1), (0, a2)] K τ gm Q) (fun gx' x3 q1 q2 hxa hM => s_F_tell hx q1 (by omega) (by omega) fun _ => hM _ fun gm' hj => s_M_tellsBy hm q1 (by omega) fun _ => ⟨rfl, I.tell hxa (fun c i hk => ?_) ?_ _ _⟩) a2.toNat 0 0 gx (by omega) (by omega) (by omega) (by omega) xA.rf (fun Q hQ => b_M_mean_0 hm ⟨fun z => absurd z c, fun _ => ⟨fun z => absurd z c2, fun _ => ⟨fun z => absurd z c3, fun _ => ⟨fun z => absurd z c4, fun _ => ⟨by omega, by omega, fun _ => ⟨fun z => by exfalso; omega, fun _ => s_save hm fun g' hg => hQ g' fun c i _ _ _ _ => hg c i⟩, fun z => absurd c5 z⟩⟩⟩⟩⟩)
    · rw [hj c i (by unfold yK at hk; unfold mP mK; omega) (by unfold yK at hk; omega) (by unfold yK at hk; omega) (by unfold yK at hk; omega)]
      exact gSv_2 (by unfold yK at hk; omega)
    · have f : ∀ c i, mP c i → c ≠ 1 → c ≠ 15 → c ≠ 16 → ¬ (c = 0 ∧ (i = 35 ∨ i = 36)) → gm' c i = gm c i := fun c i d1 d2 d3 d4 d5 => (hj c i d1 d3 d4 d5).trans (gSv_2 (by omega))
      exact I.2.2.2.2.congr (fun i => f 8 i (by unfold mP; omega) (by omega) (by omega) (by omega) (by omega)) (fun i => f 9 i (by unfold mP; omega) (by omega) (by omega) (by omega) (by omega)) (f 0 24 (by unfold mP; omega) (by omega) (by omega) (by omega) (by omega)) (f 0 25 (by unfold mP; omega) (by omega) (by omega) (by omega) (by omega))
  · exact b_M_mean_0 hm ⟨fun z => absurd z c, fun _ => ⟨fun z => absurd z c2, fun _ => ⟨fun z => absurd z c3, fun _ => ⟨fun z => absurd z c4, fun _ => ⟨by omega, by omega, fun z => absurd z c5, fun _ => F 1⟩⟩⟩⟩⟩

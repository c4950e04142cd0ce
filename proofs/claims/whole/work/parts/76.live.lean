/-! ## live -/
theorem ky_F_94 {X : z_X} {N : Nat} {σ : z_G} (h : z_lay X N σ 0 z_SF z_RF) : z_lay X N σ 94 z_SWk z_RWk := by have h := h.sub (SL' := z_SWk) (RL' := z_RWk) 94 (by decide) rfl (by decide); rw [Nat.zero_add] at h; exact h
theorem ky_F_96 {X : z_X} {N : Nat} {σ : z_G} (h : z_lay X N σ 0 z_SF z_RF) : z_lay X N σ 96 z_SWk z_RWk := by have h := h.sub (SL' := z_SWk) (RL' := z_RWk) 96 (by decide) rfl (by decide); rw [Nat.zero_add] at h; exact h
theorem ky_F_37 {X : z_X} {N : Nat} {σ : z_G} (h : z_lay X N σ 0 z_SF z_RF) : z_lay X N σ 37 z_SBd z_RBd := by have h := h.sub (SL' := z_SBd) (RL' := z_RBd) 37 (by decide) rfl (by decide); rw [Nat.zero_add] at h; exact h
section Tour
variable {X Y : z_X} {N K : Nat} {σ τ gx0 gm0 gx gm : z_G} {o p : Nat} {b bm : Int} {P : z_P}
theorem s_M_lives0 (hm : z_lay Y K τ 0 z_SM z_RM) {a : Int} {g : z_G} {Q : z_P} (hq : ∀ g', g' 0 35 = a → g' 0 36 = 0 → (∀ i : Int, 0 ≤ i → i < 5 → g' 16 i = 0) → (∀ c i, c ≠ 16 → ¬ (c = 0 ∧ (i = 35 ∨ i = 36)) → g' c i = g c i) → L_M_lives_32 Y K τ 0 g' Q) : z_O Y 6 m_M_lives [(2, 0), (0, a)] K τ g Q := by
  have L : ∀ (n : Nat) (x : Int) (g1 : z_G), x + n = 5 → 0 ≤ x → g1 0 35 = a → g1 0 36 = 0 → (∀ i : Int, 0 ≤ i → i < x → g1 16 i = 0) → (∀ c i, c ≠ 16 → ¬ (c = 0 ∧ (i = 35 ∨ i = 36)) → g1 c i = g c i) → L_M_lives_12 Y K τ x g1 Q := by
    intro n
    induction n with
    | zero => intro x g1 h1 h2 h3 h4 h5 h6; exact b_M_lives_12 hm ⟨fun _ => hq g1 h3 h4 (fun i i0 i1 => h5 i i0 (by omega)) h6, fun z => by exfalso; omega⟩
    | succ n ih =>
      intro x g1 h1 h2 h3 h4 h5 h6
      refine b_M_lives_12 hm ⟨fun z => by exfalso; omega, fun _ => ⟨by omega, by omega, ih (x + 1) _ (by omega) (by omega) (by rw [z_u2 (by omega)]; exact h3) (by rw [z_u2 (by omega)]; exact h4) (fun i i0 i1 => ?_) (fun c i c1 c2 => by rw [z_u2 (by omega)]; exact h6 c i c1 c2)⟩⟩
      by_cases e : i = x
      · subst e; exact z_u1
      · rw [z_u2 (by omega)]; exact h5 i i0 (by omega)
  exact b_M_lives_0 hm (L 5 0 _ (by omega) (by omega) (by rw [z_u2 (by omega), z_u1]) z_u1 (fun i i0 i1 => by exfalso; omega) (fun c i c1 c2 => by rw [z_u2 (by omega), z_u2 (by omega)]))
/-- the reference's states beside the board, before TOURS are walked -/
def tB (gm0 gx gm : z_G) (p : Nat) : Prop := iB (fX gx p) (fM gm 0) ∧ ∀ c i, tN c i → c ≠ 15 → c ≠ 16 → ¬ (c = 0 ∧ (i = 35 ∨ i = 36)) → gm c i = gm0 c i
theorem s_tour (ho : z_lay X N σ o z_SWk z_RWk) (hp : z_lay X N σ p z_SBd z_RBd) (hm : z_lay Y K τ 0 z_SM z_RM) (hop : p + 13 < o) (hgv : gx (p + 8) 0 = 1) {a : Int} (ha : 0 ≤ a ∧ a ≤ 9999) {gw : z_G} (hw : tB gm0 gx gw p) {W : z_P → Prop} (hW : ∀ Q : z_P, (∀ gm, tB gm0 gx gm p → z_O Y 6 m_M_lives [(2, 0), (0, a)] K τ gm Q) → W Q) (hP : ∀ gx', (∃ gm', tE gx gm0 gx' gm' o p) → (∀ Q : z_P, (∀ gm', tE gx gm0 gx' gm' o p → Q 0 gm') → W Q) → P 0 gx') : z_O X 7 m_Wk_tour [(2, ((o : Nat) : Int)), (2, ((p : Nat) : Int)), (0, a)] N σ gx P := by
  refine b_Wk_tour_0 ho hp ?_
  have f : ∀ c i, c ≠ o → z_up (z_up (z_up (z_up (z_up (z_up (z_up gx o 0 0) o 1 0) o 2 0) o 3 0) o 4 0) o 5 0) o 6 a c i = gx c i := fun c i hc => by rw [z_u2 (by omega), z_u2 (by omega), z_u2 (by omega), z_u2 (by omega), z_u2 (by omega), z_u2 (by omega), z_u2 (by omega)]
  have f0 : z_up (z_up (z_up (z_up (z_up (z_up (z_up gx o 0 0) o 1 0) o 2 0) o 3 0) o 4 0) o 5 0) o 6 a o 0 = 0 := by rw [z_u2 (by omega), z_u2 (by omega), z_u2 (by omega), z_u2 (by omega), z_u2 (by omega), z_u2 (by omega), z_u1]
  have f1 : z_up (z_up (z_up (z_up (z_up (z_up (z_up gx o 0 0) o 1 0) o 2 0) o 3 0) o 4 0) o 5 0) o 6 a o 1 = 0 := by rw [z_u2 (by omega), z_u2 (by omega), z_u2 (by omega), z_u2 (by omega), z_u2 (by omega), z_u1]
  have f2 : z_up (z_up (z_up (z_up (z_up (z_up (z_up gx o 0 0) o 1 0) o 2 0) o 3 0) o 4 0) o 5 0) o 6 a o 2 = 0 := by rw [z_u2 (by omega), z_u2 (by omega), z_u2 (by omega), z_u2 (by omega), z_u1]
  have f3 : z_up (z_up (z_up (z_up (z_up (z_up (z_up gx o 0 0) o 1 0) o 2 0) o 3 0) o 4 0) o 5 0) o 6 a o 3 = 0 := by rw [z_u2 (by omega), z_u2 (by omega), z_u2 (by omega), z_u1]
  have f4 : z_up (z_up (z_up (z_up (z_up (z_up (z_up gx o 0 0) o 1 0) o 2 0) o 3 0) o 4 0) o 5 0) o 6 a o 4 = 0 := by rw [z_u2 (by omega), z_u2 (by omega), z_u1]
  have f5 : z_up (z_up (z_up (z_up (z_up (z_up (z_up gx o 0 0) o 1 0) o 2 0) o 3 0) o 4 0) o 5 0) o 6 a o 5 = 0 := by rw [z_u2 (by omega), z_u1]
  have f6 : z_up (z_up (z_up (z_up (z_up (z_up (z_up gx o 0 0) o 1 0) o 2 0) o 3 0) o 4 0) o 5 0) o 6 a o 6 = a := z_u1
  generalize z_up (z_up (z_up (z_up (z_up (z_up (z_up gx o 0 0) o 1 0) o 2 0) o 3 0) o 4 0) o 5 0) o 6 a = gx1 at *
  have start : ∀ gm gm1 : z_G, tB gm0 gx gm p → gm1 0 35 = a → gm1 0 36 = 0 → (∀ i : Int, 0 ≤ i → i < 5 → gm1 16 i = 0) → (∀ c i, c ≠ 16 → ¬ (c = 0 ∧ (i = 35 ∨ i = 36)) → gm1 c i = gm c i) → tS gx gm0 gx1 gm1 o p 0 := by
    intro gm gm1 h h35 h36 h16 hf
    have a0 := h16 0 (by omega) (by omega)
    have a1 := h16 1 (by omega) (by omega)
    have a2 := h16 2 (by omega) (by omega)
    have a3 := h16 3 (by omega) (by omega)
    have a4 := h16 4 (by omega) (by omega)
    refine ⟨⟨h.1.congr (fun j i hj => f _ _ (by omega)) (fun i i1 i2 => hf _ _ (by omega) (by omega)), ?_, ?_, ?_, ?_, ?_, ?_, ?_, fun c i c1 c2 c3 => f c i c1, fun c i hk c1 c2 c3 => by rw [hf c i c2 c3]; exact h.2 c i hk c1 c2 c3⟩, fun q q0 q1 => by exfalso; omega⟩
    · rw [f0, h36]; omega
    · rw [f1, a0, f0]; omega
    · rw [f2, a1, f0]; omega
    · rw [f3, a2, f0]; omega
    · rw [f4, a3, f0]; omega
    · rw [f5, a4]; omega
    · rw [f6, h35]; omega
  have hs : tS gx gm0 gx1 (fun c i => if c = 16 then 0 else z_up (z_up gw 0 35 a) 0 36 0 c i) o p 0 := by
    refine start gw _ hw ?_ ?_ (fun i _ _ => if_pos rfl) (fun c i c1 c2 => ?_)
    · show z_up (z_up gw 0 35 a) 0 36 0 0 35 = a
      rw [z_u2 (by omega), z_u1]
    · show z_up (z_up gw 0 35 a) 0 36 0 0 36 = 0
      exact z_u1
    · rw [if_neg c1, z_u2 (by omega), z_u2 (by omega)]
  obtain ⟨e, s1, s2, s3, s4, s5⟩ := t_stat hop hgv hs.1
  have no : 0 < gx (p + 8) 2 → gx (p + 9) 0 = 11 → False := fun z1 z2 => by
    obtain ⟨-, -, q1, q2, -⟩ := (t_line hop hgv hs.1 (Int.le_refl 0) z1).1 z2
    omega
  exact t_loop ho hp hm hop hgv hP 100000 0 0 0 gx1 _ (by omega) (by omega) (Or.inl rfl) (by omega) (by omega) s2 hs (fun z => by exfalso; omega) (fun z1 z2 => (no z1 z2).elim) (fun z1 z2 => (no z1 z2).elim) (fun _ Q hQ => hW Q fun gm hb => s_M_lives0 hm fun g' q1 q2 q3 q4 => hQ g' (start gm g' hb q1 q2 q3 q4))
end Tour
theorem iJ.live {gx gx' gm gm' : z_G} (h : iJ gx gm) (hx : ∀ c i, xK c i → ¬ (23 ≤ c ∧ c ≤ 36) → ¬ (c = 0 ∧ i = 17) → c ≠ 94 → gx' c i = gx c i) (hm : ∀ c i, yK c i → ¬ (c = 1 ∧ 0 ≤ i ∧ i < 610) → ¬ (c = 0 ∧ i = 40) → c ≠ 17 → gm' c i = gm c i) (hb : iB (fX gx' 23) (fM gm' 0)) (hl : iL gx' gm') : iJ gx' gm' := by
  obtain ⟨h1, h2, h3, h4, h5, h6, h7, h8⟩ := h
  refine ⟨fun t a b => ?_, ?_, ?_, hl, ?_, fun j hj => ?_, hb, fun d hd => ?_⟩
  · obtain ⟨q1, q2, q3, q4, q5, q6, q7⟩ := h1 t a b
    rw [hx 7 t (by unfold xK; omega) (by omega) (by omega) (by omega), hx 8 t (by unfold xK; omega) (by omega) (by omega) (by omega), hm 2 t (by unfold yK; omega) (by omega) (by omega) (by omega), hm 3 t (by unfold yK; omega) (by omega) (by omega) (by omega)]
    refine ⟨q1, q2, q3, q4, q5, q6, fun i i1 i2 => ?_⟩
    rw [hx _ i (by unfold xK; omega) (by omega) (by omega) (by omega), hm 4 _ (by unfold yK; omega) (by omega) (by omega) (by omega)]; exact q7 i i1 i2
  · unfold iF at h2 ⊢
    rw [hx 10 1 (by unfold xK; omega) (by omega) (by omega) (by omega), hm 0 9 (by unfold yK; omega) (by omega) (by omega) (by omega)]
    refine ⟨h2.1, h2.2.1, h2.2.2.1, fun i i1 i2 => ?_⟩
    rw [hx 11 i (by unfold xK; omega) (by omega) (by omega) (by omega), hm 5 i (by unfold yK; omega) (by omega) (by omega) (by omega)]; exact h2.2.2.2 i i1 i2
  · rw [hx 0 5 (by unfold xK; omega) (by omega) (by omega) (by omega), hx 0 6 (by unfold xK; omega) (by omega) (by omega) (by omega), hm 0 15 (by unfold yK; omega) (by omega) (by omega) (by omega), hm 0 16 (by unfold yK; omega) (by omega) (by omega) (by omega)]; exact h3
  · rw [hx 0 14 (by unfold xK; omega) (by omega) (by omega) (by omega), hm 0 41 (by unfold yK; omega) (by omega) (by omega) (by omega)]; exact h5
  · rw [hm 0 41 (by unfold yK; omega) (by omega) (by omega) (by omega)] at hj
    refine (h6 j hj).congr (fun a i ha => hx _ _ (by unfold xK; omega) (by omega) (by omega) (by omega)) (fun i i1 i2 => hm _ _ (by unfold yK; omega) (by omega) (by omega) (by omega))
  · rw [hx 16 d (by unfold xK; omega) (by omega) (by omega) (by omega), hx 17 d (by unfold xK; omega) (by omega) (by omega) (by omega)]; exact h8 d hd
theorem s_told5 {Y : z_X} {K : Nat} {τ g : z_G} {Q : z_P} (hm : z_lay Y K τ 0 z_SM z_RM) (hq : ∀ g', (∀ i : Int, 0 ≤ i → i < 5 → g' 17 i = g 16 i) → (∀ c i, c ≠ 17 → g' c i = g c i) → Q (g' 0 36) (z_up (z_up g' 0 40 1) 0 1 0)) : L_M_live_43 Y K τ 0 g Q := by
  have L : ∀ (n : Nat) (x : Int) (g1 : z_G), x + n = 5 → 0 ≤ x → (∀ i : Int, 0 ≤ i → i < x → g1 17 i = g 16 i) → (∀ c i, c ≠ 17 → g1 c i = g c i) → L_M_live_43 Y K τ x g1 Q := by
    intro n
    induction n with
    | zero => intro x g1 h1 h2 h3 h4; exact b_M_live_43 hm ⟨fun _ => hq g1 (fun i i0 i1 => h3 i i0 (by omega)) h4, fun z => by exfalso; omega⟩
    | succ n ih =>
      intro x g1 h1 h2 h3 h4
      refine b_M_live_43 hm ⟨fun z => by exfalso; omega, fun _ => ⟨by omega, by omega, ih (x + 1) _ (by omega) (by omega) (fun i i0 i1 => ?_) (fun c i c1 => by rw [z_u2 (by omega)]; exact h4 c i c1)⟩⟩
      by_cases e : i = x
      · subst e; rw [z_u1]; exact h4 16 _ (by omega)
      · rw [z_u2 (by omega)]; exact h3 i i0 (by omega)
  exact L 5 0 g (by omega) (by omega) (fun i i0 i1 => by exfalso; omega) (fun _ _ _ => rfl)
theorem o_live {X Y : z_X} {N K : Nat} {σ τ gx gm : z_G} (hx : z_lay X N σ 0 z_SF z_RF) (hm : z_lay Y K τ 0 z_SM z_RM) (I : Inv gx gm) {a1 : Int} (r1 : -2147483648 ≤ a1 ∧ a1 ≤ 2147483647) : z_O X 8 m_F_live [(2, 0), (0, a1)] N σ gx (fun r gx' => z_O Y 7 m_M_live [(2, 0), (0, a1)] K τ gm (fun r' gm' => r' = r ∧ Inv gx' gm')) := by
  have F : ∀ s, (-1 : Int) = -1 ∧ Inv (z_up gx 0 0 s) (z_up gm 0 1 s) := fun s => ⟨rfl, I.fin xA.rf yA.rf I.2.2.2.2 s⟩
  have hb : iB (fX gx 23) (fM gm 0) := I.2.2.2.1.2.2.2.2.2.2.1
  have hG : (gx 31 0 = 0 ∧ gm 1 6 = -1) ∨ (gx 31 0 = 1 ∧ 0 ≤ gm 1 6) := by
    rcases hb.2.2.2.2 with ⟨g1, g2⟩ | ⟨g1, -, g3, -⟩
    · exact Or.inl ⟨g1, g2⟩
    · exact Or.inr ⟨g1, g3⟩
  refine b_F_live_0 hx ⟨fun c => b_M_live_0 hm ⟨fun _ => F 1, fun z => absurd c z⟩, fun c => ⟨fun c2 => ⟨fun c3 => ?_, fun c3 => ?_⟩, fun c2 => b_M_live_0 hm ⟨fun z => absurd z c, fun _ => ⟨fun _ => F 1, fun z => absurd (by omega) z⟩⟩⟩⟩
  · exact b_M_live_0 hm ⟨fun z => absurd z c, fun _ => ⟨fun z => by exfalso; omega, fun _ => ⟨fun _ => F 6, fun z => by exfalso; omega⟩⟩⟩
  · refine s_tour (o := 94) (p := 23) (gm0 := gm) (gw := gm) (a := a1) (ky_F_94 hx) (ky_F_23 hx) hm (by omega) (show gx 31 0 = 1 by omega) (by omega) ⟨hb, fun _ _ _ _ _ _ => rfl⟩ (W := fun Q => z_O Y 6 m_M_lives [(2, 0), (0, a1)] K τ gm Q) (fun Q h => h gm ⟨hb, fun _ _ _ _ _ _ => rfl⟩) fun gx' _ hM => ?_
    refine b_M_live_0 hm ⟨fun z => absurd z c, fun _ => ⟨fun z => by exfalso; omega, fun _ => ⟨fun z => by exfalso; omega, fun _ => hM _ fun gm' he => s_told5 hm fun g' t1 t2 => ?_⟩⟩⟩
    obtain ⟨e1, e2, e3, e4, e5, e6, e7, e8, e9⟩ := he
    refine ⟨by rw [t2 _ _ (by omega)]; exact e2.1.symm, ?_⟩
    obtain ⟨i1, i2, i3, i4, i5⟩ := I
    have xo : ∀ c i, xK c i → ¬ (23 ≤ c ∧ c ≤ 36) → c ≠ 94 → gx' c i = gx c i := fun c i h1 h2 h3 => e8 c i h3 (by unfold xK at h1; omega) (by omega)
    have yo : ∀ c i, mP c i → ¬ (c = 1 ∧ 0 ≤ i ∧ i < 246) → c ≠ 15 → c ≠ 16 → c ≠ 17 → ¬ (c = 0 ∧ (i = 35 ∨ i = 36)) → g' c i = gm c i := fun c i h1 h2 h3 h4 h5 h6 => by rw [t2 c i h5]; exact e9 c i ⟨h1, h2⟩ h3 h4 h6
    refine ⟨by rw [z_u1, z_u1], ?_, ?_, ?_, ?_⟩
    · rw [z_u2 (by omega), z_u2 (by omega), z_u2 (by omega), z_u2 (by omega), xo 0 1 (by unfold xK; omega) (by omega) (by omega), yo 0 2 (by unfold mP mK; omega) (by omega) (by omega) (by omega) (by omega) (by omega)]; exact i2
    · rw [z_u2 (by omega), z_u2 (by omega), z_u2 (by omega), z_u2 (by omega), xo 0 2 (by unfold xK; omega) (by omega) (by omega), yo 0 3 (by unfold mP mK; omega) (by omega) (by omega) (by omega) (by omega) (by omega)]; exact i3
    · refine i4.live (fun c i h1 h2 h3 h4 => by rw [z_u2 (by unfold xK at h1; omega), z_u2 (by omega)]; exact xo c i h1 h2 h4) (fun c i h1 h2 h3 h4 => ?_) ?_ (Or.inr ?_)
      · rw [z_u2 (by unfold yK at h1; omega), z_u2 (by omega)]
        exact yo c i (by unfold yK at h1; unfold mP mK; omega) (by omega) (by unfold yK at h1; omega) (by unfold yK at h1; omega) h4 (by unfold yK at h1; omega)
      · exact e1.congr (fun j i hj => by show z_up _ _ _ _ (23 + j) i = _; rw [z_u2 (by omega), z_u2 (by omega)]; rfl) (fun i j1 j2 => by show z_up _ _ _ _ 1 (0 + i) = _; rw [z_u2 (by omega), z_u2 (by omega)]; exact t2 _ _ (by omega))
      · have t : ∀ i : Int, 0 ≤ i → i < 5 → z_up (z_up g' 0 40 1) 0 1 0 17 i = gm' 16 i := fun i q1 q2 => by rw [z_u2 (by omega), z_u2 (by omega)]; exact t1 i q1 q2
        have u : ∀ i : Int, z_up (z_up gx' 0 17 1) 0 0 0 94 i = gx' 94 i := fun i => by rw [z_u2 (by omega), z_u2 (by omega)]
        rw [t 0 (by omega) (by omega), t 1 (by omega) (by omega), t 2 (by omega) (by omega), t 3 (by omega) (by omega), t 4 (by omega) (by omega), u, u, u, u, u]
        exact ⟨by rw [z_u2 (by omega), z_u1], by rw [z_u2 (by omega), z_u1], e3, e4, e5, e6, e7.1, e7.2⟩
    · exact i5.congr (fun i => by rw [z_u2 (by omega), z_u2 (by omega)]; exact yo 8 i (by unfold mP; omega) (by omega) (by omega) (by omega) (by omega) (by omega)) (fun i => by rw [z_u2 (by omega), z_u2 (by omega)]; exact yo 9 i (by unfold mP; omega) (by omega) (by omega) (by omega) (by omega) (by omega)) (by rw [z_u2 (by omega), z_u2 (by omega)]; exact yo 0 24 (by unfold mP; omega) (by omega) (by omega) (by omega) (by omega) (by omega)) (by rw [z_u2 (by omega), z_u2 (by omega)]; exact yo 0 25 (by unfold mP; omega) (by omega) (by omega) (by omega) (by omega) (by omega))

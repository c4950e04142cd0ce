/-! ## TOURS as a text: end is read -/
section Lock
variable {X Y : z_X} {N K : Nat} {σ τ gx gm : z_G} {P Q : z_P}
theorem t_tend (hx : z_lay X N σ 0 z_SF z_RF) (hm : z_lay Y K τ 0 z_SM z_RM) (hSY : z_St Y K τ) (hA : kA gx) (hG : cG gx) (hd : 1 ≤ gx 9 6) (hw : gx 10 4 = 1 ∧ kMt (gx 11) (gx 10 6) (gx 10 3) 14) (hP : sW Y K τ gx P) : z_O X 4 m_Pa_readEnd [(2, 9), (2, ((45 : Nat) : Int))] N σ gx P := by
  obtain ⟨a1, a2, a3, a4, a5, a6, a7, a8⟩ := id hA
  have a7 := a7 (by omega)
  obtain ⟨g1, g2, g3, g4, g5⟩ := id hG
  have hb := g5 (gx 9 6 - 1) (by omega) (by omega)
  refine b_Pa_readEnd_0 (p1 := 45) hx (ky_F_45 hx) (s_adv hx (by omega) fun gx1 f1 hA1 l1 hN1 => t_sign hx hm hA1 fun r gx2 hr f2 q2 hM2 => fun _ => ?_)
  have a13 := hA1.2.1
  -- the reference up to the ';'
  have run : ∀ gm, gR gx gm → ∀ Q : z_P, (∀ gm2, kOK gx1 gm2 → gm2 1 2446 = gx 45 2 + 1 → gm2 0 20 = gx 9 6 - 1 → gm2 1 (2686 + 6 * gx 45 2) = 14 → gm2 1 (2686 + 6 * gx 45 2 + 4) = gx 14 (gx 9 6 - 1) → gm2 1 (2686 + 6 * gx 14 (gx 9 6 - 1) + 4) = gx 45 2 → (∀ c i, ¬ (c = 1 ∧ (i = 2446 ∨ (2686 + 6 * gx 45 2 ≤ i ∧ i ≤ 2686 + 6 * gx 45 2 + 5) ∨ i = 2686 + 6 * gx 14 (gx 9 6 - 1) + 4)) → ¬ (c = 0 ∧ (11 ≤ i ∧ i ≤ 14 ∨ i = 20)) → gm2 c i = gm c i) → z_O Y 3 m_M_wantSign [(2, 0), (0, 59)] K τ gm2 (fun r3 g3 => (r3 = 0 ∨ r3 = 1) → Q r3 g3)) → z_O Y 12 m_M_tourStep [(2, 0)] K τ gm Q := by
    intro gm hg Q hq
    obtain ⟨ok, e46, e21, e20, e7, -⟩ := hg
    have eb := e7 (gx 9 6 - 1) (by omega) (by omega)
    refine m_te hm hSY hA ok.1 (by omega) (by omega) hw (fun z => by exfalso; omega) fun _ => ?_
    rw [← e46]
    refine m_row hm (w := 14) (o := 0) rfl (by omega) (g := z_up (z_up gm 0 21 (gm 0 21 + 0)) 1 (2686 + 6 * gx 45 2) 14) (by rw [z_u2 (by omega), z_u2 (by omega)]; exact e46.symm) fun g' z1 z2 z3 => ?_
    have go : ∀ c i, ¬ (c = 1 ∧ (i = 2446 ∨ (2686 + 6 * gx 45 2 ≤ i ∧ i ≤ 2686 + 6 * gx 45 2 + 5))) → g' c i = gm c i := fun c i hc => by
      rw [z3 c i (by omega), z_u2 (by omega)]
      by_cases e : c = 0 ∧ i = 21
      · rw [e.1, e.2, z_u1]; omega
      · rw [z_u2 (by omega)]
    refine nx_N (gx := gx1) hm (hN1 g' (by rw [go _ _ (by omega)]; exact ok.1.1) (fun i i1 i2 => by rw [go _ _ (by omega)] at i2; rw [go _ _ (by omega)]; exact ok.1.2.1 i i1 i2) (by rw [go _ _ (by omega)]; exact ok.1.2.2.2.1)) fun gm1 b1 b2 => ?_
    have m20 : gm1 0 20 = gx 9 6 := by rw [b1 _ _ (by omega), go _ _ (by omega)]; exact e20.symm
    have m7 : gm1 7 (gx 9 6 - 1) = gx 14 (gx 9 6 - 1) := by rw [b1 _ _ (by omega), go _ _ (by omega)]; exact eb.symm
    refine b_M_tourOrder_0 hm ⟨fun z => by exfalso; omega, fun z => by exfalso; omega, fun z => by exfalso; omega, fun z => by exfalso; omega, fun _ => fun _ => ⟨fun z => by exfalso; omega, fun _ => ⟨fun _ => ⟨fun _ => ?_, fun z => absurd rfl z⟩, fun z => absurd rfl z⟩⟩⟩
    rw [m20, m7]
    refine ⟨by omega, by omega, hq _ ?_ ?_ ?_ ?_ ?_ z_u1 (fun c i c1 c2 => ?_)⟩
    · refine kOK.c (gx := gx1) (gm := gm1) ⟨b2, ?_, ?_, ?_, ?_⟩ (fun _ _ _ => rfl) (fun _ => rfl) (fun i _ _ _ => ?_) (fun i => ?_)
      · rw [f1 _ _ (by omega)]; exact ok.2.1
      · rw [f1 _ _ (by omega)]; exact ok.2.2.1
      · rw [b1 _ _ (by omega), go _ _ (by omega)]; exact ok.2.2.2.1
      · rw [b1 _ _ (by omega), go _ _ (by omega)]; exact ok.2.2.2.2
      · rw [z_u2 (by omega), z_u2 (by omega), z_u2 (by omega)]
      · rw [z_u2 (by omega), z_u2 (by omega), z_u2 (by omega)]
    · rw [z_u2 (by omega), z_u2 (by omega), z_u2 (by omega), b1 _ _ (by omega)]; exact z2
    · rw [z_u2 (by omega), z_u2 (by omega), z_u1]
    · rw [z_u2 (by omega), z_u2 (by omega), z_u2 (by omega), b1 _ _ (by omega), z3 _ _ (by omega)]; exact z_u1
    · rw [z_u2 (by omega)]; exact z_u1
    · rw [z_u2 (by omega), z_u2 (by omega), z_u2 (by omega), b1 c i (by omega)]; exact go c i (by omega)
  refine ⟨fun r0 => ?_, fun r0 => ?_⟩
  · subst r0
    refine hP 0 gx2 (Or.inl rfl) (fun c i c1 c2 c3 c4 c5 c6 => by rw [f2 c i c2, f1 c i (by omega)]) (fun z => by exfalso; omega) fun gm hg Q hq => run gm hg Q fun gm2 ok n1 n2 n3 n4 n5 nf => hM2 gm2 ok _ fun gm3 j1 j2 => fun _ => hq gm3 (fun c i c1 c2 c3 => by rw [j1 c i (by omega)]; exact nf c i (by omega) (by omega)) (Or.inr ⟨rfl, ?_⟩)
    rcases j2 with y | y
    · exfalso; omega
    · exact y.2
  · have r1 : r = 1 := by omega
    subst r1
    obtain ⟨hA2, l2, -, -⟩ := q2 rfl
    have x : ∀ c i, ¬ (c = 10 ∧ 3 ≤ i ∧ i ≤ 10) → gx2 c i = gx c i := fun c i hc => by rw [f2 c i hc, f1 c i (by omega)]
    have e6 : gx2 9 6 = gx 9 6 := x _ _ (by omega)
    refine ⟨fun z => by exfalso; omega, fun _ => ⟨fun z => by exfalso; omega, fun _ => ⟨by omega, by omega, ?_⟩⟩⟩
    rw [e6, x 14 (gx 9 6 - 1) (by omega)]
    have u : ∀ c i, ¬ (c = 9 ∧ i = 6) → ¬ (c = 10 ∧ 3 ≤ i ∧ i ≤ 10) → z_up gx2 9 6 (gx 9 6 - 1) c i = gx c i := fun c i h1 h2 => by rw [z_u2 (by omega)]; exact x c i h2
    have u6 : z_up gx2 9 6 (gx 9 6 - 1) 9 6 = gx 9 6 - 1 := z_u1
    have u10 : ∀ c i, c ≠ 9 → z_up gx2 9 6 (gx 9 6 - 1) c i = gx2 c i := fun c i h1 => z_u2 (by omega)
    generalize z_up gx2 9 6 (gx 9 6 - 1) = gx3 at *
    have e2 : gx3 45 2 = gx 45 2 := u _ _ (by omega) (by omega)
    refine s_addEnd hx (by omega) (by omega) fun gx4 y1 y2 y3 y4 yf => ?_
    rw [e2] at y1 y2 y3 y4 yf
    have v : ∀ c i, ¬ (c = 9 ∧ i = 6) → ¬ (c = 10 ∧ 3 ≤ i ∧ i ≤ 10) → ¬ (c = 46 ∧ i = gx 45 2) → ¬ (c = 50 ∧ (i = gx 45 2 ∨ i = gx 14 (gx 9 6 - 1))) → ¬ (c = 45 ∧ i = 2) → gx4 c i = gx c i := fun c i h1 h2 h3 h4 h5 => by rw [yf c i h3 h4 h5]; exact u c i h1 h2
    have v6 : gx4 9 6 = gx 9 6 - 1 := by rw [yf _ _ (by omega) (by omega) (by omega)]; exact u6
    have v10 : ∀ i, gx4 10 i = gx2 10 i := fun i => by rw [yf _ _ (by omega) (by omega) (by omega)]; exact u10 _ _ (by omega)
    have v11 : ∀ i, gx4 11 i = gx2 11 i := fun i => by rw [yf _ _ (by omega) (by omega) (by omega)]; exact u10 _ _ (by omega)
    have v45 : gx4 45 1 = gx 45 1 := v _ _ (by omega) (by omega) (by omega) (by omega) (by omega)
    have v14 : ∀ i, gx4 14 i = gx 14 i := fun i => v _ _ (by omega) (by omega) (by omega) (by omega) (by omega)
    refine hP 1 gx4 (Or.inr rfl) (fun c i c1 c2 c3 c4 c5 c6 => v c i (by omega) c2 (by omega) (by omega) (by omega)) (fun _ => ⟨hA2.c fun i _ _ => v10 i, ⟨by omega, by omega, by omega, by omega, fun j j0 j1 => ?_⟩, by rw [v10]; omega⟩) fun gm hg Q hq => run gm hg Q fun gm2 ok n1 n2 n3 n4 n5 nf => hM2 gm2 ok _ fun gm3 j1 j2 => fun _ => hq gm3 (fun c i c1 c2 c3 => by rw [j1 c i (by omega)]; exact nf c i (by omega) (by omega)) (Or.inl ⟨rfl, ?_⟩)
    · rw [v14, y1]
      have := g5 j j0 (by omega)
      omega
    have ok3 : kOK gx2 gm3 := by
      rcases j2 with y | y
      · exact y.2
      · exfalso; omega
    obtain ⟨-, e46, e21, e20, e7, gp⟩ := hg
    refine ⟨ok3.c (fun i _ _ => v10 i) v11 (fun _ _ _ _ => rfl) (fun _ => rfl), ?_, ?_, ?_, fun j j0 jd => ?_, ?_⟩
    · rw [y1, j1 _ _ (by omega), n1]
    · rw [v45, j1 _ _ (by omega), nf _ _ (by omega) (by omega)]; exact e21
    · rw [v6, j1 _ _ (by omega), n2]
    · rw [v14, j1 _ _ (by omega), nf _ _ (by omega) (by omega)]; exact e7 j j0 (by omega)
    · rw [y1, v6, show gx4 14 = gx 14 from funext v14]
      refine gp.cls hd rfl (fun j i k1 k2 i0 i1 hc => ?_) (fun i i0 i1 i2 => ?_) y2 y3 y4 ?_ ?_ ?_
      · exact v (37 + j) i (by omega) (by omega) (by omega) (by omega) (by omega)
      · show gm3 1 (2440 + i) = gm 1 (2440 + i)
        rw [j1 _ _ (by omega)]; exact nf _ _ (by omega) (by omega)
      · show gm3 1 (2440 + (246 + 6 * gx 45 2)) = 14
        rw [j1 _ _ (by omega), show (2440 : Int) + (246 + 6 * gx 45 2) = 2686 + 6 * gx 45 2 by omega]; exact n3
      · show gm3 1 (2440 + (246 + 6 * gx 45 2 + 4)) = gx 14 (gx 9 6 - 1)
        rw [j1 _ _ (by omega), show (2440 : Int) + (246 + 6 * gx 45 2 + 4) = 2686 + 6 * gx 45 2 + 4 by omega]; exact n4
      · show gm3 1 (2440 + (246 + 6 * gx 14 (gx 9 6 - 1) + 4)) = gx 45 2
        rw [j1 _ _ (by omega), show (2440 : Int) + (246 + 6 * gx 14 (gx 9 6 - 1) + 4) = 2686 + 6 * gx 14 (gx 9 6 - 1) + 4 by omega]; exact n5
end Lock

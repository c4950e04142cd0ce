/-! ## a STUDY: one part -/
section Lock
variable {X Y : z_X} {N K : Nat} {σ τ gx gm : z_G} {P Q : z_P}
def sP (Y : z_X) (K : Nat) (τ gx : z_G) (P : z_P) : Prop := ∀ r gx', (r = 0 ∨ r = 1) → fQ gx gx' → (r = 1 → kA gx' ∧ cB gx' ∧ cT gx' ∧ gx 10 6 < gx' 10 6) → (∀ gm, sR gx gm → ∀ Q : z_P, (∀ gm', fS gm gm' → ((r = 1 ∧ sR gx' gm') ∨ (r = 0 ∧ sE gx' gm')) → Q r gm') → z_O Y 11 m_M_studyPart [(2, 0)] K τ gm Q) → P r gx'
theorem t_semi (hx : z_lay X N σ 0 z_SF z_RF) (hm : z_lay Y K τ 0 z_SM z_RM) {gx2 : z_G} (hA2 : kA gx2) (hB2 : cB gx2) (hT2 : cT gx2) (hf : fQ gx gx2) (hl : gx 10 6 < gx2 10 6) (hR : ∀ gm, sR gx gm → ∀ Q : z_P, (∀ gm2, fS gm gm2 → sR gx2 gm2 → z_O Y 3 m_M_wantSign [(2, 0), (0, 59)] K τ gm2 (fun r9 g9 => (r9 = 0 ∨ r9 = 1) → ((r9 = 0 → Q 0 g9) ∧ (¬ r9 = 0 → Q 1 g9)))) → z_O Y 11 m_M_studyPart [(2, 0)] K τ gm Q) (hP : sP Y K τ gx P) : z_O X 3 m_Ta_passSign [(2, 10), (0, 59)] N σ gx2 (fun r11 g11 => (r11 = 0 ∨ r11 = 1) → ((r11 = 0 → P 0 g11) ∧ (¬ r11 = 0 → P 1 g11))) := by
  refine t_sign hx hm hA2 fun r gx3 hr f3 g3 hM3 => fun _ => ⟨fun r0 => ?_, fun r0 => ?_⟩
  · subst r0
    refine hP 0 gx3 (Or.inl rfl) (hf.tr f3.q) (fun z => by exfalso; omega) fun gm hs Q hq => hR gm hs Q fun gm2 q1 q2 => hM3 gm2 q2.1 _ fun gm3 j1 j2 => fun _ => ⟨fun _ => ?_, fun z => absurd rfl z⟩
    refine hq gm3 (q1.tr j1.s) (Or.inr ⟨rfl, ?_⟩)
    rcases j2 with y | y
    · exfalso; omega
    · have e := q2.2.1.e
      refine ⟨y.2, ?_, ?_⟩
      · rw [j1 1 2442 (by omega)]; exact e.1
      · rw [j1 1 2443 (by omega)]; exact e.2
  · have r1 : r = 1 := by omega
    subst r1
    obtain ⟨c1, c2, c3, c4⟩ := g3 rfl
    have a2 := hA2.2.1
    refine hP 1 gx3 (Or.inr rfl) (hf.tr f3.q) (fun _ => ⟨c1, hB2.c (fun c i _ _ => f3 c i (by omega)), ?_, by omega⟩) fun gm hs Q hq => hR gm hs Q fun gm2 q1 q2 => hM3 gm2 q2.1 _ fun gm3 j1 j2 => fun _ => ⟨fun z => by exfalso; omega, fun _ => ?_⟩
    · unfold cT at hT2 ⊢
      rw [f3 9 2 (by omega), f3 9 3 (by omega), f3 9 4 (by omega)]; exact hT2
    · refine hq gm3 (q1.tr j1.s) (Or.inl ⟨rfl, ?_⟩)
      rcases j2 with y | y
      · refine ⟨y.2, q2.2.1.c (fun c i _ _ => f3 c i (by omega)) (fun i _ _ => j1 1 i (by omega)), ?_⟩
        rw [j1 0 18 (by omega), f3 9 2 (by omega), f3 9 3 (by omega), f3 9 4 (by omega)]
        exact q2.2.2
      · exfalso; omega
/-- a fault in the midst -/
theorem sE_here {gx' gm' : z_G} (hs : sR gx gm) (hb : kBad gx' gm') (h2 : gm' 1 2442 = gm 1 2442) (h3 : gm' 1 2443 = gm 1 2443) : sE gx' gm' := by
  have e := hs.2.1.e
  exact ⟨hb, by rw [h2]; exact e.1, by rw [h3]; exact e.2⟩
/-- told twice -/
theorem kBad_at {gx' gm' : z_G} {a : Int} (hs : kOK gx gm) (h1 : gm' 0 17 = a) (h2 : gm' 0 16 = gm 0 12) (x1 : gx' 10 9 = a) (x2 : gx' 10 10 = gx 10 6) (ha : 1 ≤ a ∧ a ≤ 7) : kBad gx' gm' := by
  have := hs.1.2.2.1
  exact ⟨by omega, by omega, by omega, by omega⟩
theorem t_odds (hx : z_lay X N σ 0 z_SF z_RF) (hm : z_lay Y K τ 0 z_SM z_RM) (hSY : z_St Y K τ) (hA : kA gx) (hB : cB gx) (hT : cT gx) (hw : gx 10 4 = 1 ∧ kMt (gx 11) (gx 10 6) (gx 10 3) 0) (hP : sP Y K τ gx P) : z_O X 4 m_Pa_readOdds [(2, 9), (2, ((37 : Nat) : Int))] N σ gx (fun r g => (r = 0 ∨ r = 1) → ((r = 0 → P 0 g) ∧ (¬ r = 0 → z_O X 3 m_Ta_passSign [(2, 10), (0, 59)] N σ g (fun r11 g11 => (r11 = 0 ∨ r11 = 1) → ((r11 = 0 → P 0 g11) ∧ (¬ r11 = 0 → P 1 g11)))))) := by
  obtain ⟨a1, a2, a3, a4, a5, a6, a7, a8⟩ := id hA
  have a7 := a7 (by omega)
  refine b_Pa_readOdds_0 (p1 := 37) hx (ky_F_37 hx) ⟨fun fl => ?_, fun fl => fun _ => ⟨fun _ => ?_, fun z => absurd rfl z⟩⟩
  rotate_left
  · refine hP 0 _ (Or.inl rfl) ((fC.rf.up (by omega)).up (by omega)).q (fun z => by exfalso; omega) fun gm hs Q hq => m_told0 hm hSY hA hT hs hw (fun _ gm' j1 j2 j3 => hq gm' j1.s (Or.inr ⟨rfl, sE_here hs (kBad_at hs.1 j2 j3 (by rw [z_u2 (by omega), z_u1]) z_u1 (by omega)) (j1 1 2442 (by omega)) (j1 1 2443 (by omega))⟩)) (fun z => absurd z fl)
  refine s_adv hx (by rw [z_u2 (by omega), z_u2 (by omega)]; omega) fun gx1 f1 hA1 l1 hN1 => t_num hx hm hA1 (t := 2440) (l := 0) (u := 16) (by omega) fun r gx2 hr f2 g2 hM2 => fun _ => ?_
  rw [z_u2 (by omega)] at l1
  have run : ∀ gm, sR gx gm → ∀ Q : z_P, (∀ gm1, kOK gx1 gm1 → (∀ c i, ¬ (c = 0 ∧ 11 ≤ i ∧ i ≤ 14) → ¬ (c = 0 ∧ i = 18) → gm1 c i = gm c i) → gm1 0 18 = gm 0 18 + 1 → z_O Y 3 m_M_number [(2, 0), (0, 2440), (0, 0), (0, 16)] K τ gm1 (fun r8 g8 => (r8 = 0 ∨ r8 = 1) → (((r8 = 0) → Q 0 g8) ∧ (¬ (r8 = 0) → (z_O Y 3 m_M_wantSign [(2, 0), (0, 59)] K τ g8 (fun r9 g9 => (r9 = 0 ∨ r9 = 1) → (((r9 = 0) → Q 0 g9) ∧ (¬ (r9 = 0) → Q 1 g9)))))))) → z_O Y 11 m_M_studyPart [(2, 0)] K τ gm Q := fun gm hs Q q => m_told0 hm hSY hA hT hs hw (fun z => by exfalso; omega) fun _ => by
    refine nx_N (gx := gx1) hm (hN1 _ (by rw [z_u2 (by omega), z_u2 (by omega)]; exact hs.1.1.1) (fun i i1 i2 => by rw [z_u2 (by omega)] at i2; rw [z_u2 (by omega), z_u2 (by omega)]; exact hs.1.1.2.1 i i1 i2) (by rw [z_u2 (by omega), z_u2 (by omega)]; exact hs.1.1.2.2.2.1)) fun gm1 b1 b2 => q gm1 ⟨b2, ?_, ?_, ?_, ?_⟩ (fun c i c1 c2 => by rw [b1 c i c1, z_u2 (by omega)]) (by rw [b1 _ _ (by omega), z_u1])
    · rw [f1 _ _ (by omega), z_u2 (by omega)]; exact hs.1.2.1
    · rw [f1 _ _ (by omega), z_u2 (by omega)]; exact hs.1.2.2.1
    · rw [b1 _ _ (by omega), z_u2 (by omega)]; exact hs.1.2.2.2.1
    · rw [b1 _ _ (by omega), z_u2 (by omega)]; exact hs.1.2.2.2.2
  have fq : fQ gx gx2 := fun c i c1 c2 c3 c4 c5 => by rw [f2 c i c2, f1 c i (by omega), z_u2 (by omega)]
  refine ⟨fun r0 => fun _ => ⟨fun _ => ?_, fun z => absurd rfl z⟩, fun r0 => fun _ => ⟨fun z => by exfalso; omega, fun _ => ?_⟩⟩
  · subst r0
    refine hP 0 gx2 (Or.inl rfl) fq (fun z => by exfalso; omega) fun gm hs Q hq => run gm hs Q fun gm1 ok fr e18 => hM2 gm1 ok _ fun gm2 h1 h2 h3 => fun _ => ⟨fun _ => hq gm2 (fun c i c1 c2 => by rw [h1 c i (by omega) (by omega)]; exact fr c i (by omega) (by omega)) (Or.inr ⟨rfl, sE_here hs ?_ ?_ ?_⟩), fun z => absurd rfl z⟩
    · rcases h3 with y | y
      · exfalso; omega
      · exact y.2
    · rw [h1 1 2442 (by omega) (by omega)]; exact fr 1 2442 (by omega) (by omega)
    · rw [h1 1 2443 (by omega) (by omega)]; exact fr 1 2443 (by omega) (by omega)
  · have r1 : r = 1 := by omega
    subst r1
    obtain ⟨hA2, l2, -, -, -, b1, b2, -⟩ := g2 rfl
    have a13 := hA1.2.1
    refine t_semi hx hm (hA2.c fun i _ _ => z_u2 (by omega)) ?_ ?_ ?_ ?_ (fun gm hs Q q => run gm hs Q fun gm1 ok fr e18 => hM2 gm1 ok _ fun gm2 h1 h2 h3 => fun _ => ⟨fun z => by exfalso; omega, fun _ => q gm2 (fun c i c1 c2 => by rw [h1 c i (by omega) (by omega)]; exact fr c i (by omega) (by omega)) ⟨?_, ?_, ?_⟩⟩) hP
    · exact hB.c fun c i _ _ => by rw [z_u2 (by omega), f2 _ _ (by omega), f1 _ _ (by omega), z_u2 (by omega)]
    · unfold cT at hT ⊢
      rw [z_u2 (by omega), z_u2 (by omega), z_u2 (by omega), f2 _ _ (by omega), f1 _ _ (by omega), f2 _ _ (by omega), f1 _ _ (by omega), f2 _ _ (by omega), f1 _ _ (by omega)]
      rw [z_u1, z_u2 (by omega), z_u2 (by omega)]
      omega
    · exact fun c i c1 c2 c3 c4 c5 => by rw [z_u2 (by omega)]; exact fq c i c1 c2 c3 c4 c5
    · rw [z_u2 (by omega)]; omega
    · rcases h3 with y | y
      · exact y.2.c (fun i _ _ => z_u2 (by omega)) (fun i => z_u2 (by omega)) (fun _ _ _ _ => rfl) (fun _ => rfl)
      · exfalso; omega
    · have oo : iO (fX gx 37) (fM gm 2440) := hs.2.1.1
      have xo : ∀ c i, 38 ≤ c → c ≤ 42 → z_up gx2 37 1 (gx2 10 7) c i = gx c i := fun c i c1 c2 => by rw [z_u2 (by omega), f2 _ _ (by omega), f1 _ _ (by omega), z_u2 (by omega)]
      have mo : ∀ i, 2442 ≤ i → gm2 1 i = gm 1 i := fun i i1 => by rw [h1 1 i (by omega) (by omega)]; exact fr 1 i (by omega) (by omega)
      have o1 : z_up gx2 37 1 (gx2 10 7) 37 0 = gm2 1 2441 := by rw [z_u2 (by omega), f2 _ _ (by omega), f1 _ _ (by omega), z_u2 (by omega), h1 1 2441 (by omega) (by omega), fr 1 2441 (by omega) (by omega)]; exact oo.1
      have o2 : 1 ≤ gm2 1 2441 := by rw [h1 1 2441 (by omega) (by omega), fr 1 2441 (by omega) (by omega)]; exact oo.2.1
      have o3 : gm2 1 2441 ≤ 200 := by rw [h1 1 2441 (by omega) (by omega), fr 1 2441 (by omega) (by omega)]; exact oo.2.2.1
      refine ⟨?_, hs.2.1.2.1.c (fun i => xo _ _ (by omega) (by omega)) (fun i i1 i2 => mo _ (by omega)), hs.2.1.2.2.c (fun j i j1 j2 => xo _ _ (by omega) (by omega)) (fun i i1 => mo _ (by omega))⟩
      · refine ⟨o1, o2, o3, ?_, ?_, ?_⟩
        · show z_up gx2 37 1 (gx2 10 7) 37 1 = gm2 1 2440
          rw [z_u1]; exact (h2.1 rfl).symm
        · show 0 ≤ gm2 1 2440
          rw [h2.1 rfl]; omega
        · show gm2 1 2440 ≤ 16
          rw [h2.1 rfl]; omega
    · rw [h1 0 18 (by omega) (by omega), e18, hs.2.2, z_u2 (by omega), z_u2 (by omega), z_u2 (by omega), f2 _ _ (by omega), f1 _ _ (by omega), f2 _ _ (by omega), f1 _ _ (by omega), f2 _ _ (by omega), f1 _ _ (by omega)]
      rw [z_u1, z_u2 (by omega), z_u2 (by omega)]
      omega
theorem t_order (hx : z_lay X N σ 0 z_SF z_RF) (hm : z_lay Y K τ 0 z_SM z_RM) (hSY : z_St Y K τ) (hA : kA gx) (hB : cB gx) (hT : cT gx) (hw : gx 10 4 = 1 ∧ kMt (gx 11) (gx 10 6) (gx 10 3) 1) (hP : sP Y K τ gx P) : z_O X 4 m_Pa_readOrder [(2, 9), (2, ((37 : Nat) : Int))] N σ gx (fun r g => (r = 0 ∨ r = 1) → ((r = 0 → P 0 g) ∧ (¬ r = 0 → z_O X 3 m_Ta_passSign [(2, 10), (0, 59)] N σ g (fun r11 g11 => (r11 = 0 ∨ r11 = 1) → ((r11 = 0 → P 0 g11) ∧ (¬ r11 = 0 → P 1 g11)))))) := by
  obtain ⟨a1, a2, a3, a4, a5, a6, a7, a8⟩ := id hA
  have a7 := a7 (by omega)
  refine b_Pa_readOrder_0 (p1 := 37) hx (ky_F_37 hx) ⟨fun fl => ?_, fun fl => fun _ => ⟨fun _ => ?_, fun z => absurd rfl z⟩⟩
  rotate_left
  · refine hP 0 _ (Or.inl rfl) ((fC.rf.up (by omega)).up (by omega)).q (fun z => by exfalso; omega) fun gm hs Q hq => m_told1 hm hSY hA hT hs hw (fun _ gm' j1 j2 j3 => hq gm' j1.s (Or.inr ⟨rfl, sE_here hs (kBad_at hs.1 j2 j3 (by rw [z_u2 (by omega), z_u1]) z_u1 (by omega)) (j1 1 2442 (by omega)) (j1 1 2443 (by omega))⟩)) (fun z => absurd z fl)
  refine s_adv hx (by rw [z_u2 (by omega), z_u2 (by omega)]; omega) fun gx1 f1 hA1 l1 hN1 => t_num hx hm hA1 (t := 2441) (l := 1) (u := 200) (by omega) fun r gx2 hr f2 g2 hM2 => fun _ => ?_
  rw [z_u2 (by omega)] at l1
  have run : ∀ gm, sR gx gm → ∀ Q : z_P, (∀ gm1, kOK gx1 gm1 → (∀ c i, ¬ (c = 0 ∧ 11 ≤ i ∧ i ≤ 14) → ¬ (c = 0 ∧ i = 18) → gm1 c i = gm c i) → gm1 0 18 = gm 0 18 + 2 → z_O Y 3 m_M_number [(2, 0), (0, 2441), (0, 1), (0, 200)] K τ gm1 (fun r8 g8 => (r8 = 0 ∨ r8 = 1) → (((r8 = 0) → Q 0 g8) ∧ (¬ (r8 = 0) → (z_O Y 3 m_M_wantSign [(2, 0), (0, 59)] K τ g8 (fun r9 g9 => (r9 = 0 ∨ r9 = 1) → (((r9 = 0) → Q 0 g9) ∧ (¬ (r9 = 0) → Q 1 g9)))))))) → z_O Y 11 m_M_studyPart [(2, 0)] K τ gm Q := fun gm hs Q q => m_told1 hm hSY hA hT hs hw (fun z => by exfalso; omega) fun _ => by
    refine nx_N (gx := gx1) hm (hN1 _ (by rw [z_u2 (by omega), z_u2 (by omega)]; exact hs.1.1.1) (fun i i1 i2 => by rw [z_u2 (by omega)] at i2; rw [z_u2 (by omega), z_u2 (by omega)]; exact hs.1.1.2.1 i i1 i2) (by rw [z_u2 (by omega), z_u2 (by omega)]; exact hs.1.1.2.2.2.1)) fun gm1 b1 b2 => q gm1 ⟨b2, ?_, ?_, ?_, ?_⟩ (fun c i c1 c2 => by rw [b1 c i c1, z_u2 (by omega)]) (by rw [b1 _ _ (by omega), z_u1])
    · rw [f1 _ _ (by omega), z_u2 (by omega)]; exact hs.1.2.1
    · rw [f1 _ _ (by omega), z_u2 (by omega)]; exact hs.1.2.2.1
    · rw [b1 _ _ (by omega), z_u2 (by omega)]; exact hs.1.2.2.2.1
    · rw [b1 _ _ (by omega), z_u2 (by omega)]; exact hs.1.2.2.2.2
  have fq : fQ gx gx2 := fun c i c1 c2 c3 c4 c5 => by rw [f2 c i c2, f1 c i (by omega), z_u2 (by omega)]
  refine ⟨fun r0 => fun _ => ⟨fun _ => ?_, fun z => absurd rfl z⟩, fun r0 => fun _ => ⟨fun z => by exfalso; omega, fun _ => ?_⟩⟩
  · subst r0
    refine hP 0 gx2 (Or.inl rfl) fq (fun z => by exfalso; omega) fun gm hs Q hq => run gm hs Q fun gm1 ok fr e18 => hM2 gm1 ok _ fun gm2 h1 h2 h3 => fun _ => ⟨fun _ => hq gm2 (fun c i c1 c2 => by rw [h1 c i (by omega) (by omega)]; exact fr c i (by omega) (by omega)) (Or.inr ⟨rfl, sE_here hs ?_ ?_ ?_⟩), fun z => absurd rfl z⟩
    · rcases h3 with y | y
      · exfalso; omega
      · exact y.2
    · rw [h1 1 2442 (by omega) (by omega)]; exact fr 1 2442 (by omega) (by omega)
    · rw [h1 1 2443 (by omega) (by omega)]; exact fr 1 2443 (by omega) (by omega)
  · have r1 : r = 1 := by omega
    subst r1
    obtain ⟨hA2, l2, -, -, -, b1, b2, -⟩ := g2 rfl
    have a13 := hA1.2.1
    refine t_semi hx hm (hA2.c fun i _ _ => z_u2 (by omega)) ?_ ?_ ?_ ?_ (fun gm hs Q q => run gm hs Q fun gm1 ok fr e18 => hM2 gm1 ok _ fun gm2 h1 h2 h3 => fun _ => ⟨fun z => by exfalso; omega, fun _ => q gm2 (fun c i c1 c2 => by rw [h1 c i (by omega) (by omega)]; exact fr c i (by omega) (by omega)) ⟨?_, ?_, ?_⟩⟩) hP
    · exact hB.c fun c i _ _ => by rw [z_u2 (by omega), f2 _ _ (by omega), f1 _ _ (by omega), z_u2 (by omega)]
    · unfold cT at hT ⊢
      rw [z_u2 (by omega), z_u2 (by omega), z_u2 (by omega), f2 _ _ (by omega), f1 _ _ (by omega), f2 _ _ (by omega), f1 _ _ (by omega), f2 _ _ (by omega), f1 _ _ (by omega)]
      rw [z_u2 (by omega), z_u1, z_u2 (by omega)]
      omega
    · exact fun c i c1 c2 c3 c4 c5 => by rw [z_u2 (by omega)]; exact fq c i c1 c2 c3 c4 c5
    · rw [z_u2 (by omega)]; omega
    · rcases h3 with y | y
      · exact y.2.c (fun i _ _ => z_u2 (by omega)) (fun i => z_u2 (by omega)) (fun _ _ _ _ => rfl) (fun _ => rfl)
      · exfalso; omega
    · have oo : iO (fX gx 37) (fM gm 2440) := hs.2.1.1
      have xo : ∀ c i, 38 ≤ c → c ≤ 42 → z_up gx2 37 0 (gx2 10 7) c i = gx c i := fun c i c1 c2 => by rw [z_u2 (by omega), f2 _ _ (by omega), f1 _ _ (by omega), z_u2 (by omega)]
      have mo : ∀ i, 2442 ≤ i → gm2 1 i = gm 1 i := fun i i1 => by rw [h1 1 i (by omega) (by omega)]; exact fr 1 i (by omega) (by omega)
      have o4 : z_up gx2 37 0 (gx2 10 7) 37 1 = gm2 1 2440 := by rw [z_u2 (by omega), f2 _ _ (by omega), f1 _ _ (by omega), z_u2 (by omega), h1 1 2440 (by omega) (by omega), fr 1 2440 (by omega) (by omega)]; exact oo.2.2.2.1
      have o5 : 0 ≤ gm2 1 2440 := by rw [h1 1 2440 (by omega) (by omega), fr 1 2440 (by omega) (by omega)]; exact oo.2.2.2.2.1
      have o6 : gm2 1 2440 ≤ 16 := by rw [h1 1 2440 (by omega) (by omega), fr 1 2440 (by omega) (by omega)]; exact oo.2.2.2.2.2
      refine ⟨?_, hs.2.1.2.1.c (fun i => xo _ _ (by omega) (by omega)) (fun i i1 i2 => mo _ (by omega)), hs.2.1.2.2.c (fun j i j1 j2 => xo _ _ (by omega) (by omega)) (fun i i1 => mo _ (by omega))⟩
      · refine ⟨?_, ?_, ?_, o4, o5, o6⟩
        · show z_up gx2 37 0 (gx2 10 7) 37 0 = gm2 1 2441
          rw [z_u1]; exact (h2.1 rfl).symm
        · show 1 ≤ gm2 1 2441
          rw [h2.1 rfl]; omega
        · show gm2 1 2441 ≤ 200
          rw [h2.1 rfl]; omega
    · rw [h1 0 18 (by omega) (by omega), e18, hs.2.2, z_u2 (by omega), z_u2 (by omega), z_u2 (by omega), f2 _ _ (by omega), f1 _ _ (by omega), f2 _ _ (by omega), f1 _ _ (by omega), f2 _ _ (by omega), f1 _ _ (by omega)]
      rw [z_u2 (by omega), z_u1, z_u2 (by omega)]
      omega
end Lock

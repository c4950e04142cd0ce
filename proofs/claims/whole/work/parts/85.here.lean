/-! ## a STUDY: here -/
section Lock
variable {X Y : z_X} {N K : Nat} {σ τ gx gm : z_G} {P Q : z_P}
def mCont (Y : z_X) (K : Nat) (τ : z_G) (Q : z_P) (r8 : Int) (g8 : z_G) : Prop := (r8 = 0 ∨ r8 = 1) → ((r8 = 0 → Q 0 g8) ∧ (¬ r8 = 0 → z_O Y 3 m_M_wantSign [(2, 0), (0, 59)] K τ g8 (fun r9 g9 => (r9 = 0 ∨ r9 = 1) → ((r9 = 0 → Q 0 g9) ∧ (¬ r9 = 0 → Q 1 g9)))))
theorem t_here (hx : z_lay X N σ 0 z_SF z_RF) (hm : z_lay Y K τ 0 z_SM z_RM) (hSX : z_St X N σ) (hSY : z_St Y K τ) (hA : kA gx) (hB : cB gx) (hT : cT gx) (hw : gx 10 4 = 1 ∧ kMt (gx 11) (gx 10 6) (gx 10 3) 2) (hP : sP Y K τ gx P) : z_O X 10 m_Pa_readHere [(2, 9), (2, ((37 : Nat) : Int))] N σ gx (fun r g => (r = 0 ∨ r = 1) → ((r = 0 → P 0 g) ∧ (¬ r = 0 → z_O X 3 m_Ta_passSign [(2, 10), (0, 59)] N σ g (fun r11 g11 => (r11 = 0 ∨ r11 = 1) → ((r11 = 0 → P 0 g11) ∧ (¬ r11 = 0 → P 1 g11)))))) := by
  obtain ⟨a1, a2, a3, a4, a5, a6, a7, a8⟩ := id hA
  have a7 := a7 (by omega)
  refine b_Pa_readHere_0 (p1 := 37) hx (ky_F_37 hx) ⟨fun fl => ?_, fun fl => fun _ => ⟨fun _ => ?_, fun z => absurd rfl z⟩⟩
  rotate_left
  · refine hP 0 _ (Or.inl rfl) ((fC.rf.up (by omega)).up (by omega)).q (fun z => by exfalso; omega) fun gm hs Q hq => m_told2 hm hSY hA hT hs hw (fun _ gm' j1 j2 j3 => hq gm' j1.s (Or.inr ⟨rfl, sE_here hs (kBad_at hs.1 j2 j3 (by rw [z_u2 (by omega), z_u1]) z_u1 (by omega)) (j1 1 2442 (by omega)) (j1 1 2443 (by omega))⟩)) (fun z => absurd z fl)
  refine s_adv hx (by rw [z_u2 (by omega), z_u2 (by omega)]; omega) fun gx1 f1 hA1 l1 hN1 => t_val hx hm hSX hSY hA1 (t := 2442) (oT := 1) (by omega) fun r gx2 T B hr f2 g2 hM2 => fun _ => ?_
  rw [z_u2 (by omega)] at l1
  have run : ∀ gm, sR gx gm → ∀ Q : z_P, (∀ gm1, kOK gx1 gm1 → (∀ c i, ¬ (c = 0 ∧ 11 ≤ i ∧ i ≤ 14) → ¬ (c = 0 ∧ i = 18) → gm1 c i = gm c i) → gm1 0 18 = gm 0 18 + 4 → z_O Y 9 m_M_valueTo [(2, 0), (0, 2442), (0, 1)] K τ gm1 (fun r0 g0 => (r0 = 0 ∨ r0 = 1) → ((r0 = 0 → mCont Y K τ Q 0 g0) ∧ (¬ r0 = 0 → z_O Y 2 m_M_nextToken [(2, 0)] K τ g0 (fun _ g8 => mCont Y K τ Q 1 g8))))) → z_O Y 11 m_M_studyPart [(2, 0)] K τ gm Q := fun gm hs Q q => m_told2 hm hSY hA hT hs hw (fun z => by exfalso; omega) fun _ => by
    refine nx_N (gx := gx1) hm (hN1 _ (by rw [z_u2 (by omega), z_u2 (by omega)]; exact hs.1.1.1) (fun i i1 i2 => by rw [z_u2 (by omega)] at i2; rw [z_u2 (by omega), z_u2 (by omega)]; exact hs.1.1.2.1 i i1 i2) (by rw [z_u2 (by omega), z_u2 (by omega)]; exact hs.1.1.2.2.2.1)) fun gm1 b1 b2 => b_M_aPlace_0 hm (q gm1 ⟨b2, ?_, ?_, ?_, ?_⟩ (fun c i c1 c2 => by rw [b1 c i c1, z_u2 (by omega)]) (by rw [b1 _ _ (by omega), z_u1]))
    · rw [f1 _ _ (by omega), z_u2 (by omega)]; exact hs.1.2.1
    · rw [f1 _ _ (by omega), z_u2 (by omega)]; exact hs.1.2.2.1
    · rw [b1 _ _ (by omega), z_u2 (by omega)]; exact hs.1.2.2.2.1
    · rw [b1 _ _ (by omega), z_u2 (by omega)]; exact hs.1.2.2.2.2
  have fq : fQ gx gx2 := fun c i c1 c2 c3 c4 c5 => by rw [f2 c i c2 c3 c4, f1 c i (by omega), z_u2 (by omega)]
  have fsv : ∀ gm gm1 gm' : z_G, (∀ c i, ¬ (c = 0 ∧ 11 ≤ i ∧ i ≤ 14) → ¬ (c = 0 ∧ i = 18) → gm1 c i = gm c i) → fV gm1 gm' 2442 → fS gm gm' := fun gm gm1 gm' fr v1 c i c1 c2 => by rw [v1 c i (by omega) (by omega)]; exact fr c i (by omega) (by omega)
  have es : ∀ gm gm1 gm' : z_G, sR gx gm → (∀ c i, ¬ (c = 0 ∧ 11 ≤ i ∧ i ≤ 14) → ¬ (c = 0 ∧ i = 18) → gm1 c i = gm c i) → vK gm1 gm' 2442 → (0 ≤ gm' 1 2442 ∧ gm' 1 2442 ≤ 9999) ∧ (0 ≤ gm' 1 2443 ∧ gm' 1 2443 ≤ 9999) := fun gm gm1 gm' hs fr v => by
    have e := hs.2.1.e
    have e2 := fr 1 2442 (by omega) (by omega)
    have e3 := fr 1 2443 (by omega) (by omega)
    have v1 : gm' 1 2442 = gm1 1 2442 ∨ (0 ≤ gm' 1 2442 ∧ gm' 1 2442 ≤ 9999) := v.1
    have v2 : gm' 1 2443 = gm1 1 2443 := v.2
    omega
  refine ⟨fun r0 => fun _ => ⟨fun _ => ?_, fun z => absurd rfl z⟩, fun r0 => ⟨fun c => fun _ => ⟨fun _ => ?_, fun z => absurd rfl z⟩, fun c => ?_⟩⟩
  · subst r0
    exact hP 0 gx2 (Or.inl rfl) fq (fun z => by exfalso; omega) fun gm hs Q hq => run gm hs Q fun gm1 ok fr e18 => hM2 gm1 ok _ (fun _ gm' v1 v2 kb => fun _ => ⟨fun _ => fun _ => ⟨fun _ => hq gm' (fsv gm gm1 gm' fr v1) (Or.inr ⟨rfl, kb, es gm gm1 gm' hs fr v2⟩), fun z => absurd rfl z⟩, fun z => absurd rfl z⟩) (fun z => by exfalso; omega) (fun z => by exfalso; omega)
  · have r1 : r = 1 := by omega
    subst r1
    obtain ⟨hA2, l2, t0, tb, b1, b2, hc⟩ := g2 rfl
    have c4 : gx2 12 4 = B / Int.gcd T B := hc.2.2.2.2.2.1
    have nt : ¬ (0 < T ∧ T < B) := (n_tree (by omega)).mp (by rw [← c4]; exact c)
    refine hP 0 _ (Or.inl rfl) (fun c i c1 c2 c3 c4 c5 => by rw [z_u2 (by omega), z_u2 (by omega)]; exact fq c i c1 c2 c3 c4 c5) (fun z => by exfalso; omega) fun gm hs Q hq => run gm hs Q fun gm1 ok fr e18 => hM2 gm1 ok _ (fun z => by exfalso; omega) (fun _ z => z.elim (fun z => absurd z (by decide)) (fun z => absurd z nt)) (fun _ _ _ gm' v1 v2 e17 e16 => fun _ => ⟨fun _ => fun _ => ⟨fun _ => hq gm' (fsv gm gm1 gm' fr v1) (Or.inr ⟨rfl, ?_, es gm gm1 gm' hs fr v2⟩), fun z => absurd rfl z⟩, fun z => absurd rfl z⟩)
    refine ⟨?_, by omega, by omega, ?_⟩
    · rw [z_u2 (by omega), z_u1, e17]
    · rw [z_u1, e16]
  · have r1 : r = 1 := by omega
    subst r1
    obtain ⟨hA2, l2, t0, tb, b1, b2, hc⟩ := g2 rfl
    have c4 : gx2 12 4 = B / Int.gcd T B := hc.2.2.2.2.2.1
    have nt : 0 < T ∧ T < B := by
      by_cases z : 0 < T ∧ T < B
      · exact z
      · exact absurd ((n_tree (by omega)).mpr z) (by rw [← c4]; exact c)
    refine s_Sp_standOn (o := 38) (p := 12) (ky_Bd_1 (ky_F_37 hx)) (ky_F_12 hx) (by omega) hc (by omega) fun gx3 lt lb ht hb sp s1 s2 e0 e1 e2 e3 e4 f3 => fun _ => ⟨fun z => by exfalso; omega, fun _ => ?_⟩
    have rd := n_red (t := T) (b := B) (by omega)
    have rb := rd.2.2.2.1
    have a13 := hA1.2.1
    have x3 : ∀ c i, c ≠ 38 → gx3 c i = gx2 c i := f3
    refine t_semi hx hm (hA2.c fun i _ _ => x3 _ _ (by omega)) ?_ ?_ ?_ ?_ (fun gm hs Q q => run gm hs Q fun gm1 ok fr e18 => hM2 gm1 ok _ (fun z => by exfalso; omega) (fun _ _ gm2 v1 m1 m2 kn m12 m11 m17 m16 x9 x10 => fun _ => ⟨fun z => by exfalso; omega, fun _ => nx_N (gx := gx3) hm (kn.c (fun i _ _ => x3 _ _ (by omega)) (fun i => x3 _ _ (by omega)) rfl rfl (fun _ => rfl)) fun gm3 b1 b2 => fun _ => ⟨fun z => by exfalso; omega, fun _ => q gm3 (fun c i c1 c2 => by rw [b1 c i (by omega)]; exact fsv gm gm1 gm2 fr v1 c i c1 c2) ⟨⟨b2, ?_, ?_, ?_, ?_⟩, ?_, ?_⟩⟩⟩) (fun _ _ z => absurd nt z)) hP
    · refine ⟨?_, ?_, ?_⟩
      · rw [x3 _ _ (by omega), f2 _ _ (by omega) (by omega) (by omega), f1 _ _ (by omega), z_u2 (by omega)]; exact hB.1
      · rw [e0, e1, e2, e3]; exact sp
      · rw [e1, e3, s2]; exact rb
    · unfold cT at hT ⊢
      rw [x3 _ _ (by omega), x3 _ _ (by omega), x3 _ _ (by omega), f2 _ _ (by omega) (by omega) (by omega), f1 _ _ (by omega), f2 _ _ (by omega) (by omega) (by omega), f1 _ _ (by omega), f2 _ _ (by omega) (by omega) (by omega), f1 _ _ (by omega)]
      rw [z_u2 (by omega), z_u2 (by omega), z_u1]
      omega
    · exact fun c i c1 c2 c3 c4 c5 => by rw [x3 _ _ (by omega)]; exact fq c i c1 c2 c3 c4 c5
    · rw [x3 _ _ (by omega)]; omega
    · rw [x3 _ _ (by omega)]; exact x9
    · rw [x3 _ _ (by omega)]; exact x10
    · rw [b1 _ _ (by omega)]; exact m17
    · rw [b1 _ _ (by omega)]; exact m16
    · have xo : ∀ c i, c ≠ 38 → 37 ≤ c → c ≤ 42 → gx3 c i = gx c i := fun c i c0 c1 c2 => by rw [x3 _ _ c0, f2 _ _ (by omega) (by omega) (by omega), f1 _ _ (by omega), z_u2 (by omega)]
      have mo : ∀ i, i ≠ 2442 → i ≠ 2443 → gm3 1 i = gm 1 i := fun i i1 i2 => by rw [b1 1 i (by omega), v1 1 i (by omega) (by omega)]; exact fr 1 i (by omega) (by omega)
      have n2 : gm3 1 2442 = T / Int.gcd T B := by rw [b1 1 2442 (by omega)]; exact m1
      have n3 : gm3 1 2443 = B / Int.gcd T B := by rw [b1 1 2443 (by omega)]; exact m2
      refine ⟨hs.2.1.1.c (fun i => xo _ _ (by omega) (by omega) (by omega)) (fun i i1 i2 => mo _ (by omega) (by omega)), ?_, hs.2.1.2.2.c (fun j i j1 j2 => xo _ _ (by omega) (by omega) (by omega)) (fun i i1 => mo _ (by omega) (by omega))⟩
      refine ⟨?_, ?_, ?_, ?_, ?_⟩
      · show n_sp (gx3 38 0) (gx3 38 1) (gx3 38 2) (gx3 38 3)
        rw [e0, e1, e2, e3]; exact sp
      · show gx3 38 0 + gx3 38 2 = gm3 1 2442
        rw [e0, e2, n2]; exact s1
      · show gx3 38 1 + gx3 38 3 = gm3 1 2443
        rw [e1, e3, n3]; exact s2
      · show gm3 1 2443 ≤ 9999
        rw [n3]; exact rb
      · show gx3 38 4 = n_D (gm3 1 2442) (gm3 1 2443)
        rw [e4, n2, n3]; exact (n_D_red (by omega) (by omega)).symm
    · rw [b1 0 18 (by omega), v1 0 18 (by omega) (by omega), e18, hs.2.2, x3 _ _ (by omega), x3 _ _ (by omega), x3 _ _ (by omega), f2 _ _ (by omega) (by omega) (by omega), f1 _ _ (by omega), f2 _ _ (by omega) (by omega) (by omega), f1 _ _ (by omega), f2 _ _ (by omega) (by omega) (by omega), f1 _ _ (by omega)]
      rw [z_u2 (by omega), z_u2 (by omega), z_u1]
      omega
end Lock

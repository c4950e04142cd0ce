/-! ## a STUDY: all parts -/
section Lock
variable {X Y : z_X} {N K : Nat} {σ τ gx gm : z_G} {P Q : z_P}
theorem t_part (hx : z_lay X N σ 0 z_SF z_RF) (hm : z_lay Y K τ 0 z_SM z_RM) (hSX : z_St X N σ) (hSY : z_St Y K τ) (hA : kA gx) (hB : cB gx) (hT : cT gx) (hP : sP Y K τ gx P) : z_O X 11 m_Pa_readPart [(2, 9), (2, ((37 : Nat) : Int))] N σ gx P := by
  obtain ⟨a1, a2, a3, a4, a5, a6, a7, a8⟩ := id hA
  have wb : gx 10 4 = 1 → 0 ≤ gx 10 6 ∧ gx 10 6 ≤ gx 10 3 ∧ gx 10 3 ≤ 900 := fun _ => by omega
  have get : ∀ {r : Int} {w : Nat}, ((r = 1 ∧ gx 10 4 = 1 ∧ kMt (gx 11) (gx 10 6) (gx 10 3) w) ∨ (r = 0 ∧ ¬ (gx 10 4 = 1 ∧ kMt (gx 11) (gx 10 6) (gx 10 3) w))) → (¬ r = 0 → gx 10 4 = 1 ∧ kMt (gx 11) (gx 10 6) (gx 10 3) w) ∧ (r = 0 → ¬ (gx 10 4 = 1 ∧ kMt (gx 11) (gx 10 6) (gx 10 3) w)) := fun {r w} h => by
    rcases h with ⟨y1, y2⟩ | ⟨y1, y2⟩
    · exact ⟨fun _ => y2, fun z => by exfalso; omega⟩
    · exact ⟨fun z => absurd y1 z, fun _ => y2⟩
  refine b_Pa_readPart_0 (p1 := 37) hx (ky_F_37 hx) (s_Ta_isWord hx hSX (k := 0) (by omega) wb fun r0 h0 => fun _ => ⟨fun z0 => s_Ta_isWord hx hSX (k := 1) (by omega) wb fun r1 h1 => fun _ => ⟨fun z1 => s_Ta_isWord hx hSX (k := 2) (by omega) wb fun r2 h2 => fun _ => ⟨fun z2 => s_Ta_isWord hx hSX (k := 4) (by omega) wb fun r3 h3 => fun _ => ⟨fun z3 => ?_, fun z3 => t_pinp hx hm hSX hSY hA hB hT ((get h3).1 z3) hP⟩, fun z2 => t_here hx hm hSX hSY hA hB hT ((get h2).1 z2) hP⟩, fun z1 => t_order hx hm hSY hA hB hT ((get h1).1 z1) hP⟩, fun z0 => t_odds hx hm hSY hA hB hT ((get h0).1 z0) hP⟩)
  have n0 : ¬ (gx 10 4 = 1 ∧ kMt (gx 11) (gx 10 6) (gx 10 3) 0) := (get h0).2 z0
  have n1 : ¬ (gx 10 4 = 1 ∧ kMt (gx 11) (gx 10 6) (gx 10 3) 1) := (get h1).2 z1
  have n2 : ¬ (gx 10 4 = 1 ∧ kMt (gx 11) (gx 10 6) (gx 10 3) 2) := (get h2).2 z2
  have n3 : ¬ (gx 10 4 = 1 ∧ kMt (gx 11) (gx 10 6) (gx 10 3) 3) := (get h3).2 z3
  have bad : ∀ b, ((gx 10 4 = 4 → b = 1) ∧ (¬ gx 10 4 = 4 → b = 2)) → P 0 (z_up (z_up gx 10 9 b) 10 10 (gx 10 6)) := fun b hb => by
    refine hP 0 _ (Or.inl rfl) ((fC.rf.up (by omega)).up (by omega)).q (fun z => by exfalso; omega) fun gm hs Q hq => b_M_studyPart_0 hm (m_word hm hSY hs.1.1 hA fun r hr => ?_)
    have f : z_O Y 1 m_M_fails [(2, 0), (0, 2)] K τ gm (fun r1 g1 => (r1 = 0 ∨ r1 = 1) → Q r1 g1) := m_fails hm hs.1.2.2.2.1 fun gm' f1 f2 f3 => fun _ => hq gm' f1.s (Or.inr ⟨rfl, sE_here hs (kBad_here hs.1 f2 f3 (by rw [z_u2 (by omega), z_u1]) z_u1 hb (by omega)) (f1 1 2442 (by omega)) (f1 1 2443 (by omega))⟩)
    refine ⟨fun _ => f, fun z => ⟨fun y => ?_, fun _ => f⟩⟩
    exfalso
    rcases hr with ⟨y1, -⟩ | ⟨w, w1, w2, w3⟩
    · omega
    · rcases (show w = 0 ∨ w = 1 ∨ w = 2 ∨ w = 3 by omega) with e | e | e | e
      · rw [e] at w3; exact n0 w3
      · rw [e] at w3; exact n1 w3
      · rw [e] at w3; exact n2 w3
      · rw [e] at w3; exact n3 w3
  exact ⟨fun y => bad 1 (by omega), fun y => bad 2 (by omega)⟩
/-- all parts -/
theorem t_study (hx : z_lay X N σ 0 z_SF z_RF) (hm : z_lay Y K τ 0 z_SM z_RM) (hSX : z_St X N σ) (hSY : z_St Y K τ) {gx0 : z_G} {R : z_G → Prop} (hR : ∀ gm gm', R gm → fS gm gm' → R gm') {n : Int} {W : z_P → Prop}
    (h1 : ∀ gx', fQ gx0 gx' → kA gx' → cB gx' → cT gx' → (∀ Q : z_P, (∀ gm, sR gx' gm → R gm → z_O Y 1 m_M_sees [(2, 0), (0, 2440)] K τ gm (fun r0 g0 => (g0 0 17 = 0 → L_M_study_66 Y K τ 0 g0 Q) ∧ (¬ g0 0 17 = 0 → z_O Y 2 m_M_taken [(2, 0), (0, g0 1 4)] K τ g0 (fun r1 g1 => Q r1 g1)))) → W Q) → z_O X 3 m_Vi_startAt [(2, ((43 : Nat) : Int)), (2, ((38 : Nat) : Int))] N σ gx' (fun r0 g0 => P 1 g0))
    (h0 : ∀ gx', fQ gx0 gx' → (∀ Q : z_P, (∀ gm, sE gx' gm → R gm → z_O Y 1 m_M_sees [(2, 0), (0, 2440)] K τ gm (fun r0 g0 => (g0 0 17 = 0 → L_M_study_66 Y K τ 0 g0 Q) ∧ (¬ g0 0 17 = 0 → z_O Y 2 m_M_taken [(2, 0), (0, g0 1 4)] K τ g0 (fun r1 g1 => Q r1 g1)))) → W Q) → P 0 gx') :
    ∀ (m : Nat) (x3 : Int) (gx : z_G), n ≤ x3 + m → 0 ≤ x3 → x3 ≤ gx 10 6 → gx 10 2 = n → fQ gx0 gx → kA gx → cB gx → cT gx → (∀ Q : z_P, (∀ gm, sR gx gm → R gm → L_M_study_31 Y K τ 1 gm Q) → W Q) → L_Pa_readStudy_29 X N σ n x3 37 gx P := by
  intro m
  have fin : ∀ gx : z_G, gx 10 4 = 0 → fQ gx0 gx → kA gx → cB gx → cT gx → (∀ Q : z_P, (∀ gm, sR gx gm → R gm → L_M_study_31 Y K τ 1 gm Q) → W Q) → z_O X 3 m_Vi_startAt [(2, ((43 : Nat) : Int)), (2, ((38 : Nat) : Int))] N σ gx (fun r0 g0 => P 1 g0) := fun gx e hf hA hB hT hW => h1 gx hf hA hB hT fun Q hQ => hW Q fun gm hs hfm => b_M_study_31 hm ⟨fun z => absurd z (by decide), fun _ => ⟨fun _ => hQ gm hs hfm, fun z => by
    have := hs.1.1.2.2.2.2.1
    unfold kC at this
    exfalso; omega⟩⟩
  induction m with
  | zero =>
    intro x3 gx e1 e2 e3 e4 hf hA hB hT hW
    obtain ⟨a1, a2, a3, a4, a5, a6, a7, a8⟩ := id hA
    have k0 : gx 10 4 = 0 := by
      by_cases c : gx 10 4 = 0
      · exact c
      · have := a7 c; exfalso; omega
    exact b_Pa_readStudy_29 (p1 := 37) hx (ky_F_37 hx) ⟨fun _ => fin gx k0 hf hA hB hT hW, fun z => by exfalso; omega⟩
  | succ m ih =>
    intro x3 gx e1 e2 e3 e4 hf hA hB hT hW
    obtain ⟨a1, a2, a3, a4, a5, a6, a7, a8⟩ := id hA
    by_cases k0 : gx 10 4 = 0
    · exact b_Pa_readStudy_29 (p1 := 37) hx (ky_F_37 hx) ⟨fun _ => fin gx k0 hf hA hB hT hW, fun _ => ⟨fun _ => fin gx k0 hf hA hB hT hW, fun z => absurd k0 z⟩⟩
    have a7 := a7 k0
    have ng : ∀ gm, sR gx gm → ¬ gm 0 11 = 0 := fun gm hs => by
      have := hs.1.1.2.2.2.2.1
      unfold kC at this; omega
    refine b_Pa_readStudy_29 (p1 := 37) hx (ky_F_37 hx) ⟨fun z => by exfalso; omega, fun _ => ⟨fun z => absurd z k0, fun _ => t_part hx hm hSX hSY hA hB hT fun r gx' hr f1 g1 hM => fun _ => ⟨fun r0 => ?_, fun r0 => ?_⟩⟩⟩
    · subst r0
      refine h0 gx' (hf.tr f1) fun Q hQ => hW Q fun gm hs hfm => b_M_study_31 hm ⟨fun z => absurd z (by decide), fun _ => ⟨fun z => absurd z (ng gm hs), fun _ => hM gm hs _ fun gm' j1 j2 => fun _ => b_M_study_31 hm ⟨fun _ => ?_, fun z => absurd rfl z⟩⟩⟩
      rcases j2 with y | y
      · exfalso; omega
      · exact hQ gm' y.2 (hR _ _ hfm j1)
    · have r1 : r = 1 := by omega
      subst r1
      obtain ⟨hA', hB', hT', l'⟩ := g1 rfl
      refine ⟨by omega, ih (x3 + 1) gx' (by omega) (by omega) (by omega) (by rw [f1 10 2 (by omega) (by omega) (by omega) (by omega) (by omega)]; exact e4) (hf.tr f1) hA' hB' hT' fun Q hQ => hW Q fun gm hs hfm => b_M_study_31 hm ⟨fun z => absurd z (by decide), fun _ => ⟨fun z => absurd z (ng gm hs), fun _ => hM gm hs _ fun gm' j1 j2 => fun _ => ?_⟩⟩⟩
      rcases j2 with y | y
      · exact hQ gm' y.2 (hR _ _ hfm j1)
      · exfalso; omega
end Lock

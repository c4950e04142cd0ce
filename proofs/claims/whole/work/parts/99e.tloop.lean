/-! ## TOURS as a text: all steps -/
section Lock
variable {X Y : z_X} {N K : Nat} {σ τ gx gm : z_G} {P Q : z_P}
theorem s_up360 (hm : z_lay Y K τ 0 z_SM z_RM) {g : z_G} (hq : ∀ g', (∀ i, 246 ≤ i → i < 606 → g' 1 i = g 1 (2440 + i)) → (∀ c i, ¬ (c = 1 ∧ 246 ≤ i ∧ i < 606) → g' c i = g c i) → z_O Y 2 m_M_taken [(2, 0), (0, g' 0 21)] K τ g' (fun r0 g0 => Q r0 g0)) : L_M_tours_103 Y K τ 246 g Q := by
  have L : ∀ (m : Nat) (x : Int) (g1 : z_G), x + m = 606 → 246 ≤ x → (∀ i, 246 ≤ i → i < x → g1 1 i = g 1 (2440 + i)) → (∀ c i, ¬ (c = 1 ∧ 246 ≤ i ∧ i < x) → g1 c i = g c i) → L_M_tours_103 Y K τ x g1 Q := by
    intro m
    induction m with
    | zero =>
      intro x g1 e1 e2 h1 hf
      exact b_M_tours_103 hm ⟨fun _ => hq g1 (fun i i1 i2 => h1 i i1 (by omega)) (fun c i hc => hf c i (by omega)), fun z => by exfalso; omega⟩
    | succ m ih =>
      intro x g1 e1 e2 h1 hf
      refine b_M_tours_103 hm ⟨fun z => by exfalso; omega, fun _ => ⟨by omega, by omega, by omega, by omega, ih (x + 1) _ (by omega) (by omega) (fun i i1 i2 => ?_) (fun c i hc => by rw [z_u2 (by omega)]; exact hf c i (by omega))⟩⟩
      by_cases c : i = x
      · subst c; rw [z_u1]; exact hf 1 _ (by omega)
      · rw [z_u2 (by omega)]; exact h1 i i1 (by omega)
  exact L 360 246 g (by omega) (by omega) (fun i i1 i2 => by exfalso; omega) (fun _ _ _ => rfl)
theorem t_tours (hx : z_lay X N σ 0 z_SF z_RF) (hm : z_lay Y K τ 0 z_SM z_RM) (hSX : z_St X N σ) (hSY : z_St Y K τ) {gx0 : z_G} {R : z_G → Prop} (hR : ∀ gm gm', R gm → fU gm gm' → R gm') {n : Int} {W : z_P → Prop}
    (h1 : ∀ gx', fW gx0 gx' → gx' 9 6 = 0 → cG gx' → (∀ Q : z_P, (∀ gm, gR gx' gm → R gm → L_M_tours_103 Y K τ 246 (z_up gm 1 6 (gm 1 2446)) Q) → W Q) → P 1 (z_up gx' 45 0 1))
    (h0 : ∀ gx', fW gx0 gx' → (∀ Q : z_P, (∀ gm, kBad gx' gm → R gm → z_O Y 2 m_M_taken [(2, 0), (0, gm 0 21)] K τ gm (fun r0 g0 => Q r0 g0)) → W Q) → P 0 gx') :
    ∀ (m : Nat) (x3 : Int) (gx : z_G), n ≤ x3 + m → 0 ≤ x3 → x3 ≤ gx 10 6 → gx 10 2 = n → fW gx0 gx → kA gx → cG gx → (∀ Q : z_P, (∀ gm, gR gx gm → R gm → L_M_tours_38 Y K τ 1 gm Q) → W Q) → L_Pa_readTours_19 X N σ n x3 45 gx P := by
  intro m
  have kc : ∀ gx gm : z_G, gR gx gm → kC (gx 10 4) (gm 0 11) := fun gx gm hs => hs.1.1.2.2.2.2.1
  have fin : ∀ gx : z_G, gx 10 4 = 0 → fW gx0 gx → cG gx → (∀ Q : z_P, (∀ gm, gR gx gm → R gm → L_M_tours_38 Y K τ 1 gm Q) → W Q) → ((gx 9 6 ≤ 0 → P 1 (z_up gx 45 0 1)) ∧ (¬ gx 9 6 ≤ 0 → ((gx 10 4 = 4 → P 0 (z_up (z_up gx 10 9 1) 10 10 (gx 10 6))) ∧ (¬ gx 10 4 = 4 → P 0 (z_up (z_up gx 10 9 2) 10 10 (gx 10 6)))))) := fun gx e hf hG hW => by
    have g1 := hG.1
    refine ⟨fun z => ?_, fun z => ⟨fun y => by exfalso; omega, fun _ => ?_⟩⟩
    · refine h1 gx hf (by omega) hG fun Q hQ => hW Q fun gm hs hr => ?_
      have c := kc gx gm hs
      have e20 : gx 9 6 = gm 0 20 := hs.2.2.2.1
      have k17 : gm 0 17 = 0 := hs.1.2.2.2.1
      unfold kC at c
      exact b_M_tours_38 hm ⟨fun z => absurd z (by decide), fun _ => ⟨fun _ => ⟨fun _ => ⟨fun _ => hQ gm hs hr, fun y => by exfalso; omega⟩, fun y => absurd k17 y⟩, fun y => by exfalso; omega⟩⟩
    · refine h0 _ (hf.tr ((fC.rf.up (by omega)).up (by omega)).t.w) fun Q hQ => hW Q fun gm hs hr => ?_
      have c := kc gx gm hs
      have e20 : gx 9 6 = gm 0 20 := hs.2.2.2.1
      have k17 : gm 0 17 = 0 := hs.1.2.2.2.1
      unfold kC at c
      refine b_M_tours_38 hm ⟨fun z => absurd z (by decide), fun _ => ⟨fun _ => ⟨fun _ => ⟨fun y => by exfalso; omega, fun _ => m_fails hm k17 fun gm' f1 f2 f3 => fun _ => ?_⟩, fun y => absurd k17 y⟩, fun y => by exfalso; omega⟩⟩
      have kb : kBad (z_up (z_up gx 10 9 2) 10 10 (gx 10 6)) gm' := kBad_here hs.1 f2 f3 (by rw [z_u2 (by omega), z_u1]) z_u1 ⟨fun z => by exfalso; omega, fun _ => rfl⟩ (by omega)
      have := kb.2.1
      exact ⟨fun y => by exfalso; omega, fun _ => hQ gm' kb (hR _ _ hr f1.u)⟩
  induction m with
  | zero =>
    intro x3 gx e1 e2 e3 e4 hf hA hG hW
    have k0 : gx 10 4 = 0 := by
      obtain ⟨a1, a2, a3, a4, a5, a6, a7, a8⟩ := id hA
      by_cases c : gx 10 4 = 0
      · exact c
      · have := a7 c; exfalso; omega
    exact b_Pa_readTours_19 (p1 := 45) hx (ky_F_45 hx) ⟨fun _ => fin gx k0 hf hG hW, fun z => by exfalso; omega⟩
  | succ m ih =>
    intro x3 gx e1 e2 e3 e4 hf hA hG hW
    by_cases k0 : gx 10 4 = 0
    · exact b_Pa_readTours_19 (p1 := 45) hx (ky_F_45 hx) ⟨fun _ => fin gx k0 hf hG hW, fun _ => ⟨fun _ => fin gx k0 hf hG hW, fun z => absurd k0 z⟩⟩
    have al : 0 ≤ gx 10 6 ∧ gx 10 6 < gx 10 3 ∧ gx 10 3 ≤ gx 10 2 ∧ gx 10 2 ≤ 900 := by
      have := hA.2.2.2.2.2.2.1 k0
      have := hA.1
      have := hA.2.2.1
      have := hA.2.2.2.1
      omega
    have ng : ∀ gm, gR gx gm → ¬ gm 0 11 = 0 := fun gm hs => by
      have := kc gx gm hs
      unfold kC at this; omega
    have cont : sW Y K τ gx (fun r g0 => (r = 0 ∨ r = 1) → ((r = 0 → P 0 g0) ∧ (¬ r = 0 → ((-2147483648 ≤ x3 + 1 ∧ x3 + 1 ≤ 2147483647) ∧ L_Pa_readTours_19 X N σ n (x3 + 1) 45 g0 P)))) := by
      refine fun r gx' hr f1 g1 hM => fun _ => ⟨fun r0 => ?_, fun r0 => ?_⟩
      · subst r0
        refine h0 gx' (hf.tr f1) fun Q hQ => hW Q fun gm hs hr => b_M_tours_38 hm ⟨fun z => absurd z (by decide), fun _ => ⟨fun z => absurd z (ng gm hs), fun _ => hM gm hs _ fun gm' j1 j2 => fun _ => b_M_tours_38 hm ⟨fun _ => ?_, fun z => absurd rfl z⟩⟩⟩
        rcases j2 with y | y
        · exfalso; omega
        · have := y.2.2.1
          exact ⟨fun z => by exfalso; omega, fun _ => hQ gm' y.2 (hR _ _ hr j1)⟩
      · have r1 : r = 1 := by omega
        subst r1
        obtain ⟨hA', hG', l'⟩ := g1 rfl
        refine ⟨by omega, ih (x3 + 1) gx' (by omega) (by omega) (by omega) (by rw [f1 10 2 (by omega) (by omega) (by omega) (by omega) (by omega) (by omega)]; exact e4) (hf.tr f1) hA' hG' fun Q hQ => hW Q fun gm hs hr => b_M_tours_38 hm ⟨fun z => absurd z (by decide), fun _ => ⟨fun z => absurd z (ng gm hs), fun _ => hM gm hs _ fun gm' j1 j2 => fun _ => ?_⟩⟩⟩
        rcases j2 with y | y
        · exact hQ gm' y.2 (hR _ _ hr j1)
        · exfalso; omega
    refine b_Pa_readTours_19 (p1 := 45) hx (ky_F_45 hx) ⟨fun z => by exfalso; omega, fun _ => ⟨fun z => absurd z k0, fun _ => ⟨fun d0 => t_tstep hx hm hSX hSY hA hG (fun _ => by have := hG.1; omega) cont, fun d0 => s_Ta_isWord hx hSX (k := 6) (by omega) (fun _ => by omega) fun r hr => fun _ => ?_⟩⟩⟩
    rcases hr with ⟨y1, y2⟩ | ⟨y1, y2⟩
    · exact ⟨fun z => by exfalso; omega, fun _ => t_tend hx hm hSY hA hG (by omega) y2 cont⟩
    · exact ⟨fun _ => t_tstep hx hm hSX hSY hA hG (fun z => absurd z y2) cont, fun z => absurd y1 z⟩
end Lock

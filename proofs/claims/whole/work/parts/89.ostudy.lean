/-! ## study -/
theorem n_D_root : n_D 1 2 = 0 := by
  have := (n_D_zero n_sp_root).1.mpr rfl
  exact this
theorem s_up610 {Y : z_X} {K : Nat} {τ g : z_G} {Q : z_P} (hm : z_lay Y K τ 0 z_SM z_RM) (hq : ∀ g', (∀ i, 0 ≤ i → i < 610 → g' 1 i = g 1 (2440 + i)) → (∀ c i, ¬ (c = 1 ∧ 0 ≤ i ∧ i < 610) → g' c i = g c i) → z_O Y 2 m_M_taken [(2, 0), (0, g' 1 4)] K τ g' (fun r0 g0 => Q r0 g0)) : L_M_study_66 Y K τ 0 g Q := by
  have L : ∀ (m : Nat) (x : Int) (g1 : z_G), x + m = 610 → 0 ≤ x → (∀ i, 0 ≤ i → i < x → g1 1 i = g 1 (2440 + i)) → (∀ c i, ¬ (c = 1 ∧ 0 ≤ i ∧ i < x) → g1 c i = g c i) → L_M_study_66 Y K τ x g1 Q := by
    intro m
    induction m with
    | zero =>
      intro x g1 e1 e2 h1 hf
      exact b_M_study_66 hm ⟨fun _ => hq g1 (fun i i1 i2 => h1 i i1 (by omega)) (fun c i hc => hf c i (by omega)), fun z => by exfalso; omega⟩
    | succ m ih =>
      intro x g1 e1 e2 h1 hf
      refine b_M_study_66 hm ⟨fun z => by exfalso; omega, fun _ => ⟨by omega, by omega, by omega, by omega, ih (x + 1) _ (by omega) (by omega) (fun i i1 i2 => ?_) (fun c i hc => by rw [z_u2 (by omega)]; exact hf c i (by omega))⟩⟩
      by_cases c : i = x
      · subst c; rw [z_u1]; exact hf 1 _ (by omega)
      · rw [z_u2 (by omega)]; exact h1 i i1 (by omega)
  exact L 610 0 g (by omega) (by omega) (fun i i1 i2 => by exfalso; omega) (fun _ _ _ => rfl)
theorem o_study {X Y : z_X} {N K : Nat} {σ τ gx gm : z_G} (hx : z_lay X N σ 0 z_SF z_RF) (hm : z_lay Y K τ 0 z_SM z_RM) (hSX : z_St X N σ) (hSY : z_St Y K τ) (I : Inv gx gm) {a1 : Int} (r1 : -2147483648 ≤ a1 ∧ a1 ≤ 2147483647) : z_O X 13 m_F_study [(2, 0), (0, a1)] N σ gx (fun r gx' => z_O Y 12 m_M_study [(2, 0), (0, a1)] K τ gm (fun r' gm' => r' = r ∧ Inv gx' gm')) := by
  obtain ⟨i1, i2, i3, i4, i5⟩ := id I
  have hF := i4.2.1
  have hb : iB (fX gx 23) (fM gm 0) := I.2.2.2.1.2.2.2.2.2.2.1
  have f1 : gx 10 1 = gm 0 9 := hF.1
  have f2 : 0 ≤ gm 0 9 := hF.2.1
  have f3 : gm 0 9 ≤ 900 := hF.2.2.1
  have no : ∀ g : z_G, (¬ (0 ≤ a1 ∧ a1 ≤ gm 0 9)) → z_O Y 12 m_M_study [(2, 0), (0, a1)] K τ gm (fun r' gm' => r' = -1 ∧ Inv (z_up gx 0 0 1) gm') := fun _ z => by
    refine b_M_study_0 hm (b_M_begins_0 hm ⟨fun _ => fun _ => ⟨fun _ => ⟨rfl, I.fin xA.rf yA.rf i5 1⟩, fun y => absurd rfl y⟩, fun c => ⟨fun _ => fun _ => ⟨fun _ => ⟨rfl, I.fin xA.rf yA.rf i5 1⟩, fun y => absurd rfl y⟩, fun c2 => by exfalso; omega⟩⟩)
  refine b_F_study_0 hx ⟨fun c => no gx (by omega), fun c => ⟨fun c2 => ?_, fun c2 => no gx (by omega)⟩⟩
  refine b_Pa_readStudy_0 (p1 := 37) hx (ky_F_37 hx) (s_clear37 hx fun gx1 p0 p1 q0 q1 q2 q3 q4 u3 v0 e1 => s_start hx (by omega) fun gx2 l2 l3 l9 l10 e2 => s_adv hx (by omega) fun gx3 e3 hA3 _ hN3 => ?_)
  -- the reference so far
  have beg : ∀ Q : z_P, (∀ gm3, kS gx3 gm3 → gm3 0 9 = 0 → gm3 0 17 = 0 → gm3 0 16 = -1 → gm3 0 18 = 0 → gm3 1 2440 = 4 → gm3 1 2441 = 5 → gm3 1 2442 = 1 → gm3 1 2443 = 2 → gm3 1 2446 = -1 → gm3 1 2444 = 0 → gm3 1 2445 = 0 → (∀ c i, c ≠ 6 → ¬ (c = 0 ∧ (9 ≤ i ∧ i ≤ 14 ∨ 16 ≤ i ∧ i ≤ 18)) → ¬ (c = 1 ∧ 2440 ≤ i ∧ i < 3050) → gm3 c i = gm c i) → L_M_study_31 Y K τ 1 gm3 Q) → z_O Y 12 m_M_study [(2, 0), (0, a1)] K τ gm Q := by
    intro Q hQ
    refine b_M_study_0 hm (b_M_begins_0 hm ⟨fun z => absurd z c, fun _ => ⟨fun z => by exfalso; omega, fun _ => ⟨fun _ => s_begins hm (by omega) (fun i j1 j2 => (hF.2.2.2 i j1 (by omega)).2) fun g1 b6 b10 b9 b17 b16 b13 bf => nx_N (gx := gx3) hm (hN3 g1 (by omega) (fun i j1 j2 => ?_) (by omega)) fun g2 n1 n2 => fun _ => ⟨fun z => absurd z (by decide), fun _ => s_plain hm fun g3 m0 m1 m2 m3 m6 mz mf => hQ _ (n2.c (fun _ _ _ => rfl) (fun _ => rfl) (fun i j1 j2 => ?_) (fun i => ?_)) ?_ ?_ ?_ z_u1 ?_ ?_ ?_ ?_ ?_ ?_ ?_ fun c i k1 k2 k3 => ?_⟩, fun z => by exfalso; omega⟩⟩⟩)
    · have t := (hF.2.2.2 i j1 (by omega)).1
      rw [b6 i j1 (by omega), e2 11 i (by omega), z_u2 (by omega), z_u2 (by omega), z_u2 (by omega), e1 11 i (by omega)]
      exact t
    · rw [z_u2 (by omega)]; exact mf _ _ (by omega)
    · rw [z_u2 (by omega)]; exact mf _ _ (by omega)
    · rw [z_u2 (by omega), mf _ _ (by omega), n1 _ _ (by omega)]; exact b9
    · rw [z_u2 (by omega), mf _ _ (by omega), n1 _ _ (by omega)]; exact b17
    · rw [z_u2 (by omega), mf _ _ (by omega), n1 _ _ (by omega)]; exact b16
    · rw [z_u2 (by omega)]; exact m0
    · rw [z_u2 (by omega)]; exact m1
    · rw [z_u2 (by omega)]; exact m2
    · rw [z_u2 (by omega)]; exact m3
    · rw [z_u2 (by omega)]; exact m6
    · rw [z_u2 (by omega)]; exact mz 2444 (by omega) (by omega) (by omega)
    · rw [z_u2 (by omega)]; exact mz 2445 (by omega) (by omega) (by omega)
    · rw [z_u2 (by omega), mf _ _ (by omega), n1 _ _ (by omega)]; exact bf c i k1 (by omega)
  -- what the class has so far
  have x37 : ∀ c i, 37 ≤ c → c ≤ 45 → gx3 c i = gx1 c i := fun c i k1 k2 => by rw [e3 c i (by omega), e2 c i (by omega), z_u2 (by omega), z_u2 (by omega), z_u2 (by omega)]
  have xo : ∀ c i, ¬ (37 ≤ c ∧ c ≤ 45) → ¬ (c = 9 ∧ 2 ≤ i ∧ i ≤ 4) → ¬ (c = 10 ∧ 2 ≤ i ∧ i ≤ 10) → gx3 c i = gx c i := fun c i k1 k2 k3 => by rw [e3 c i (by omega), e2 c i (by omega), z_u2 (by omega), z_u2 (by omega), z_u2 (by omega), e1 c i k1]
  have y2 : gx3 9 2 = 0 := by rw [e3 _ _ (by omega), e2 _ _ (by omega), z_u2 (by omega), z_u2 (by omega), z_u1]
  have y3 : gx3 9 3 = 0 := by rw [e3 _ _ (by omega), e2 _ _ (by omega), z_u2 (by omega), z_u1]
  have y4 : gx3 9 4 = 0 := by rw [e3 _ _ (by omega), e2 _ _ (by omega), z_u1]
  have hB3 : cB gx3 := by
    refine ⟨?_, ?_, ?_⟩
    · rw [x37 _ _ (by omega) (by omega), u3]; omega
    · rw [x37 _ _ (by omega) (by omega), x37 _ _ (by omega) (by omega), x37 _ _ (by omega) (by omega), x37 _ _ (by omega) (by omega), q0, q1, q2, q3]; exact n_sp_root
    · rw [x37 _ _ (by omega) (by omega), x37 _ _ (by omega) (by omega), q1, q3]; omega
  have hT3 : cT gx3 := ⟨Or.inl y2, Or.inl y3, Or.inl y4⟩
  have sR3 : ∀ gm3, kS gx3 gm3 → gm3 0 17 = 0 → gm3 0 16 = -1 → gm3 0 18 = 0 → gm3 1 2440 = 4 → gm3 1 2441 = 5 → gm3 1 2442 = 1 → gm3 1 2443 = 2 → gm3 1 2444 = 0 → sR gx3 gm3 := by
    intro gm3 hs b17 b16 b18 m0 m1 m2 m3 m4
    refine ⟨⟨hs, by rw [e3 _ _ (by omega)]; exact l9, by rw [e3 _ _ (by omega)]; exact l10, b17, b16⟩, ⟨⟨?_, ?_, ?_, ?_, ?_, ?_⟩, ⟨?_, ?_, ?_, ?_, ?_⟩, jP_iff.mpr ⟨?_, by omega, by omega, fun k k0 k1 => by exfalso; omega, fun j k j0 j1 k1 => by exfalso; omega⟩⟩, by omega⟩
    · show gx3 37 0 = gm3 1 2441
      rw [x37 _ _ (by omega) (by omega), p0, m1]
    · show 1 ≤ gm3 1 2441
      omega
    · show gm3 1 2441 ≤ 200
      omega
    · show gx3 37 1 = gm3 1 2440
      rw [x37 _ _ (by omega) (by omega), p1, m0]
    · show 0 ≤ gm3 1 2440
      omega
    · show gm3 1 2440 ≤ 16
      omega
    · exact hB3.2.1
    · show gx3 38 0 + gx3 38 2 = gm3 1 2442
      rw [x37 _ _ (by omega) (by omega), x37 _ _ (by omega) (by omega), q0, q2, m2]; rfl
    · show gx3 38 1 + gx3 38 3 = gm3 1 2443
      rw [x37 _ _ (by omega) (by omega), x37 _ _ (by omega) (by omega), q1, q3, m3]; rfl
    · show gm3 1 2443 ≤ 9999
      omega
    · show gx3 38 4 = n_D (gm3 1 2442) (gm3 1 2443)
      rw [x37 _ _ (by omega) (by omega), q4, m2, m3, n_D_root]
    · rw [x37 _ _ (by omega) (by omega), u3, m4]
  sorry

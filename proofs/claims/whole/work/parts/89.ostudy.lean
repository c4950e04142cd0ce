/-! ## study -/
theorem n_D_root : n_D 1 2 = 0 := by
  have := (n_D_zero n_sp_root).1.mpr rfl
  exact this
theorem s_up610 {Y : z_X} {K : Nat} {τ g : z_G} {Q : z_P} (hm : z_lay Y K τ 0 z_SM z_RM) (hq : ∀ g', (∀ i, 0 ≤ i → i < 610 → g' 1 i = g 1 (2440 + i)) → (∀ c i, ¬ (c = 1 ∧ 0 ≤ i ∧ i < 610) → g' c i = g c i) → z_O Y 2 m_M_taken [(2, 0), (0, g' 1 4)] K τ g' (fun r0 g0 => Q r0 g0)) : L_M_study_66 Y K τ 0 g Q := by
  have L : ∀ (m : Nat) (x : Int) (g1 : z_G), x + m = 610 → 0 ≤ x → (∀ i, 0 ≤ i → i < x → g1 1 i = g 1 (2440 + i)) → (∀ c i, ¬ (c = 1 ∧ 0 ≤ i ∧ i < x) → g1 c i = g c i) → L_M_study_66 Y K τ x g1 Q := by
    intro m
    induction m with
    | zero =>
      intro x g1 e1 e2 h1 hf
      exact b_M_study_66 hm ⟨fun _ => hq g1 (fun i i1 i2 => h1 i i1 (by omega)) (fun c i hc => hf c i (by omega)), fun z => by exfalso; omega⟩
    | succ m ih =>
      intro x g1 e1 e2 h1 hf
      refine b_M_study_66 hm ⟨fun z => by exfalso; omega, fun _ => ⟨by omega, by omega, by omega, by omega, ih (x + 1) _ (by omega) (by omega) (fun i i1 i2 => ?_) (fun c i hc => by rw [z_u2 (by omega)]; exact hf c i (by omega))⟩⟩
      by_cases c : i = x
      · subst c; rw [z_u1]; exact hf 1 _ (by omega)
      · rw [z_u2 (by omega)]; exact h1 i i1 (by omega)
  exact L 610 0 g (by omega) (by omega) (fun i i1 i2 => by exfalso; omega) (fun _ _ _ => rfl)
theorem o_study {X Y : z_X} {N K : Nat} {σ τ gx gm : z_G} (hx : z_lay X N σ 0 z_SF z_RF) (hm : z_lay Y K τ 0 z_SM z_RM) (hSX : z_St X N σ) (hSY : z_St Y K τ) (I : Inv gx gm) {a1 : Int} (r1 : -2147483648 ≤ a1 ∧ a1 ≤ 2147483647) : z_O X 13 m_F_study [(2, 0), (0, a1)] N σ gx (fun r gx' => z_O Y 12 m_M_study [(2, 0), (0, a1)] K τ gm (fun r' gm' => r' = r ∧ Inv gx' gm')) := by
  obtain ⟨i1, i2, i3, i4, i5⟩ := id I
  have hF := i4.2.1
  have hb : iB (fX gx 23) (fM gm 0) := I.2.2.2.1.2.2.2.2.2.2.1
  have f1 : gx 10 1 = gm 0 9 := hF.1
  have f2 : 0 ≤ gm 0 9 := hF.2.1
  have f3 : gm 0 9 ≤ 900 := hF.2.2.1
  have no : ∀ g : z_G, (¬ (0 ≤ a1 ∧ a1 ≤ gm 0 9)) → z_O Y 12 m_M_study [(2, 0), (0, a1)] K τ gm (fun r' gm' => r' = -1 ∧ Inv (z_up gx 0 0 1) gm') := fun _ z => by
    refine b_M_study_0 hm (b_M_begins_0 hm ⟨fun _ => fun _ => ⟨fun _ => ⟨rfl, I.fin xA.rf yA.rf i5 1⟩, fun y => absurd rfl y⟩, fun c => ⟨fun _ => fun _ => ⟨fun _ => ⟨rfl, I.fin xA.rf yA.rf i5 1⟩, fun y => absurd rfl y⟩, fun c2 => by exfalso; omega⟩⟩)
  refine b_F_study_0 hx ⟨fun c => no gx (by omega), fun c => ⟨fun c2 => ?_, fun c2 => no gx (by omega)⟩⟩
  refine b_Pa_readStudy_0 (p1 := 37) hx (ky_F_37 hx) (s_clear37 hx fun gx1 p0 p1 q0 q1 q2 q3 q4 u3 v0 e1 => s_start hx (by omega) fun gx2 l2 l3 l9 l10 e2 => s_adv hx (by omega) fun gx3 e3 hA3 _ hN3 => ?_)
  -- the reference so far
  have beg : ∀ Q : z_P, (∀ gm3, kS gx3 gm3 → gm3 0 9 = 0 → gm3 0 17 = 0 → gm3 0 16 = -1 → gm3 0 18 = 0 → gm3 1 2440 = 4 → gm3 1 2441 = 5 → gm3 1 2442 = 1 → gm3 1 2443 = 2 → gm3 1 2446 = -1 → gm3 1 2444 = 0 → gm3 1 2445 = 0 → (∀ c i, c ≠ 6 → ¬ (c = 0 ∧ (9 ≤ i ∧ i ≤ 14 ∨ 16 ≤ i ∧ i ≤ 18)) → ¬ (c = 1 ∧ 2440 ≤ i ∧ i < 3050) → gm3 c i = gm c i) → L_M_study_31 Y K τ 1 gm3 Q) → z_O Y 12 m_M_study [(2, 0), (0, a1)] K τ gm Q := by
    intro Q hQ
    refine b_M_study_0 hm (b_M_begins_0 hm ⟨fun z => absurd z c, fun _ => ⟨fun z => by exfalso; omega, fun _ => ⟨fun _ => s_begins hm (by omega) (fun i j1 j2 => (hF.2.2.2 i j1 (by omega)).2) fun g1 b6 b10 b9 b17 b16 b13 bf => nx_N (gx := gx3) hm (hN3 g1 (by omega) (fun i j1 j2 => ?_) (by omega)) fun g2 n1 n2 => fun _ => ⟨fun z => absurd z (by decide), fun _ => s_plain hm fun g3 m0 m1 m2 m3 m6 mz mf => hQ _ (n2.c (fun _ _ _ => rfl) (fun _ => rfl) (fun i j1 j2 => ?_) (fun i => ?_)) ?_ ?_ ?_ z_u1 ?_ ?_ ?_ ?_ ?_ ?_ ?_ fun c i k1 k2 k3 => ?_⟩, fun z => by exfalso; omega⟩⟩⟩)
    · have t := (hF.2.2.2 i j1 (by omega)).1
      rw [b6 i j1 (by omega), e2 11 i (by omega), z_u2 (by omega), z_u2 (by omega), z_u2 (by omega), e1 11 i (by omega)]
      exact t
    · rw [z_u2 (by omega)]; exact mf _ _ (by omega)
    · rw [z_u2 (by omega)]; exact mf _ _ (by omega)
    · rw [z_u2 (by omega), mf _ _ (by omega), n1 _ _ (by omega)]; exact b9
    · rw [z_u2 (by omega), mf _ _ (by omega), n1 _ _ (by omega)]; exact b17
    · rw [z_u2 (by omega), mf _ _ (by omega), n1 _ _ (by omega)]; exact b16
    · rw [z_u2 (by omega)]; exact m0
    · rw [z_u2 (by omega)]; exact m1
    · rw [z_u2 (by omega)]; exact m2
    · rw [z_u2 (by omega)]; exact m3
    · rw [z_u2 (by omega)]; exact m6
    · rw [z_u2 (by omega)]; exact mz 2444 (by omega) (by omega) (by omega)
    · rw [z_u2 (by omega)]; exact mz 2445 (by omega) (by omega) (by omega)
    · rw [z_u2 (by omega), mf _ _ (by omega), n1 _ _ (by omega)]; exact bf c i k1 (by omega)
  -- what the class has so far
  have x37 : ∀ c i, 37 ≤ c → c ≤ 45 → gx3 c i = gx1 c i := fun c i k1 k2 => by rw [e3 c i (by omega), e2 c i (by omega), z_u2 (by omega), z_u2 (by omega), z_u2 (by omega)]
  have xo : ∀ c i, ¬ (37 ≤ c ∧ c ≤ 45) → ¬ (c = 9 ∧ 2 ≤ i ∧ i ≤ 4) → ¬ (c = 10 ∧ 2 ≤ i ∧ i ≤ 10) → gx3 c i = gx c i := fun c i k1 k2 k3 => by rw [e3 c i (by omega), e2 c i (by omega), z_u2 (by omega), z_u2 (by omega), z_u2 (by omega), e1 c i k1]
  have y2 : gx3 9 2 = 0 := by rw [e3 _ _ (by omega), e2 _ _ (by omega), z_u2 (by omega), z_u2 (by omega), z_u1]
  have y3 : gx3 9 3 = 0 := by rw [e3 _ _ (by omega), e2 _ _ (by omega), z_u2 (by omega), z_u1]
  have y4 : gx3 9 4 = 0 := by rw [e3 _ _ (by omega), e2 _ _ (by omega), z_u1]
  have hB3 : cB gx3 := by
    refine ⟨?_, ?_, ?_⟩
    · rw [x37 _ _ (by omega) (by omega), u3]; omega
    · rw [x37 _ _ (by omega) (by omega), x37 _ _ (by omega) (by omega), x37 _ _ (by omega) (by omega), x37 _ _ (by omega) (by omega), q0, q1, q2, q3]; exact n_sp_root
    · rw [x37 _ _ (by omega) (by omega), x37 _ _ (by omega) (by omega), q1, q3]; omega
  have hT3 : cT gx3 := ⟨Or.inl y2, Or.inl y3, Or.inl y4⟩
  have sR3 : ∀ gm3, kS gx3 gm3 → gm3 0 17 = 0 → gm3 0 16 = -1 → gm3 0 18 = 0 → gm3 1 2440 = 4 → gm3 1 2441 = 5 → gm3 1 2442 = 1 → gm3 1 2443 = 2 → gm3 1 2444 = 0 → sR gx3 gm3 := by
    intro gm3 hs b17 b16 b18 m0 m1 m2 m3 m4
    refine ⟨⟨hs, by rw [e3 _ _ (by omega)]; exact l9, by rw [e3 _ _ (by omega)]; exact l10, b17, b16⟩, ⟨⟨?_, ?_, ?_, ?_, ?_, ?_⟩, ⟨?_, ?_, ?_, ?_, ?_⟩, jP_iff.mpr ⟨?_, by omega, by omega, fun k k0 k1 => by exfalso; omega, fun j k j0 j1 k1 => by exfalso; omega⟩⟩, by omega⟩
    · show gx3 37 0 = gm3 1 2441
      rw [x37 _ _ (by omega) (by omega), p0, m1]
    · show 1 ≤ gm3 1 2441
      omega
    · show gm3 1 2441 ≤ 200
      omega
    · show gx3 37 1 = gm3 1 2440
      rw [x37 _ _ (by omega) (by omega), p1, m0]
    · show 0 ≤ gm3 1 2440
      omega
    · show gm3 1 2440 ≤ 16
      omega
    · exact hB3.2.1
    · show gx3 38 0 + gx3 38 2 = gm3 1 2442
      rw [x37 _ _ (by omega) (by omega), x37 _ _ (by omega) (by omega), q0, q2, m2]; rfl
    · show gx3 38 1 + gx3 38 3 = gm3 1 2443
      rw [x37 _ _ (by omega) (by omega), x37 _ _ (by omega) (by omega), q1, q3, m3]; rfl
    · show gm3 1 2443 ≤ 9999
      omega
    · show gx3 38 4 = n_D (gm3 1 2442) (gm3 1 2443)
      rw [x37 _ _ (by omega) (by omega), q4, m2, m3, n_D_root]
    · rw [x37 _ _ (by omega) (by omega), u3, m4]
  have m03 : ∀ gm' : z_G, (∀ c i, c ≠ 6 → ¬ (c = 0 ∧ (9 ≤ i ∧ i ≤ 14 ∨ 16 ≤ i ∧ i ≤ 18)) → ¬ (c = 1 ∧ 2440 ≤ i ∧ i < 3050) → gm' c i = gm c i) → mC gm' := fun gm' h => i5.congr (fun i => h 8 i (by omega) (by omega) (by omega)) (fun i => h 9 i (by omega) (by omega) (by omega)) (h 0 24 (by omega) (by omega) (by omega)) (h 0 25 (by omega) (by omega) (by omega))
  refine t_study hx hm hSX hSY (gx0 := gx3) (n := a1) (R := fun g => g 0 9 = 0 ∧ g 1 2445 = 0 ∧ g 1 2446 = -1 ∧ ∀ c i, c ≠ 6 → ¬ (c = 0 ∧ (9 ≤ i ∧ i ≤ 14 ∨ 16 ≤ i ∧ i ≤ 18)) → ¬ (c = 1 ∧ 2440 ≤ i ∧ i < 3050) → g c i = gm c i) (fun g g' h j => ⟨by rw [j 0 9 (by omega) (by omega)]; exact h.1, by rw [j 1 2445 (by omega) (by omega)]; exact h.2.1, by rw [j 1 2446 (by omega) (by omega)]; exact h.2.2.1, fun c i k1 k2 k3 => by rw [j c i (by omega) (by omega)]; exact h.2.2.2 c i k1 k2 k3⟩) (W := fun Q => z_O Y 12 m_M_study [(2, 0), (0, a1)] K τ gm Q) (fun gx' fq hA' hB' hT' hM => ?_) (fun gx' fq hM => ?_) a1.toNat 0 gx3 (by omega) (by omega) hA3.1 (by rw [e3 _ _ (by omega)]; exact l2) (fun _ _ _ _ _ _ _ => rfl) hA3 hB3 hT3 (fun Q hQ => beg Q fun gm3 hs b9 b17 b16 b18 m0 m1 m2 m3 m6 m4 m5 mf => hQ gm3 (sR3 gm3 hs b17 b16 b18 m0 m1 m2 m3 m4) ⟨b9, m5, m6, mf⟩)
  · -- all was read
    have lt := n_sp_lt hB'.2.1
    have b9 := hB'.2.2
    refine s_startAt hx (T := gx' 38 0 + gx' 38 2) (B := gx' 38 1 + gx' 38 3) rfl rfl (by omega) (by omega) fun gx4 w1 we => fun _ => b_F_noteFault_0 hx ⟨fun z => absurd z (by decide), fun _ => s_Bd_copyFrom (o := 23) (p := 37) (ky_F_23 hx) (ky_F_37 hx) (by omega) fun gx5 d1 d2 => hM _ fun gm4 hs hr => ?_⟩
    obtain ⟨r9, r45, r46, rf⟩ := hr
    have hW := hs.2.1.2.1
    have wT : gx' 38 0 + gx' 38 2 = gm4 1 2442 := hW.2.1
    have wB : gx' 38 1 + gx' 38 3 = gm4 1 2443 := hW.2.2.1
    have k17 := hs.1.2.2.2.1
    have k16 := hs.1.2.2.2.2
    refine s_M_sees hm (s := 2440) (T := gx' 38 0 + gx' 38 2) (B := gx' 38 1 + gx' 38 3) (by omega) wT.symm wB.symm (by omega) (by omega) ⟨by show 0 ≤ gm4 1 2445; omega, by show gm4 1 2445 ≤ 200; omega⟩ fun gm5 n1 ne => ⟨fun _ => s_up610 hm fun gm6 c1 c2 => b_M_taken_0 hm ⟨fun _ => ?_, fun z => ?_⟩, fun z => ?_⟩
    rotate_left
    · have : gm6 0 17 = 0 := by rw [c2 _ _ (by omega), n1 _ _ (by omega)]; exact k17
      exfalso; omega
    · have : gm5 0 17 = 0 := by rw [n1 _ _ (by omega)]; exact k17
      exact absurd this z
    have G : ∀ c i, ¬ (c = 10 ∧ i = 1) → ¬ (c = 0 ∧ (i = 5 ∨ i = 6)) → z_up (z_up (z_up gx4 10 1 0) 0 5 (gx4 10 9)) 0 6 (gx4 10 10) c i = gx4 c i := fun c i k1 k2 => by rw [z_u2 (by omega), z_u2 (by omega), z_u2 (by omega)]
    have x4 : ∀ c i, xK c i → ¬ (23 ≤ c ∧ c ≤ 36) → gx4 c i = gx c i := fun c i k1 k2 => by
      unfold xK at k1
      rw [w1 c i (by omega) (by omega), fq c i (by omega) (by omega) (by omega) (by omega) (by omega)]
      exact xo c i (by omega) (by omega) (by omega)
    have x5 : ∀ c i, xK c i → ¬ (23 ≤ c ∧ c ≤ 36) → ¬ (c = 0 ∧ (i = 5 ∨ i = 6)) → ¬ (c = 10 ∧ i = 1) → z_up gx5 0 0 0 c i = gx c i := fun c i k1 k2 k3 k4 => by
      rw [z_u2 (by unfold xK at k1; omega), d2 c i (by omega), G c i k4 k3]; exact x4 c i k1 k2
    have y6 : ∀ c i, c ≠ 6 → ¬ (c = 0 ∧ (9 ≤ i ∧ i ≤ 14 ∨ 16 ≤ i ∧ i ≤ 18)) → ¬ (c = 1 ∧ 2440 ≤ i ∧ i < 3050) → ¬ (c = 1 ∧ 0 ≤ i ∧ i < 610) → gm6 c i = gm c i := fun c i k1 k2 k3 k4 => by
      rw [c2 c i k4, n1 c i (by omega)]; exact rf c i k1 k2 k3
    have e17 : gm6 0 17 = 0 := by rw [c2 _ _ (by omega), n1 _ _ (by omega)]; exact k17
    have e16 : gm6 0 16 = -1 := by rw [c2 _ _ (by omega), n1 _ _ (by omega)]; exact k16
    have e9 : gm6 0 9 = 0 := by rw [c2 _ _ (by omega), n1 _ _ (by omega)]; exact r9
    have k9 : gx4 10 9 = 0 := by rw [w1 _ _ (by omega) (by omega)]; exact hs.1.2.1
    have k10 : gx4 10 10 = -1 := by rw [w1 _ _ (by omega) (by omega)]; exact hs.1.2.2.1
    have pm := (jP_iff.mp hs.2.1.2.2).1
    -- the board that was read
    have hb4 : iB (fX gx4 37) (fM gm5 2440) := by
      refine ⟨hs.2.1.1.c (fun i => w1 _ _ (by omega) (by omega)) (fun i j1 j2 => n1 _ _ (by omega)), hs.2.1.2.1.c (fun i => w1 _ _ (by omega) (by omega)) (fun i j1 j2 => n1 _ _ (by omega)), hs.2.1.2.2.c (fun j i j1 j2 => w1 _ _ (by omega) (by omega)) (fun i j1 => n1 _ _ (by omega)), ?_, Or.inl ⟨?_, ?_⟩⟩
      · have h0 : iV (fun j => if j = 6 then (fun _ => 0) else gx' 44) (fM gm4 2440) := by
          have z : fM gm4 2440 5 = 0 := r45
          unfold iV
          rw [z]
          exact ⟨rfl, by omega, by omega, fun i j j0 j1 j2 => by exfalso; omega, fun i j0 j1 => by exfalso; omega, fun i j0 j1 => by exfalso; omega, fun i j j0 j1 j2 => by exfalso; omega⟩
        exact h0.step we ne
      · show gx4 45 0 = 0
        rw [w1 _ _ (by omega) (by omega), fq _ _ (by omega) (by omega) (by omega) (by omega) (by omega), x37 _ _ (by omega) (by omega)]; exact v0
      · show gm5 1 2446 = -1
        rw [n1 _ _ (by omega)]; exact r46
    have hb5 : iB (fX (z_up gx5 0 0 0) 23) (fM (z_up (z_up gm6 0 15 (gm6 0 17)) 0 1 0) 0) := by
      refine (hb4.fine (fx' := fX (z_up gx5 0 0 0) 23) fun j i hj => ?_).congr (fun _ _ _ => rfl) (fun i j1 j2 => ?_)
      · show z_up gx5 0 0 0 (23 + j) i = gx4 (37 + j) i
        rw [z_u2 (by omega), d1 j i hj, G _ _ (by omega) (by omega)]
      · show z_up (z_up gm6 0 15 (gm6 0 17)) 0 1 0 1 (0 + i) = gm5 1 (2440 + i)
        rw [z_u2 (by omega), z_u2 (by omega), Int.zero_add]; exact c1 i j1 (by omega)
    refine ⟨?_, by rw [z_u1, z_u1], ?_, ?_, i4.text x5 (fun c i k1 k2 k3 => ?_) hb5 ⟨?_, ?_⟩ ⟨?_, ?_⟩, ?_⟩
    · rw [c1 4 (by omega) (by omega)]
      show gm5 1 2444 = gx5 25 3
      rw [n1 _ _ (by omega), d1 2 3 (by unfold bR; omega), G _ _ (by omega) (by omega), w1 _ _ (by omega) (by omega)]
      exact pm.symm
    · rw [x5 0 1 (by unfold xK; omega) (by omega) (by omega) (by omega), z_u2 (by omega), z_u2 (by omega), y6 _ _ (by omega) (by omega) (by omega) (by omega)]; exact i2
    · rw [x5 0 2 (by unfold xK; omega) (by omega) (by omega) (by omega), z_u2 (by omega), z_u2 (by omega), y6 _ _ (by omega) (by omega) (by omega) (by omega)]; exact i3
    · unfold yK at k1
      rw [z_u2 (by omega), z_u2 (by omega)]; exact y6 c i (by omega) (by omega) (by omega) (by omega)
    · rw [z_u2 (by omega), d2 _ _ (by omega), z_u2 (by omega), z_u2 (by omega), z_u1]
    · rw [z_u2 (by omega), z_u2 (by omega)]; exact e9
    · rw [z_u2 (by omega), d2 _ _ (by omega), z_u2 (by omega), z_u1, z_u2 (by omega), z_u1, k9, e17]
    · rw [z_u2 (by omega), d2 _ _ (by omega), z_u1, z_u2 (by omega), z_u2 (by omega), k10, e16]
    · exact i5.congr (fun i => by rw [z_u2 (by omega), z_u2 (by omega)]; exact y6 8 i (by omega) (by omega) (by omega) (by omega)) (fun i => by rw [z_u2 (by omega), z_u2 (by omega)]; exact y6 9 i (by omega) (by omega) (by omega) (by omega)) (by rw [z_u2 (by omega), z_u2 (by omega)]; exact y6 0 24 (by omega) (by omega) (by omega) (by omega)) (by rw [z_u2 (by omega), z_u2 (by omega)]; exact y6 0 25 (by omega) (by omega) (by omega) (by omega))
  · -- a fault
    refine fun _ => b_F_noteFault_0 hx ⟨fun _ => hM _ fun gm4 hs hr => ?_, fun z => absurd rfl z⟩
    obtain ⟨r9, r45, r46, rf⟩ := hr
    obtain ⟨⟨s9, s17, s7, s10⟩, sT, sB⟩ := hs
    refine s_M_sees hm (s := 2440) (T := gm4 1 2442) (B := gm4 1 2443) (by omega) rfl rfl sT sB ⟨by show 0 ≤ gm4 1 2445; omega, by show gm4 1 2445 ≤ 200; omega⟩ fun gm5 n1 ne => ⟨fun z => ?_, fun z => b_M_taken_0 hm ⟨fun y => ?_, fun _ => ⟨rfl, ?_⟩⟩⟩
    · rw [n1 _ _ (by omega)] at z; exfalso; omega
    · rw [n1 _ _ (by omega)] at y; exfalso; omega
    have G : ∀ c i, ¬ (c = 10 ∧ i = 1) → ¬ (c = 0 ∧ (i = 5 ∨ i = 6)) → z_up (z_up (z_up gx' 10 1 0) 0 5 (gx' 10 9)) 0 6 (gx' 10 10) c i = gx' c i := fun c i k1 k2 => by rw [z_u2 (by omega), z_u2 (by omega), z_u2 (by omega)]
    have x5 : ∀ c i, xK c i → ¬ (c = 0 ∧ (i = 5 ∨ i = 6)) → ¬ (c = 10 ∧ i = 1) → z_up (z_up (z_up (z_up gx' 10 1 0) 0 5 (gx' 10 9)) 0 6 (gx' 10 10)) 0 0 9 c i = gx c i := fun c i k1 k3 k4 => by
      unfold xK at k1
      rw [z_u2 (by omega), G c i k4 k3, fq c i (by omega) (by omega) (by omega) (by omega) (by omega)]
      exact xo c i (by omega) (by omega) (by omega)
    have y6 : ∀ c i, c ≠ 6 → ¬ (c = 0 ∧ (9 ≤ i ∧ i ≤ 14 ∨ 16 ≤ i ∧ i ≤ 18)) → ¬ (c = 1 ∧ 2440 ≤ i ∧ i < 3050) → gm5 c i = gm c i := fun c i k1 k2 k3 => by
      rw [n1 c i (by omega)]; exact rf c i k1 k2 k3
    refine ⟨by rw [z_u1, z_u1], ?_, ?_, i4.text (fun c i k1 k2 k3 k4 => x5 c i k1 k3 k4) (fun c i k1 k2 k3 => ?_) (hb.congr (fun j i hj => x5 _ _ (by unfold xK; omega) (by omega) (by omega)) (fun i j1 j2 => ?_)) ⟨?_, ?_⟩ ⟨?_, ?_⟩, ?_⟩
    · rw [x5 0 1 (by unfold xK; omega) (by omega) (by omega), z_u2 (by omega), z_u2 (by omega), y6 _ _ (by omega) (by omega) (by omega)]; exact i2
    · rw [x5 0 2 (by unfold xK; omega) (by omega) (by omega), z_u2 (by omega), z_u2 (by omega), y6 _ _ (by omega) (by omega) (by omega)]; exact i3
    · unfold yK at k1
      rw [z_u2 (by omega), z_u2 (by omega)]; exact y6 c i (by omega) (by omega) (by omega)
    · show z_up (z_up gm5 0 15 (gm5 0 17)) 0 1 9 1 (0 + i) = gm 1 (0 + i)
      rw [z_u2 (by omega), z_u2 (by omega)]; exact y6 _ _ (by omega) (by omega) (by omega)
    · rw [z_u2 (by omega), z_u2 (by omega), z_u2 (by omega), z_u1]
    · rw [z_u2 (by omega), z_u2 (by omega), n1 _ _ (by omega)]; exact r9
    · rw [z_u2 (by omega), z_u2 (by omega), z_u1, z_u2 (by omega), z_u1, n1 _ _ (by omega)]; exact s9
    · rw [z_u2 (by omega), z_u1, z_u2 (by omega), z_u2 (by omega), n1 _ _ (by omega)]; exact s10
    · exact i5.congr (fun i => by rw [z_u2 (by omega), z_u2 (by omega)]; exact y6 8 i (by omega) (by omega) (by omega)) (fun i => by rw [z_u2 (by omega), z_u2 (by omega)]; exact y6 9 i (by omega) (by omega) (by omega)) (by rw [z_u2 (by omega), z_u2 (by omega)]; exact y6 0 24 (by omega) (by omega) (by omega)) (by rw [z_u2 (by omega), z_u2 (by omega)]; exact y6 0 25 (by omega) (by omega) (by omega))

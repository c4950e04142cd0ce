/-! ## tours -/
theorem o_tours {X Y : z_X} {N K : Nat} {σ τ gx gm : z_G} (hx : z_lay X N σ 0 z_SF z_RF) (hm : z_lay Y K τ 0 z_SM z_RM) (hSX : z_St X N σ) (hSY : z_St Y K τ) (I : Inv gx gm) {a1 : Int} (r1 : -2147483648 ≤ a1 ∧ a1 ≤ 2147483647) : z_O X 13 m_F_tours [(2, 0), (0, a1)] N σ gx (fun r gx' => z_O Y 13 m_M_tours [(2, 0), (0, a1)] K τ gm (fun r' gm' => r' = r ∧ Inv gx' gm')) := by
  obtain ⟨i1, i2, i3, i4, i5⟩ := id I
  have hF := i4.2.1
  have hb : iB (fX gx 23) (fM gm 0) := I.2.2.2.1.2.2.2.2.2.2.1
  have f1 : gx 10 1 = gm 0 9 := hF.1
  have f2 : 0 ≤ gm 0 9 := hF.2.1
  have f3 : gm 0 9 ≤ 900 := hF.2.2.1
  have no : (¬ (0 ≤ a1 ∧ a1 ≤ gm 0 9 ∧ a1 ≤ 300)) → z_O Y 13 m_M_tours [(2, 0), (0, a1)] K τ gm (fun r' gm' => r' = -1 ∧ Inv (z_up gx 0 0 1) gm') := fun z => by
    have g : ∀ r : Int, r = 0 → (r = 0 ∨ r = 1) → ((r = 0 → (-1 : Int) = -1 ∧ Inv (z_up gx 0 0 1) (z_up gm 0 1 1)) ∧ (¬ r = 0 → L_M_tours_38 Y K τ 1 (z_up (z_up (z_up gm 1 2446 0) 0 20 0) 0 21 0) (fun r' gm' => r' = -1 ∧ Inv (z_up gx 0 0 1) gm'))) := fun r hr _ => ⟨fun _ => ⟨rfl, I.fin xA.rf yA.rf i5 1⟩, fun y => absurd hr y⟩
    refine b_M_tours_0 hm (b_M_begins_0 hm ⟨fun _ => g 0 rfl, fun c => ⟨fun _ => g 0 rfl, fun c2 => ⟨fun c3 => by exfalso; omega, fun _ => g 0 rfl⟩⟩⟩)
  refine b_F_tours_0 hx ⟨fun c => no (by omega), fun c => ⟨fun c2 => no (by omega), fun c2 => ⟨fun c3 => ?_, fun c3 => no (by omega)⟩⟩⟩
  refine b_Pa_readTours_0 (p1 := 45) hx (ky_F_45 hx) (b_Pg_clear_0 (o := 45) (ky_F_45 hx) (s_start hx (by omega) fun gx2 l2 l3 l9 l10 e2 => s_adv hx (by omega) fun gx3 e3 hA3 _ hN3 => ?_))
  have y450 : gx3 45 1 = 0 := by rw [e3 _ _ (by omega), e2 _ _ (by omega), z_u2 (by omega), z_u2 (by omega), z_u1]
  have y452 : gx3 45 2 = 0 := by rw [e3 _ _ (by omega), e2 _ _ (by omega), z_u2 (by omega), z_u1]
  have y96 : gx3 9 6 = 0 := by rw [e3 _ _ (by omega), e2 _ _ (by omega), z_u1]
  have xo : ∀ c i, ¬ (c = 45 ∧ 0 ≤ i ∧ i ≤ 2) → ¬ (c = 9 ∧ i = 6) → ¬ (c = 10 ∧ 2 ≤ i ∧ i ≤ 10) → gx3 c i = gx c i := fun c i k1 k2 k3 => by rw [e3 c i (by omega), e2 c i (by omega), z_u2 (by omega), z_u2 (by omega), z_u2 (by omega), z_u2 (by omega)]
  have hG3 : cG gx3 := ⟨by omega, by omega, by omega, by omega, fun j j0 j1 => by exfalso; omega⟩
  -- the reference so far
  have beg : ∀ Q : z_P, (∀ gm3, gR gx3 gm3 → (gm3 0 9 = 0 ∧ ∀ c i, c ≠ 6 → c ≠ 7 → ¬ (c = 0 ∧ (9 ≤ i ∧ i ≤ 14 ∨ 16 ≤ i ∧ i ≤ 17 ∨ i = 20 ∨ i = 21)) → ¬ (c = 1 ∧ 2440 ≤ i ∧ i < 3050) → gm3 c i = gm c i) → L_M_tours_38 Y K τ 1 gm3 Q) → z_O Y 13 m_M_tours [(2, 0), (0, a1)] K τ gm Q := by
    intro Q hQ
    refine b_M_tours_0 hm (b_M_begins_0 hm ⟨fun z => absurd z c, fun _ => ⟨fun z => by exfalso; omega, fun _ => ⟨fun _ => s_begins hm (by omega) (fun i j1 j2 => (hF.2.2.2 i j1 (by omega)).2) fun g1 b6 b10 b9 b17 b16 b13 bf => nx_N (gx := gx3) hm (hN3 g1 (by omega) (fun i j1 j2 => ?_) (by omega)) fun g2 n1 n2 => fun _ => ⟨fun z => absurd z (by decide), fun _ => hQ _ ⟨⟨n2.c (fun _ _ _ => rfl) (fun _ => rfl) (fun i j1 j2 => ?_) (fun i => ?_), ?_, ?_, ?_, ?_⟩, ?_, ?_, ?_, fun j j0 j1 => by exfalso; omega, ?_⟩ ⟨?_, fun c i k1 k2 k3 k4 => ?_⟩⟩, fun z => by exfalso; omega⟩⟩⟩)
    · have t := (hF.2.2.2 i j1 (by omega)).1
      rw [b6 i j1 (by omega), e2 11 i (by omega), z_u2 (by omega), z_u2 (by omega), z_u2 (by omega), z_u2 (by omega)]
      exact t
    · rw [z_u2 (by omega), z_u2 (by omega), z_u2 (by omega)]
    · rw [z_u2 (by omega), z_u2 (by omega), z_u2 (by omega)]
    · rw [e3 _ _ (by omega)]; exact l9
    · rw [e3 _ _ (by omega)]; exact l10
    · rw [z_u2 (by omega), z_u2 (by omega), z_u2 (by omega), n1 _ _ (by omega)]; exact b17
    · rw [z_u2 (by omega), z_u2 (by omega), z_u2 (by omega), n1 _ _ (by omega)]; exact b16
    · rw [y452, z_u2 (by omega), z_u2 (by omega), z_u1]
    · rw [y450, z_u1]
    · rw [y96, z_u2 (by omega), z_u1]
    · rw [y452, y96]
      exact ⟨fun n n0 n1 => by exfalso; omega, fun j j0 j1 => by exfalso; omega, fun j k j0 jk k1 => by exfalso; omega, fun n m n0 nm m1 => by exfalso; omega, fun j n j0 j1 => by exfalso; omega⟩
    · rw [z_u2 (by omega), z_u2 (by omega), z_u2 (by omega), n1 _ _ (by omega)]; exact b9
    · rw [z_u2 (by omega), z_u2 (by omega), z_u2 (by omega), n1 _ _ (by omega)]; exact bf c i k1 (by omega)
  refine t_tours hx hm hSX hSY (gx0 := gx3) (n := a1) (R := fun g => g 0 9 = 0 ∧ ∀ c i, c ≠ 6 → c ≠ 7 → ¬ (c = 0 ∧ (9 ≤ i ∧ i ≤ 14 ∨ 16 ≤ i ∧ i ≤ 17 ∨ i = 20 ∨ i = 21)) → ¬ (c = 1 ∧ 2440 ≤ i ∧ i < 3050) → g c i = gm c i) (fun g g' h j => ⟨by rw [j 0 9 (by omega) (by omega) (by omega)]; exact h.1, fun c i k1 k2 k3 k4 => by rw [j c i (by omega) (by omega) k2]; exact h.2 c i k1 k2 k3 k4⟩) (W := fun Q => z_O Y 13 m_M_tours [(2, 0), (0, a1)] K τ gm Q) (fun gx' fq d0 hG' hM => ?_) (fun gx' fq hM => ?_) a1.toNat 0 gx3 (by omega) (by omega) hA3.1 (by rw [e3 _ _ (by omega)]; exact l2) (fun _ _ _ _ _ _ _ _ => rfl) hA3 hG3 beg
  · -- all was read
    obtain ⟨g1, g2, g3, g4, -⟩ := id hG'
    refine fun _ => b_F_noteFault_0 hx ⟨fun z => absurd z (by decide), fun _ => s_Pg_copyFrom (o := 31) (p := 45) (ky_Bd_8 (ky_F_23 hx)) (ky_F_45 hx) (by omega) fun gx5 d1 d2 d3 => hM _ fun gm4 hs hr => s_up360 hm fun gm6 c1 c2 => b_M_taken_0 hm ⟨fun _ => ?_, fun z => ?_⟩⟩
    rotate_left
    · have : gm6 0 17 = 0 := by rw [c2 _ _ (by omega), z_u2 (by omega)]; exact hs.1.2.2.2.1
      exfalso; omega
    obtain ⟨r9, rf⟩ := hr
    obtain ⟨⟨-, k9, k10, k17, k16⟩, e46, e21, e20, -, gp⟩ := id hs
    have G : ∀ c i, ¬ (c = 10 ∧ i = 1) → ¬ (c = 0 ∧ (i = 5 ∨ i = 6)) → ¬ (c = 45 ∧ i = 0) → z_up (z_up (z_up (z_up gx' 45 0 1) 10 1 0) 0 5 ((z_up gx' 45 0 1) 10 9)) 0 6 ((z_up gx' 45 0 1) 10 10) c i = gx' c i := fun c i k1 k2 k3 => by rw [z_u2 (by omega), z_u2 (by omega), z_u2 (by omega), z_u2 (by omega)]
    have G1 : z_up (z_up (z_up (z_up gx' 45 0 1) 10 1 0) 0 5 ((z_up gx' 45 0 1) 10 9)) 0 6 ((z_up gx' 45 0 1) 10 10) 45 0 = 1 := by rw [z_u2 (by omega), z_u2 (by omega), z_u2 (by omega), z_u1]
    have G2 : z_up (z_up (z_up (z_up gx' 45 0 1) 10 1 0) 0 5 ((z_up gx' 45 0 1) 10 9)) 0 6 ((z_up gx' 45 0 1) 10 10) 10 1 = 0 := by rw [z_u2 (by omega), z_u2 (by omega), z_u1]
    have G3 : z_up (z_up (z_up (z_up gx' 45 0 1) 10 1 0) 0 5 ((z_up gx' 45 0 1) 10 9)) 0 6 ((z_up gx' 45 0 1) 10 10) 0 5 = 0 := by rw [z_u2 (by omega), z_u1, z_u2 (by omega)]; exact k9
    have G4 : z_up (z_up (z_up (z_up gx' 45 0 1) 10 1 0) 0 5 ((z_up gx' 45 0 1) 10 9)) 0 6 ((z_up gx' 45 0 1) 10 10) 0 6 = -1 := by rw [z_u1, z_u2 (by omega)]; exact k10
    generalize z_up (z_up (z_up (z_up gx' 45 0 1) 10 1 0) 0 5 ((z_up gx' 45 0 1) 10 9)) 0 6 ((z_up gx' 45 0 1) 10 10) = gy at *
    have x4 : ∀ c i, xK c i → gx' c i = gx c i := fun c i k1 => by
      unfold xK at k1
      rw [fq c i (by omega) (by omega) (by omega) (by omega) (by omega) (by omega)]
      exact xo c i (by omega) (by omega) (by omega)
    have x5 : ∀ c i, xK c i → ¬ (31 ≤ c ∧ c ≤ 36) → ¬ (c = 0 ∧ (i = 5 ∨ i = 6)) → ¬ (c = 10 ∧ i = 1) → z_up gx5 0 0 0 c i = gx c i := fun c i k1 k2 k3 k4 => by
      rw [z_u2 (by unfold xK at k1; omega), d3 c i (by omega), G c i k4 k3 (by unfold xK at k1; omega)]; exact x4 c i k1
    have y6 : ∀ c i, c ≠ 6 → c ≠ 7 → ¬ (c = 0 ∧ (9 ≤ i ∧ i ≤ 14 ∨ 16 ≤ i ∧ i ≤ 17 ∨ i = 20 ∨ i = 21)) → ¬ (c = 1 ∧ 2440 ≤ i ∧ i < 3050) → ¬ (c = 1 ∧ (i = 6 ∨ 246 ≤ i ∧ i < 606)) → gm6 c i = gm c i := fun c i k1 k2 k3 k4 k5 => by
      rw [c2 c i (by omega), z_u2 (by omega)]; exact rf c i k1 k2 k3 k4
    have e17 : gm6 0 17 = 0 := by rw [c2 _ _ (by omega), z_u2 (by omega)]; exact k17
    have e16 : gm6 0 16 = -1 := by rw [c2 _ _ (by omega), z_u2 (by omega)]; exact k16
    have e9 : gm6 0 9 = 0 := by rw [c2 _ _ (by omega), z_u2 (by omega)]; exact r9
    have m6 : gm6 1 6 = gx' 45 2 := by rw [c2 _ _ (by omega), z_u1]; exact e46.symm
    have L60 : gx' 45 2 ≤ 60 := by omega
    have hb5 : iB (fX (z_up gx5 0 0 0) 23) (fM (z_up (z_up gm6 0 15 (gm6 0 17)) 0 1 0) 0) := by
      refine ⟨hb.1.c (fun i => x5 _ _ (by unfold xK; omega) (by omega) (by omega) (by omega)) (fun i j1 j2 => ?_), hb.2.1.c (fun i => x5 _ _ (by unfold xK; omega) (by omega) (by omega) (by omega)) (fun i j1 j2 => ?_), hb.2.2.1.c (fun j i j1 j2 => x5 _ _ (by unfold xK; omega) (by omega) (by omega) (by omega)) (fun i j1 => ?_), hb.2.2.2.1.c (fun j i j1 j2 => x5 _ _ (by unfold xK; omega) (by omega) (by omega) (by omega)) (fun i j1 => ?_), ?_⟩
      · show z_up (z_up gm6 0 15 (gm6 0 17)) 0 1 0 1 (0 + i) = gm 1 (0 + i)
        rw [z_u2 (by omega), z_u2 (by omega)]; exact y6 _ _ (by omega) (by omega) (by omega) (by omega) (by omega)
      · show z_up (z_up gm6 0 15 (gm6 0 17)) 0 1 0 1 (0 + i) = gm 1 (0 + i)
        rw [z_u2 (by omega), z_u2 (by omega)]; exact y6 _ _ (by omega) (by omega) (by omega) (by omega) (by omega)
      · show z_up (z_up gm6 0 15 (gm6 0 17)) 0 1 0 1 (0 + i) = gm 1 (0 + i)
        rw [z_u2 (by omega), z_u2 (by omega)]; exact y6 _ _ (by omega) (by omega) (by omega) (by omega) (by omega)
      · show z_up (z_up gm6 0 15 (gm6 0 17)) 0 1 0 1 (0 + i) = gm 1 (0 + i)
        rw [z_u2 (by omega), z_u2 (by omega)]; exact y6 _ _ (by omega) (by omega) (by omega) (by omega) (by omega)
      · rw [d0] at gp
        have gq : gP (fX (z_up gx5 0 0 0) 23) (fM (z_up (z_up gm6 0 15 (gm6 0 17)) 0 1 0) 0) (gx' 14) (gx' 45 2) 0 := by
          refine gp.c (fun j i j1 j2 i0 i1 => ?_) (fun i i1 i2 => ?_) (fun j j0 j1 => rfl)
          · show z_up gx5 0 0 0 (23 + j) i = gx' (37 + j) i
            have := d2 (j - 8) i (by omega) (by omega) i0 (by omega)
            rw [show 31 + (j - 8) = 23 + j by omega, show 45 + (j - 8) = 37 + j by omega] at this
            rw [z_u2 (by omega), this]; exact G _ _ (by omega) (by omega) (by omega)
          · show z_up (z_up gm6 0 15 (gm6 0 17)) 0 1 0 1 (0 + i) = gm4 1 (2440 + i)
            rw [z_u2 (by omega), z_u2 (by omega), Int.zero_add, c1 i i1 (by omega), z_u2 (by omega)]
        refine gq.fin ?_ ?_ ?_ g3 L60
        · show z_up gx5 0 0 0 31 0 = 1
          rw [z_u2 (by omega), d1 0 (by omega) (by omega)]; exact G1
        · show z_up gx5 0 0 0 31 2 = z_up (z_up gm6 0 15 (gm6 0 17)) 0 1 0 1 (0 + 6)
          rw [z_u2 (by omega), d1 2 (by omega) (by omega), G _ _ (by omega) (by omega) (by omega), z_u2 (by omega), z_u2 (by omega)]; exact m6.symm
        · show z_up (z_up gm6 0 15 (gm6 0 17)) 0 1 0 1 (0 + 6) = gx' 45 2
          rw [z_u2 (by omega), z_u2 (by omega)]; exact m6
    refine ⟨?_, by rw [z_u1, z_u1], ?_, ?_, i4.text (fun c i k1 k2 k3 k4 => x5 c i k1 (by omega) k3 k4) (fun c i k1 k2 k3 => ?_) hb5 ⟨?_, ?_⟩ ⟨?_, ?_⟩, ?_⟩
    · rw [d1 1 (by omega) (by omega), G _ _ (by omega) (by omega) (by omega), c2 _ _ (by omega), z_u2 (by omega)]; exact e21.symm
    · rw [x5 0 1 (by unfold xK; omega) (by omega) (by omega) (by omega), z_u2 (by omega), z_u2 (by omega), y6 _ _ (by omega) (by omega) (by omega) (by omega) (by omega)]; exact i2
    · rw [x5 0 2 (by unfold xK; omega) (by omega) (by omega) (by omega), z_u2 (by omega), z_u2 (by omega), y6 _ _ (by omega) (by omega) (by omega) (by omega) (by omega)]; exact i3
    · unfold yK at k1
      rw [z_u2 (by omega), z_u2 (by omega)]; exact y6 c i (by omega) (by omega) (by omega) (by omega) (by omega)
    · rw [z_u2 (by omega), d3 _ _ (by omega)]; exact G2
    · rw [z_u2 (by omega), z_u2 (by omega)]; exact e9
    · rw [z_u2 (by omega), d3 _ _ (by omega), G3, z_u2 (by omega), z_u1, e17]
    · rw [z_u2 (by omega), d3 _ _ (by omega), G4, z_u2 (by omega), z_u2 (by omega), e16]
    · exact i5.congr (fun i => by rw [z_u2 (by omega), z_u2 (by omega)]; exact y6 8 i (by omega) (by omega) (by omega) (by omega) (by omega)) (fun i => by rw [z_u2 (by omega), z_u2 (by omega)]; exact y6 9 i (by omega) (by omega) (by omega) (by omega) (by omega)) (by rw [z_u2 (by omega), z_u2 (by omega)]; exact y6 0 24 (by omega) (by omega) (by omega) (by omega) (by omega)) (by rw [z_u2 (by omega), z_u2 (by omega)]; exact y6 0 25 (by omega) (by omega) (by omega) (by omega) (by omega))
  · -- a fault
    refine fun _ => b_F_noteFault_0 hx ⟨fun _ => hM _ fun gm5 hs hr => b_M_taken_0 hm ⟨fun y => ?_, fun _ => ⟨rfl, ?_⟩⟩, fun z => absurd rfl z⟩
    · have := hs.2.1; exfalso; omega
    obtain ⟨r9, y6⟩ := hr
    obtain ⟨s9, s17, s7, s10⟩ := hs
    have G : ∀ c i, ¬ (c = 10 ∧ i = 1) → ¬ (c = 0 ∧ (i = 5 ∨ i = 6)) → z_up (z_up (z_up gx' 10 1 0) 0 5 (gx' 10 9)) 0 6 (gx' 10 10) c i = gx' c i := fun c i k1 k2 => by rw [z_u2 (by omega), z_u2 (by omega), z_u2 (by omega)]
    have x5 : ∀ c i, xK c i → ¬ (c = 0 ∧ (i = 5 ∨ i = 6)) → ¬ (c = 10 ∧ i = 1) → z_up (z_up (z_up (z_up gx' 10 1 0) 0 5 (gx' 10 9)) 0 6 (gx' 10 10)) 0 0 9 c i = gx c i := fun c i k1 k3 k4 => by
      unfold xK at k1
      rw [z_u2 (by omega), G c i k4 k3, fq c i (by omega) (by omega) (by omega) (by omega) (by omega) (by omega)]
      exact xo c i (by omega) (by omega) (by omega)
    refine ⟨by rw [z_u1, z_u1], ?_, ?_, i4.text (fun c i k1 k2 k3 k4 => x5 c i k1 k3 k4) (fun c i k1 k2 k3 => ?_) (hb.congr (fun j i hj => x5 _ _ (by unfold xK; omega) (by omega) (by omega)) (fun i j1 j2 => ?_)) ⟨?_, ?_⟩ ⟨?_, ?_⟩, ?_⟩
    · rw [x5 0 1 (by unfold xK; omega) (by omega) (by omega), z_u2 (by omega), z_u2 (by omega), y6 _ _ (by omega) (by omega) (by omega) (by omega)]; exact i2
    · rw [x5 0 2 (by unfold xK; omega) (by omega) (by omega), z_u2 (by omega), z_u2 (by omega), y6 _ _ (by omega) (by omega) (by omega) (by omega)]; exact i3
    · unfold yK at k1
      rw [z_u2 (by omega), z_u2 (by omega)]; exact y6 c i (by omega) (by omega) (by omega) (by omega)
    · show z_up (z_up gm5 0 15 (gm5 0 17)) 0 1 9 1 (0 + i) = gm 1 (0 + i)
      rw [z_u2 (by omega), z_u2 (by omega)]; exact y6 _ _ (by omega) (by omega) (by omega) (by omega)
    · rw [z_u2 (by omega), z_u2 (by omega), z_u2 (by omega), z_u1]
    · rw [z_u2 (by omega), z_u2 (by omega)]; exact r9
    · rw [z_u2 (by omega), z_u2 (by omega), z_u1, z_u2 (by omega), z_u1]; exact s9
    · rw [z_u2 (by omega), z_u1, z_u2 (by omega), z_u2 (by omega)]; exact s10
    · exact i5.congr (fun i => by rw [z_u2 (by omega), z_u2 (by omega)]; exact y6 8 i (by omega) (by omega) (by omega) (by omega)) (fun i => by rw [z_u2 (by omega), z_u2 (by omega)]; exact y6 9 i (by omega) (by omega) (by omega) (by omega)) (by rw [z_u2 (by omega), z_u2 (by omega)]; exact y6 0 24 (by omega) (by omega) (by omega) (by omega)) (by rw [z_u2 (by omega), z_u2 (by omega)]; exact y6 0 25 (by omega) (by omega) (by omega) (by omega))

/-! ## a STUDY: pin -/
def jP (gx gm : z_G) : Prop := gx 39 3 = gm 1 2444 ∧ 0 ≤ gm 1 2444 ∧ gm 1 2444 ≤ 12 ∧ (∀ k : Int, 0 ≤ k → k < gm 1 2444 → gx 40 k = gm 1 (2450 + 3 * k) ∧ gx 41 k = gm 1 (2450 + 3 * k + 1) ∧ gx 42 k = gm 1 (2450 + 3 * k + 2) ∧ iVal (gm 1 (2450 + 3 * k)) (gm 1 (2450 + 3 * k + 1)) ∧ 1 ≤ gm 1 (2450 + 3 * k + 2) ∧ gm 1 (2450 + 3 * k + 2) ≤ 999) ∧ ∀ j k : Int, 0 ≤ j → j < k → k < gm 1 2444 → ¬ (gm 1 (2450 + 3 * j) = gm 1 (2450 + 3 * k) ∧ gm 1 (2450 + 3 * j + 1) = gm 1 (2450 + 3 * k + 1))
theorem jP_iff {gx gm : z_G} : iP (fX gx 37) (fM gm 2440) ↔ jP gx gm := by
  have e1 : ∀ k : Int, 2440 + (10 + 3 * k) = 2450 + 3 * k := fun k => by omega
  have e2 : ∀ k : Int, 2440 + (10 + 3 * k + 1) = 2450 + 3 * k + 1 := fun k => by omega
  have e3 : ∀ k : Int, 2440 + (10 + 3 * k + 2) = 2450 + 3 * k + 2 := fun k => by omega
  unfold iP jP fX fM
  simp only [e1, e2, e3]
  exact Iff.rfl
theorem jP.add {gx gm gx' gm' : z_G} {T B w : Int} (h : jP gx gm) (hv : iVal T B) (hw : 1 ≤ w ∧ w ≤ 999) (hn : gm 1 2444 < 12) (hk : ∀ k : Int, 0 ≤ k → k < gm 1 2444 → ¬ (gm 1 (2450 + 3 * k) = T ∧ gm 1 (2450 + 3 * k + 1) = B)) (hx0 : gx' 39 3 = gm 1 2444 + 1) (hx1 : ∀ i, gx' 40 i = if i = gm 1 2444 then T else gx 40 i) (hx2 : ∀ i, gx' 41 i = if i = gm 1 2444 then B else gx 41 i) (hx3 : ∀ i, gx' 42 i = if i = gm 1 2444 then w else gx 42 i) (hm0 : gm' 1 2444 = gm 1 2444 + 1) (hm1 : gm' 1 (2450 + 3 * gm 1 2444) = T) (hm2 : gm' 1 (2450 + 3 * gm 1 2444 + 1) = B) (hm3 : gm' 1 (2450 + 3 * gm 1 2444 + 2) = w) (hm : ∀ i : Int, 2450 ≤ i → i < 2450 + 3 * gm 1 2444 → gm' 1 i = gm 1 i) : jP gx' gm' := by
  obtain ⟨p1, p2, p3, p4, p5⟩ := h
  refine ⟨by rw [hx0, hm0], by omega, by omega, fun k k0 k1 => ?_, fun j k j0 j1 k1 => ?_⟩
  · rw [hx1, hx2, hx3]
    by_cases c : k = gm 1 2444
    · rw [if_pos c, if_pos c, if_pos c, c, hm1, hm2, hm3]
      exact ⟨rfl, rfl, rfl, hv, hw⟩
    · rw [if_neg c, if_neg c, if_neg c, hm _ (by omega) (by omega), hm _ (by omega) (by omega), hm _ (by omega) (by omega)]
      exact p4 k k0 (by omega)
  · rw [hm (2450 + 3 * j) (by omega) (by omega), hm (2450 + 3 * j + 1) (by omega) (by omega)]
    by_cases c : k = gm 1 2444
    · rw [c, hm1, hm2]; exact hk j j0 (by omega)
    · rw [hm _ (by omega) (by omega), hm _ (by omega) (by omega)]
      exact p5 j k j0 j1 (by omega)
section Lock
variable {X Y : z_X} {N K : Nat} {σ τ gx gm : z_G} {P Q : z_P}
theorem s_add39 (hx : z_lay X N σ 0 z_SF z_RF) {g : z_G} {T B w : Int} (hn : 0 ≤ g 39 3 ∧ g 39 3 < 12) (hk : ∀ k : Int, 0 ≤ k → k < g 39 3 → ¬ (g 40 k = T ∧ g 41 k = B)) (hq : ∀ g', g' 39 3 = g 39 3 + 1 → (∀ i, g' 40 i = if i = g 39 3 then T else g 40 i) → (∀ i, g' 41 i = if i = g 39 3 then B else g 41 i) → (∀ i, g' 42 i = if i = g 39 3 then w else g 42 i) → (∀ c i, ¬ (39 ≤ c ∧ c ≤ 42) → g' c i = g c i) → Q w g') : z_O X 2 m_Pi_add [(2, ((39 : Nat) : Int)), (0, T), (0, B), (0, w)] N σ g Q := by
  refine b_Pi_add_0 (o := 39) (ky_Bd_2 (ky_F_37 hx)) (s_Pi_find (o := 39) (ky_Bd_2 (ky_F_37 hx)) (by omega) (fun k k0 k1 k2 k3 => absurd ⟨k2, k3⟩ (hk k k0 k1)) fun _ => ⟨fun _ => ⟨fun z => by exfalso; omega, fun _ => ⟨by omega, by omega, hq _ z_u1 (fun i => ?_) (fun i => ?_) (fun i => ?_) (fun c i hc => ?_)⟩⟩, fun z => absurd (by decide) z⟩)
  · rw [z_u2 (by omega), z_u2 (by omega), z_u2 (by omega)]
    unfold z_up
    by_cases c : i = g 39 3
    · rw [if_pos c, if_pos ⟨rfl, c⟩]
    · rw [if_neg c, if_neg (fun z => c z.2)]
  · rw [z_u2 (by omega), z_u2 (by omega)]
    by_cases c : i = g 39 3
    · rw [if_pos c, c]; exact z_u1
    · rw [if_neg c, z_u2 (by omega), z_u2 (by omega)]
  · rw [z_u2 (by omega)]
    by_cases c : i = g 39 3
    · rw [if_pos c, c]; exact z_u1
    · rw [if_neg c, z_u2 (by omega), z_u2 (by omega), z_u2 (by omega)]
  · rw [z_u2 (by omega), z_u2 (by omega), z_u2 (by omega), z_u2 (by omega)]
theorem m_pin (hm : z_lay Y K τ 0 z_SM z_RM) (hSY : z_St Y K τ) (hA : kA gx) (hs : sR gx gm) (hw : gx 10 4 = 1 ∧ kMt (gx 11) (gx 10 6) (gx 10 3) 3) (h : z_O Y 10 m_M_aPin [(2, 0)] K τ gm (fun r10 g10 => mCont Y K τ Q r10 g10)) : z_O Y 11 m_M_studyPart [(2, 0)] K τ gm Q := by
  refine b_M_studyPart_0 hm (m_word hm hSY hs.1.1 hA fun r hr => ?_)
  have er : r = 3 := by
    rcases hr with ⟨-, r2⟩ | ⟨w, w1, w2, w3⟩
    · exact absurd hw (r2 3 (by omega))
    · rw [w2, kMt_u w1 (by omega) w3.2 hw.2]; rfl
  subst er
  exact ⟨fun z => by exfalso; omega, fun _ => ⟨fun _ => ⟨fun _ => h, fun z => absurd rfl z⟩, fun z => by exfalso; omega⟩⟩
/-- a pin: the STUDY that both read so far -/
theorem t_pinp (hx : z_lay X N σ 0 z_SF z_RF) (hm : z_lay Y K τ 0 z_SM z_RM) (hSX : z_St X N σ) (hSY : z_St Y K τ) (hA : kA gx) (hB : cB gx) (hT : cT gx) (hw : gx 10 4 = 1 ∧ kMt (gx 11) (gx 10 6) (gx 10 3) 3) (hP : sP Y K τ gx P) : z_O X 10 m_Pa_readPin [(2, 9), (2, ((37 : Nat) : Int))] N σ gx (fun r g => (r = 0 ∨ r = 1) → ((r = 0 → P 0 g) ∧ (¬ r = 0 → z_O X 3 m_Ta_passSign [(2, 10), (0, 59)] N σ g (fun r11 g11 => (r11 = 0 ∨ r11 = 1) → ((r11 = 0 → P 0 g11) ∧ (¬ r11 = 0 → P 1 g11)))))) := by
  obtain ⟨a1, a2, a3, a4, a5, a6, a7, a8⟩ := id hA
  have a7 := a7 (by omega)
  have hn := hB.1
  have k11 : ∀ gm, sR gx gm → ¬ gm 0 11 = 1 := fun gm hs => by
    have := hs.1.1.2.2.2.2.1
    unfold kC at this; omega
  have n44 : ∀ gm, sR gx gm → gm 1 2444 = gx 39 3 := fun gm hs => ((jP_iff.mp hs.2.1.2.2).1).symm
  refine b_Pa_readPin_0 (p1 := 37) hx (ky_F_37 hx) ⟨fun fl => ?_, fun fl => fun _ => ⟨fun _ => ?_, fun z => absurd rfl z⟩⟩
  rotate_left
  · have fl : ¬ gx 39 3 < 12 := fl
    refine hP 0 _ (Or.inl rfl) ((fC.rf.up (by omega)).up (by omega)).q (fun z => by exfalso; omega) fun gm hs Q hq => m_pin hm hSY hA hs hw (b_M_aPin_0 hm ?_)
    have e := n44 gm hs
    refine ⟨by omega, by omega, fun _ => m_fails hm hs.1.2.2.2.1 fun gm' j1 j2 j3 => fun _ => fun _ => ⟨fun _ => hq gm' j1.s (Or.inr ⟨rfl, sE_here hs (kBad_at hs.1 (by rw [j2, if_neg (k11 gm hs)]) j3 (by rw [z_u2 (by omega), z_u1]) z_u1 (by omega)) (j1 1 2442 (by omega)) (j1 1 2443 (by omega))⟩), fun z => absurd rfl z⟩, fun z => by exfalso; omega⟩
  have fl : gx 39 3 < 12 := fl
  refine s_adv hx (by omega) fun gx1 f1 hA1 l1 hN1 => t_val hx hm hSX hSY hA1 (t := 2450 + 3 * gx 39 3) (oT := 0) (by omega) fun r gx2 T B hr f2 g2 hM2 => fun _ => ?_
  have run : ∀ gm, sR gx gm → ∀ Q : z_P, (∀ gm1, kOK gx1 gm1 → (∀ c i, ¬ (c = 0 ∧ 11 ≤ i ∧ i ≤ 14) → gm1 c i = gm c i) → z_O Y 9 m_M_valueTo [(2, 0), (0, 2450 + 3 * gx 39 3), (0, 0)] K τ gm1 (fun r1 g1 => (r1 = 0 ∨ r1 = 1) → ((r1 = 0 → mCont Y K τ Q 0 g1) ∧ (¬ r1 = 0 → z_O Y 1 m_M_findPin [(2, 0), (0, 2440), (0, g1 1 (2450 + 3 * gx 39 3)), (0, g1 1 (2450 + 3 * gx 39 3 + 1))] K τ g1 (fun r2 g2 => (r2 = -1 → (-2147483648 ≤ z_up g2 1 (2450 + 3 * gx 39 3 + 2) 1 1 2444 + 1 ∧ z_up g2 1 (2450 + 3 * gx 39 3 + 2) 1 1 2444 + 1 ≤ 2147483647) ∧ z_O Y 2 m_M_nextToken [(2, 0)] K τ (z_up (z_up g2 1 (2450 + 3 * gx 39 3 + 2) 1) 1 2444 (z_up g2 1 (2450 + 3 * gx 39 3 + 2) 1 1 2444 + 1)) (fun r3 g3 => z_O Y 7 m_M_inWords [(2, 0), (4, 20)] K τ g3 (fun r4 g4 => (r4 = 5 → z_O Y 2 m_M_nextToken [(2, 0)] K τ g4 (fun r5 g5 => z_O Y 3 m_M_number [(2, 0), (0, 2450 + 3 * gx 39 3 + 2), (0, 1), (0, 99)] K τ g5 (fun r6 g6 => (r6 = 0 ∨ r6 = 1) → mCont Y K τ Q r6 g6))) ∧ (¬ r4 = 5 → mCont Y K τ Q 1 g4)))) ∧ (¬ r2 = -1 → z_O Y 1 m_M_fails [(2, 0), (0, 5)] K τ g2 (fun r7 g7 => (r7 = 0 ∨ r7 = 1) → mCont Y K τ Q r7 g7))))))) → z_O Y 11 m_M_studyPart [(2, 0)] K τ gm Q := fun gm hs Q q => m_pin hm hSY hA hs hw (b_M_aPin_0 hm (by
    rw [n44 gm hs]
    refine ⟨by omega, by omega, fun z => by exfalso; omega, fun _ => nx_N (gx := gx1) hm (hN1 gm hs.1.1.1 hs.1.1.2.1 hs.1.1.2.2.2.1) fun gm1 b1 b2 => z_Omono (q gm1 ⟨b2, ?_, ?_, ?_, ?_⟩ b1) fun r1 g1 _ hh => fun h01 => ⟨fun z => (hh h01).1 z, fun z => ⟨by omega, by omega, by omega, z_Omono ((hh h01).2 z) fun r2 g2 _ hh2 => ⟨fun z2 => ⟨by omega, by omega, (hh2.1 z2).1, (hh2.1 z2).2⟩, fun z2 => hh2.2 z2⟩⟩⟩⟩
    · rw [f1 _ _ (by omega)]; exact hs.1.2.1
    · rw [f1 _ _ (by omega)]; exact hs.1.2.2.1
    · rw [b1 _ _ (by omega)]; exact hs.1.2.2.2.1
    · rw [b1 _ _ (by omega)]; exact hs.1.2.2.2.2))
  have fq : fQ gx gx2 := fun c i c1 c2 c3 c4 c5 => by rw [f2 c i c2 c3 c4, f1 c i (by omega)]
  have fsv : ∀ gm gm1 gm' : z_G, (∀ c i, ¬ (c = 0 ∧ 11 ≤ i ∧ i ≤ 14) → gm1 c i = gm c i) → fV gm1 gm' (2450 + 3 * gx 39 3) → fS gm gm' := fun gm gm1 gm' fr v1 c i c1 c2 => by rw [v1 c i (by omega) (by omega)]; exact fr c i (by omega)
  have ee : ∀ gm gm1 gm' : z_G, (∀ c i, ¬ (c = 0 ∧ 11 ≤ i ∧ i ≤ 14) → gm1 c i = gm c i) → fV gm1 gm' (2450 + 3 * gx 39 3) → gm' 1 2442 = gm 1 2442 ∧ gm' 1 2443 = gm 1 2443 := fun gm gm1 gm' fr v1 => ⟨by rw [v1 1 2442 (by omega) (by omega)]; exact fr 1 2442 (by omega), by rw [v1 1 2443 (by omega) (by omega)]; exact fr 1 2443 (by omega)⟩
  refine ⟨fun r0 => fun _ => ⟨fun _ => ?_, fun z => absurd rfl z⟩, fun r0 => ?_⟩
  · subst r0
    exact hP 0 gx2 (Or.inl rfl) fq (fun z => by exfalso; omega) fun gm hs Q hq => run gm hs Q fun gm1 ok fr => hM2 gm1 ok _ (fun _ gm' v1 v2 kb => fun _ => ⟨fun _ => fun _ => ⟨fun _ => hq gm' (fsv gm gm1 gm' fr v1) (Or.inr ⟨rfl, sE_here hs kb (ee gm gm1 gm' fr v1).1 (ee gm gm1 gm' fr v1).2⟩), fun z => absurd rfl z⟩, fun z => absurd rfl z⟩) (fun z => by exfalso; omega) (fun z => by exfalso; omega)
  have r1 : r = 1 := by omega
  subst r1
  obtain ⟨hA2, l2, t0, tb, b1, b2, hc⟩ := g2 rfl
  have c3 : gx2 12 3 = T / Int.gcd T B := hc.2.2.2.2.1
  have c4 : gx2 12 4 = B / Int.gcd T B := hc.2.2.2.2.2.1
  have rd := n_red (t := T) (b := B) (by omega)
  have xo : ∀ c i, 37 ≤ c → c ≤ 42 → gx2 c i = gx c i := fun c i q1 q2 => by rw [f2 c i (by omega) (by omega) (by omega), f1 c i (by omega)]
  -- the reference up to its findPin
  have pre : ∀ gm, sR gx gm → ∀ (Q : z_P) (Z : z_P), (∀ gm2, fV gm gm2 (2450 + 3 * gx 39 3) → gm2 1 (2450 + 3 * gx 39 3) = T / Int.gcd T B → gm2 1 (2450 + 3 * gx 39 3 + 1) = B / Int.gcd T B → kN gx2 gm2 → gm2 0 12 = gx2 10 8 → gm2 0 11 = 3 → gm2 0 17 = 0 → gm2 0 16 = -1 → gx2 10 9 = 0 → gx2 10 10 = -1 → ((∃ k : Int, 0 ≤ k ∧ k < gx 39 3 ∧ gx 40 k = T / Int.gcd T B ∧ gx 41 k = B / Int.gcd T B) → Z 0 gm2) ∧ ((∀ k : Int, 0 ≤ k → k < gx 39 3 → ¬ (gx 40 k = T / Int.gcd T B ∧ gx 41 k = B / Int.gcd T B)) → Z (-1) gm2)) → (∀ gm2, (Z 0 gm2 → z_O Y 1 m_M_fails [(2, 0), (0, 5)] K τ gm2 (fun r7 g7 => (r7 = 0 ∨ r7 = 1) → mCont Y K τ Q r7 g7)) ∧ (Z (-1) gm2 → (-2147483648 ≤ z_up gm2 1 (2450 + 3 * gx 39 3 + 2) 1 1 2444 + 1 ∧ z_up gm2 1 (2450 + 3 * gx 39 3 + 2) 1 1 2444 + 1 ≤ 2147483647) ∧ z_O Y 2 m_M_nextToken [(2, 0)] K τ (z_up (z_up gm2 1 (2450 + 3 * gx 39 3 + 2) 1) 1 2444 (z_up gm2 1 (2450 + 3 * gx 39 3 + 2) 1 1 2444 + 1)) (fun r3 g3 => z_O Y 7 m_M_inWords [(2, 0), (4, 20)] K τ g3 (fun r4 g4 => (r4 = 5 → z_O Y 2 m_M_nextToken [(2, 0)] K τ g4 (fun r5 g5 => z_O Y 3 m_M_number [(2, 0), (0, 2450 + 3 * gx 39 3 + 2), (0, 1), (0, 99)] K τ g5 (fun r6 g6 => (r6 = 0 ∨ r6 = 1) → mCont Y K τ Q r6 g6))) ∧ (¬ r4 = 5 → mCont Y K τ Q 1 g4))))) → z_O Y 11 m_M_studyPart [(2, 0)] K τ gm Q := by
    intro gm hs Q Z hZ hQ
    refine run gm hs Q fun gm1 ok fr => hM2 gm1 ok _ (fun z => by exfalso; omega) (fun _ _ gm2 v1 m1 m2 kn m12 m11 m17 m16 x9 x10 => fun _ => ⟨fun z => by exfalso; omega, fun _ => ?_⟩) (fun _ z => absurd rfl z)
    have v0 : fV gm gm2 (2450 + 3 * gx 39 3) := fun c i q1 q2 => by rw [v1 c i q1 q2]; exact fr c i (by omega)
    obtain ⟨z1, z2⟩ := hZ gm2 v0 m1 m2 kn m12 m11 m17 m16 x9 x10
    obtain ⟨p1, p2, p3, p4, p5⟩ := jP_iff.mp hs.2.1.2.2
    have e44 : gm2 1 (2440 + 4) = gx 39 3 := by show gm2 1 2444 = gx 39 3; rw [v0 1 2444 (by omega) (by omega)]; exact p1.symm
    have row : ∀ k : Int, 0 ≤ k → k < gx 39 3 → gm2 1 (2440 + 10 + 3 * k) = gx 40 k ∧ gm2 1 (2440 + 10 + 3 * k + 1) = gx 41 k := fun k k0 k1 => by
      have q := p4 k k0 (by omega)
      rw [show (2440 : Int) + 10 + 3 * k = 2450 + 3 * k by omega, v0 1 _ (by omega) (by omega), v0 1 _ (by omega) (by omega)]
      exact ⟨q.1.symm, q.2.1.symm⟩
    rw [m1, m2]
    refine s_M_findPin hm (s := 2440) (by omega) (by omega) (fun k k0 k1 k2 k3 => ⟨fun z => by exfalso; omega, fun _ => (hQ gm2).1 (z1 ⟨k, k0, by omega, ?_, ?_⟩)⟩) (fun hk => ⟨fun _ => (hQ gm2).2 (z2 fun k k0 k1 => ?_), fun z => absurd rfl z⟩)
    · rw [← (row k k0 (by omega)).1]; exact k2
    · rw [← (row k k0 (by omega)).2]; exact k3
    · have := hk k k0 (by omega)
      rw [(row k k0 k1).1, (row k k0 k1).2] at this
      exact this
  rw [c3, c4]
  refine s_Pi_find (o := 39) (ky_Bd_2 (ky_F_37 hx)) (by rw [xo _ _ (by omega) (by omega)]; omega) (fun k k0 k1 k2 k3 => ⟨fun z => by exfalso; omega, fun _ => fun _ => ⟨fun _ => ?_, fun z => absurd rfl z⟩⟩) (fun hk => ⟨fun _ => ?_, fun z => absurd (by decide) z⟩)
  · -- twice
    have k1 : k < gx2 39 3 := k1
    have k2 : gx2 40 k = T / Int.gcd T B := k2
    have k3 : gx2 41 k = B / Int.gcd T B := k3
    rw [xo _ _ (by omega) (by omega)] at k1 k2 k3
    refine hP 0 _ (Or.inl rfl) (fun c i c1 c2 c3 c4 c5 => by rw [z_u2 (by omega), z_u2 (by omega)]; exact fq c i c1 c2 c3 c4 c5) (fun z => by exfalso; omega) fun gm hs Q hq => pre gm hs Q (fun r gm2 => (r = 0 ∧ fV gm gm2 (2450 + 3 * gx 39 3) ∧ gm2 0 12 = gx2 10 8 ∧ gm2 0 11 = 3 ∧ gm2 0 17 = 0)) (fun gm2 v1 _ _ _ m12 m11 m17 _ _ _ => ⟨fun _ => ⟨rfl, v1, m12, m11, m17⟩, fun z => absurd ⟨k2, k3⟩ (z k k0 k1)⟩) fun gm2 => ⟨fun ⟨_, v1, m12, m11, m17⟩ => m_fails hm m17 fun gm' j1 j2 j3 => fun _ => fun _ => ⟨fun _ => hq gm' (fun c i q1 q2 => by rw [j1 c i (by omega)]; exact v1 c i (by omega) (by omega)) (Or.inr ⟨rfl, sE_here hs ⟨?_, ?_, ?_, ?_⟩ ?_ ?_⟩), fun z => absurd rfl z⟩, fun z => absurd z.1 (by decide)⟩
    · rw [z_u2 (by omega), z_u1, j2, if_neg (by omega)]
    · rw [j2, if_neg (by omega)]; omega
    · rw [j2, if_neg (by omega)]; omega
    · rw [z_u1, j3]; exact m12.symm
    · rw [j1 1 2442 (by omega)]; exact v1 1 2442 (by omega) (by omega)
    · rw [j1 1 2443 (by omega)]; exact v1 1 2443 (by omega) (by omega)
  have hk : ∀ k : Int, 0 ≤ k → k < gx 39 3 → ¬ (gx 40 k = T / Int.gcd T B ∧ gx 41 k = B / Int.gcd T B) := fun k k0 k1 => by
    have h0 : ∀ k : Int, 0 ≤ k → k < gx2 39 3 → ¬ (gx2 40 k = T / Int.gcd T B ∧ gx2 41 k = B / Int.gcd T B) := hk
    have := h0 k k0 (by rw [xo _ _ (by omega) (by omega)]; exact k1)
    rw [xo _ _ (by omega) (by omega), xo _ _ (by omega) (by omega)] at this
    exact this
  -- the reference up to its second look for a word
  have mid : ∀ gm, sR gx gm → ∀ Q : z_P, (∀ gm4, kOK gx2 gm4 → (∀ c i, ¬ (c = 1 ∧ (2450 + 3 * gx 39 3 ≤ i ∧ i ≤ 2450 + 3 * gx 39 3 + 2 ∨ i = 2444)) → ¬ (c = 0 ∧ (11 ≤ i ∧ i ≤ 14 ∨ i = 16 ∨ i = 17)) → gm4 c i = gm c i) → gm4 1 (2450 + 3 * gx 39 3) = T / Int.gcd T B → gm4 1 (2450 + 3 * gx 39 3 + 1) = B / Int.gcd T B → gm4 1 (2450 + 3 * gx 39 3 + 2) = 1 → gm4 1 2444 = gx 39 3 + 1 → z_O Y 7 m_M_inWords [(2, 0), (4, 20)] K τ gm4 (fun r4 g4 => (r4 = 5 → z_O Y 2 m_M_nextToken [(2, 0)] K τ g4 (fun r5 g5 => z_O Y 3 m_M_number [(2, 0), (0, 2450 + 3 * gx 39 3 + 2), (0, 1), (0, 99)] K τ g5 (fun r6 g6 => (r6 = 0 ∨ r6 = 1) → mCont Y K τ Q r6 g6))) ∧ (¬ r4 = 5 → mCont Y K τ Q 1 g4))) → z_O Y 11 m_M_studyPart [(2, 0)] K τ gm Q := by
    intro gm hs Q hq
    refine pre gm hs Q (fun r gm2 => (r = -1 ∧ fV gm gm2 (2450 + 3 * gx 39 3) ∧ gm2 1 (2450 + 3 * gx 39 3) = T / Int.gcd T B ∧ gm2 1 (2450 + 3 * gx 39 3 + 1) = B / Int.gcd T B ∧ kN gx2 gm2 ∧ gm2 0 17 = 0 ∧ gm2 0 16 = -1 ∧ gx2 10 9 = 0 ∧ gx2 10 10 = -1)) (fun gm2 v1 m1 m2 kn _ _ m17 m16 x9 x10 => ⟨fun ⟨k, k0, k1, k2, k3⟩ => absurd ⟨k2, k3⟩ (hk k k0 k1), fun _ => ⟨rfl, v1, m1, m2, kn, m17, m16, x9, x10⟩⟩) fun gm2 => ⟨fun z => absurd z.1 (by decide), fun ⟨_, v1, m1, m2, kn, m17, m16, x9, x10⟩ => ?_⟩
    have e44 : z_up gm2 1 (2450 + 3 * gx 39 3 + 2) 1 1 2444 = gx 39 3 := by rw [z_u2 (by omega), v1 1 2444 (by omega) (by omega)]; exact n44 gm hs
    rw [e44]
    have uo : ∀ c i, ¬ (c = 1 ∧ (i = 2450 + 3 * gx 39 3 + 2 ∨ i = 2444)) → z_up (z_up gm2 1 (2450 + 3 * gx 39 3 + 2) 1) 1 2444 (gx 39 3 + 1) c i = gm2 c i := fun c i q => by rw [z_u2 (by omega), z_u2 (by omega)]
    refine ⟨by omega, nx_N (gx := gx2) hm (kn.c (fun _ _ _ => rfl) (fun _ => rfl) (uo _ _ (by omega)) (uo _ _ (by omega)) (fun i => uo _ _ (by omega))) fun gm4 b1 b2 => hq gm4 ⟨b2, x9, x10, ?_, ?_⟩ (fun c i q1 q2 => ?_) ?_ ?_ ?_ ?_⟩
    · rw [b1 _ _ (by omega), uo _ _ (by omega)]; exact m17
    · rw [b1 _ _ (by omega), uo _ _ (by omega)]; exact m16
    · rw [b1 _ _ (by omega), uo _ _ (by omega)]; exact v1 c i (by omega) q2
    · rw [b1 _ _ (by omega), uo _ _ (by omega)]; exact m1
    · rw [b1 _ _ (by omega), uo _ _ (by omega)]; exact m2
    · rw [b1 _ _ (by omega), z_u2 (by omega), z_u1]
    · rw [b1 _ _ (by omega), z_u1]
  -- both have the new pin
  have fin : ∀ (gm gm' gx' : z_G) (w : Int), sR gx gm → kOK gx' gm' → (1 ≤ w ∧ w ≤ 999) → (∀ c i, ¬ (c = 1 ∧ (2450 + 3 * gx 39 3 ≤ i ∧ i ≤ 2450 + 3 * gx 39 3 + 2 ∨ i = 2444)) → ¬ (c = 0 ∧ (11 ≤ i ∧ i ≤ 14 ∨ i = 16 ∨ i = 17)) → gm' c i = gm c i) → gm' 1 (2450 + 3 * gx 39 3) = T / Int.gcd T B → gm' 1 (2450 + 3 * gx 39 3 + 1) = B / Int.gcd T B → gm' 1 (2450 + 3 * gx 39 3 + 2) = w → gm' 1 2444 = gx 39 3 + 1 → gx' 39 3 = gx 39 3 + 1 → (∀ i, gx' 40 i = if i = gx 39 3 then T / Int.gcd T B else gx 40 i) → (∀ i, gx' 41 i = if i = gx 39 3 then B / Int.gcd T B else gx 41 i) → (∀ i, gx' 42 i = if i = gx 39 3 then w else gx 42 i) → (∀ c i, c = 9 ∨ c = 37 ∨ c = 38 → gx' c i = gx c i) → sR gx' gm' := by
    intro gm gm' gx' w hs ok hw' hf m1 m2 m3 m4 x0 x1 x2 x3 xf
    have e := n44 gm hs
    refine ⟨ok, ⟨hs.2.1.1.c (fun i => xf _ _ (by omega)) (fun i i1 i2 => hf _ _ (by omega) (by omega)), hs.2.1.2.1.c (fun i => xf _ _ (by omega)) (fun i i1 i2 => hf _ _ (by omega) (by omega)), jP_iff.mpr ((jP_iff.mp hs.2.1.2.2).add rd hw' (by omega) (fun k k0 k1 z => ?_) (by rw [e]; exact x0) (fun i => by rw [e]; exact x1 i) (fun i => by rw [e]; exact x2 i) (fun i => by rw [e]; exact x3 i) (by rw [e]; exact m4) (by rw [e]; exact m1) (by rw [e]; exact m2) (by rw [e]; exact m3) (fun i i1 i2 => hf _ _ (by omega) (by omega)))⟩, ?_⟩
    · obtain ⟨p1, p2, p3, p4, p5⟩ := jP_iff.mp hs.2.1.2.2
      have q := p4 k k0 k1
      exact hk k k0 (by omega) ⟨q.1.trans z.1, q.2.1.trans z.2⟩
    · rw [hf 0 18 (by omega) (by omega), xf 9 2 (by omega), xf 9 3 (by omega), xf 9 4 (by omega)]; exact hs.2.2
  have sfr : ∀ gm gm' : z_G, (∀ c i, ¬ (c = 1 ∧ (2450 + 3 * gx 39 3 ≤ i ∧ i ≤ 2450 + 3 * gx 39 3 + 2 ∨ i = 2444)) → ¬ (c = 0 ∧ (11 ≤ i ∧ i ≤ 14 ∨ i = 16 ∨ i = 17)) → gm' c i = gm c i) → fS gm gm' := fun gm gm' hf c i q1 q2 => hf c i (by omega) (by omega)
  have a13 := hA1.2.1
  have a23 := hA2.2.1
  have e5 : wM.getD (5 : Int).toNat 0 = 5 := by decide
  refine s_Ta_isWord hx hSX (k := 5) (by omega) (fun _ => ⟨hA2.1, hA2.2.1, by have := hA2.2.2.1; have := hA2.2.2.2.1; omega⟩) fun r3 h3 => fun _ => ?_
  rw [e5] at h3
  refine ⟨fun z3 => ?_, fun z3 => ?_⟩
  · -- weight 1
    have nw : ¬ (gx2 10 4 = 1 ∧ kMt (gx2 11) (gx2 10 6) (gx2 10 3) 5) := by
      rcases h3 with ⟨y, -⟩ | ⟨-, y⟩
      · exfalso; omega
      · exact y
    rw [c3, c4]
    refine s_add39 hx (by rw [xo _ _ (by omega) (by omega)]; omega) (fun k k0 k1 => ?_) fun gx3 y0 y1 y2 y3 yf => fun _ => ⟨fun z => by exfalso; omega, fun _ => ?_⟩
    · rw [xo _ _ (by omega) (by omega)] at k1
      rw [xo _ _ (by omega) (by omega), xo _ _ (by omega) (by omega)]; exact hk k k0 k1
    rw [xo _ _ (by omega) (by omega)] at y0
    refine t_semi hx hm (hA2.c fun i _ _ => yf _ _ (by omega)) ?_ ?_ ?_ ?_ (fun gm hs Q q => mid gm hs Q fun gm4 ok g1 g2 g3 g4 g5 => m_word hm hSY ok.1 hA2 fun r4 h4 => ⟨fun z4 => ?_, fun _ => fun _ => ⟨fun z => by exfalso; omega, fun _ => q gm4 (sfr gm gm4 g1) (fin gm gm4 gx3 1 hs (ok.c (fun i _ _ => yf _ _ (by omega)) (fun i => yf _ _ (by omega)) (fun _ _ _ _ => rfl) (fun _ => rfl)) (by omega) g1 g2 g3 g4 g5 y0 (fun i => ?_) (fun i => ?_) (fun i => ?_) fun c i hc => ?_)⟩⟩) hP
    · refine ⟨by omega, ?_, ?_⟩
      · rw [yf _ _ (by omega), yf _ _ (by omega), yf _ _ (by omega), yf _ _ (by omega), xo _ _ (by omega) (by omega), xo _ _ (by omega) (by omega), xo _ _ (by omega) (by omega), xo _ _ (by omega) (by omega)]; exact hB.2.1
      · rw [yf _ _ (by omega), yf _ _ (by omega), xo _ _ (by omega) (by omega), xo _ _ (by omega) (by omega)]; exact hB.2.2
    · unfold cT at hT ⊢
      rw [yf _ _ (by omega), yf _ _ (by omega), yf _ _ (by omega), f2 _ _ (by omega) (by omega) (by omega), f1 _ _ (by omega), f2 _ _ (by omega) (by omega) (by omega), f1 _ _ (by omega), f2 _ _ (by omega) (by omega) (by omega), f1 _ _ (by omega)]
      exact hT
    · exact fun c i c1 c2 c3 c4 c5 => by rw [yf _ _ (by omega)]; exact fq c i c1 c2 c3 c4 c5
    · rw [yf _ _ (by omega)]; omega
    · rcases h4 with ⟨y, -⟩ | ⟨w, w1, w2, w3⟩
      · exfalso; omega
      · rw [show w = 5 by omega] at w3; exact absurd w3 nw
    · rw [y1 i, xo _ _ (by omega) (by omega), xo _ _ (by omega) (by omega)]
    · rw [y2 i, xo _ _ (by omega) (by omega), xo _ _ (by omega) (by omega)]
    · rw [y3 i, xo _ _ (by omega) (by omega), xo _ _ (by omega) (by omega)]
    · rw [yf _ _ (by omega), f2 _ _ (by omega) (by omega) (by omega), f1 _ _ (by omega)]
  · -- a weight is told
    have yw : gx2 10 4 = 1 ∧ kMt (gx2 11) (gx2 10 6) (gx2 10 3) 5 := by
      rcases h3 with ⟨-, y⟩ | ⟨y, -⟩
      · exact y
      · exfalso; omega
    have wrd : ∀ gm4, kOK gx2 gm4 → ∀ Z : z_P, Z 5 gm4 → z_O Y 7 m_M_inWords [(2, 0), (4, 20)] K τ gm4 Z := fun gm4 ok Z hZ => m_word hm hSY ok.1 hA2 fun r4 h4 => by
      rcases h4 with ⟨-, y⟩ | ⟨w, w1, w2, w3⟩
      · exact absurd yw (y 5 (by omega))
      · rw [w2, kMt_u w1 (by omega) w3.2 yw.2]; exact hZ
    have a27 := hA2.2.2.2.2.2.2.1 (by omega)
    refine s_adv hx ⟨by have := hA2.1; omega, hA2.2.2.1, hA2.2.2.2.1⟩ fun gx3 f3 hA3 l3 hN3 => t_num hx hm hA3 (t := 2450 + 3 * gx 39 3 + 2) (l := 1) (u := 99) (by omega) fun r6 gx4 hr6 f4 g4 hM4 => fun _ => ?_
    have a33 := hA3.2.1
    have run4 : ∀ gm, sR gx gm → ∀ Q : z_P, (∀ gm5, kOK gx3 gm5 → (∀ c i, ¬ (c = 1 ∧ (2450 + 3 * gx 39 3 ≤ i ∧ i ≤ 2450 + 3 * gx 39 3 + 2 ∨ i = 2444)) → ¬ (c = 0 ∧ (11 ≤ i ∧ i ≤ 14 ∨ i = 16 ∨ i = 17)) → gm5 c i = gm c i) → gm5 1 (2450 + 3 * gx 39 3) = T / Int.gcd T B → gm5 1 (2450 + 3 * gx 39 3 + 1) = B / Int.gcd T B → gm5 1 2444 = gx 39 3 + 1 → z_O Y 3 m_M_number [(2, 0), (0, 2450 + 3 * gx 39 3 + 2), (0, 1), (0, 99)] K τ gm5 (fun r6 g6 => (r6 = 0 ∨ r6 = 1) → mCont Y K τ Q r6 g6)) → z_O Y 11 m_M_studyPart [(2, 0)] K τ gm Q := fun gm hs Q q => mid gm hs Q fun gm4 ok g1 g2 g3 g4 g5 => wrd gm4 ok _ ⟨fun _ => nx_N (gx := gx3) hm (hN3 gm4 ok.1.1 ok.1.2.1 ok.1.2.2.2.1) fun gm5 b1 b2 => q gm5 ⟨b2, by rw [f3 _ _ (by omega)]; exact ok.2.1, by rw [f3 _ _ (by omega)]; exact ok.2.2.1, by rw [b1 _ _ (by omega)]; exact ok.2.2.2.1, by rw [b1 _ _ (by omega)]; exact ok.2.2.2.2⟩ (fun c i q1 q2 => by rw [b1 _ _ (by omega)]; exact g1 c i q1 q2) (by rw [b1 _ _ (by omega)]; exact g2) (by rw [b1 _ _ (by omega)]; exact g3) (by rw [b1 _ _ (by omega)]; exact g5), fun z => absurd rfl z⟩
    have fq4 : fQ gx gx4 := fun c i c1 c2 c3 c4 c5 => by rw [f4 c i c2, f3 c i (by omega)]; exact fq c i c1 c2 c3 c4 c5
    have xo4 : ∀ c i, c = 9 ∨ (37 ≤ c ∧ c ≤ 42) → gx4 c i = gx c i := fun c i q => by rw [f4 c i (by omega), f3 c i (by omega), f2 c i (by omega) (by omega) (by omega), f1 c i (by omega)]
    refine ⟨fun r0 => fun _ => ⟨fun _ => ?_, fun z => absurd rfl z⟩, fun r0 => ?_⟩
    · subst r0
      refine hP 0 gx4 (Or.inl rfl) fq4 (fun z => by exfalso; omega) fun gm hs Q hq => run4 gm hs Q fun gm5 ok g1 g2 g3 g5 => hM4 gm5 ok _ fun gm6 j1 j2 j3 => fun _ => fun _ => ⟨fun _ => hq gm6 (sfr gm gm6 fun c i q1 q2 => by rw [j1 c i (by omega) q2]; exact g1 c i q1 q2) (Or.inr ⟨rfl, sE_here hs ?_ ?_ ?_⟩), fun z => absurd rfl z⟩
      · rcases j3 with y | y
        · exfalso; omega
        · exact y.2
      · rw [j1 1 2442 (by omega) (by omega)]; exact g1 1 2442 (by omega) (by omega)
      · rw [j1 1 2443 (by omega) (by omega)]; exact g1 1 2443 (by omega) (by omega)
    · have r1 : r6 = 1 := by omega
      subst r1
      obtain ⟨hA4, l4, -, -, -, w1, w2, -⟩ := g4 rfl
      have d3 : gx4 12 3 = T / Int.gcd T B := by rw [f4 _ _ (by omega), f3 _ _ (by omega)]; exact c3
      have d4 : gx4 12 4 = B / Int.gcd T B := by rw [f4 _ _ (by omega), f3 _ _ (by omega)]; exact c4
      rw [d3, d4]
      refine s_add39 hx (by rw [xo4 _ _ (by omega)]; omega) (fun k k0 k1 => ?_) fun gx5 y0 y1 y2 y3 yf => fun _ => ⟨fun z => by exfalso; omega, fun _ => ?_⟩
      · rw [xo4 _ _ (by omega)] at k1
        rw [xo4 _ _ (by omega), xo4 _ _ (by omega)]; exact hk k k0 k1
      rw [xo4 _ _ (by omega)] at y0
      refine t_semi hx hm (hA4.c fun i _ _ => yf _ _ (by omega)) ?_ ?_ ?_ ?_ (fun gm hs Q q => run4 gm hs Q fun gm5 ok g1 g2 g3 g5 => hM4 gm5 ok _ fun gm6 j1 j2 j3 => fun _ => fun _ => ⟨fun z => by exfalso; omega, fun _ => q gm6 (sfr gm gm6 fun c i q1 q2 => by rw [j1 c i (by omega) q2]; exact g1 c i q1 q2) (fin gm gm6 gx5 (gx4 10 7) hs ?_ (by omega) (fun c i q1 q2 => by rw [j1 c i (by omega) q2]; exact g1 c i q1 q2) ?_ ?_ (j2.1 rfl) ?_ y0 (fun i => ?_) (fun i => ?_) (fun i => ?_) fun c i hc => ?_)⟩) hP
      · refine ⟨by omega, ?_, ?_⟩
        · rw [yf _ _ (by omega), yf _ _ (by omega), yf _ _ (by omega), yf _ _ (by omega), xo4 _ _ (by omega), xo4 _ _ (by omega), xo4 _ _ (by omega), xo4 _ _ (by omega)]; exact hB.2.1
        · rw [yf _ _ (by omega), yf _ _ (by omega), xo4 _ _ (by omega), xo4 _ _ (by omega)]; exact hB.2.2
      · unfold cT at hT ⊢
        rw [yf _ _ (by omega), yf _ _ (by omega), yf _ _ (by omega), xo4 _ _ (by omega), xo4 _ _ (by omega), xo4 _ _ (by omega)]
        exact hT
      · exact fun c i c1 c2 c3 c4 c5 => by rw [yf _ _ (by omega)]; exact fq4 c i c1 c2 c3 c4 c5
      · rw [yf _ _ (by omega)]; omega
      · rcases j3 with y | y
        · exact y.2.c (fun i _ _ => yf _ _ (by omega)) (fun i => yf _ _ (by omega)) (fun _ _ _ _ => rfl) (fun _ => rfl)
        · exfalso; omega
      · rw [j1 _ _ (by omega) (by omega)]; exact g2
      · rw [j1 _ _ (by omega) (by omega)]; exact g3
      · rw [j1 _ _ (by omega) (by omega)]; exact g5
      · rw [y1 i, xo4 _ _ (by omega), xo4 _ _ (by omega)]
      · rw [y2 i, xo4 _ _ (by omega), xo4 _ _ (by omega)]
      · rw [y3 i, xo4 39 3 (by omega), xo4 42 i (by omega)]
      · rw [yf _ _ (by omega), xo4 _ _ (by omega)]
end Lock

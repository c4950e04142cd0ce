/-! ## TOURS as a text: TESTS -/
section Lock
variable {X Y : z_X} {N K : Nat} {σ τ gx gm : z_G} {P Q : z_P}
/-- the reference's COMPARES -/
def mCmp (Y : z_X) (K : Nat) (τ : z_G) (t : Int) (g : z_G) (Q : z_P) : Prop := (g 0 11 = 4 → (g 0 14 = 60 ∨ g 0 14 = 61 ∨ g 0 14 = 62) → z_O Y 2 m_M_nextToken [(2, 0)] K τ (z_up g 1 (t + 5) (g 0 14)) (fun _ g2 => z_O Y 3 m_M_number [(2, 0), (0, t + 1), (0, 0), (0, 9999)] K τ g2 (fun r3 g3 => (r3 = 0 ∨ r3 = 1) → Q r3 g3))) ∧ (¬ (g 0 11 = 4 ∧ (g 0 14 = 60 ∨ g 0 14 = 61 ∨ g 0 14 = 62)) → z_O Y 1 m_M_fails [(2, 0), (0, 2)] K τ g (fun r8 g8 => (r8 = 0 ∨ r8 = 1) → Q r8 g8))
theorem t_compare (hx : z_lay X N σ 0 z_SF z_RF) (hm : z_lay Y K τ 0 z_SM z_RM) (hA : kA gx) {t : Int} (ht : 0 ≤ t ∧ t < 3290) (hP : ∀ r gx', (r = 0 ∨ r = 1) → fT gx gx' → (r = 1 → kA gx' ∧ gx 10 3 ≤ gx' 10 6 ∧ gx' 9 7 = gx 9 7) → (∀ gm, kOK gx gm → ∀ Q : z_P, (∀ gm', fR gm gm' t → gm' 1 t = gm 1 t → (r = 1 → gx' 9 8 = gm' 1 (t + 5) ∧ (gm' 1 (t + 5) = 60 ∨ gm' 1 (t + 5) = 61 ∨ gm' 1 (t + 5) = 62) ∧ gx' 9 9 = gm' 1 (t + 1) ∧ 0 ≤ gm' 1 (t + 1) ∧ gm' 1 (t + 1) ≤ 9999) → kRes r gx' gm' → Q r gm') → mCmp Y K τ t gm Q) → P r gx') : z_O X 4 m_Pa_readCompare [(2, 9)] N σ gx P := by
  obtain ⟨a1, a2, a3, a4, a5, a6, a7, a8⟩ := id hA
  have cmp : ∀ (c : Int) (gc : z_G), (c = 60 ∨ c = 61 ∨ c = 62) → (gx 10 4 = 3 → (gx 11 (gx 10 6) = 60 ↔ c = 60) ∧ (gx 11 (gx 10 6) = 62 ↔ c = 62)) → gc 9 8 = c → (∀ c i, ¬ (c = 9 ∧ i = 8) → gc c i = gx c i) → z_O X 3 m_Ta_passSign [(2, 10), (0, c)] N σ gc (fun r0 g0 => (r0 = 0 ∨ r0 = 1) → ((r0 = 0 → P 0 g0) ∧ (¬ r0 = 0 → z_O X 3 m_Ta_passNumber [(2, 10), (0, 0), (0, 9999)] N σ g0 (fun r1 g1 => (r1 = 0 ∨ r1 = 1) → ((r1 = 0 → P 0 g1) ∧ (¬ r1 = 0 → P 1 (z_up g1 9 9 (g1 10 7)))))))) := by
    intro c gc hc hsel h8 hf
    have hAc : kA gc := hA.c fun i _ _ => hf _ _ (by omega)
    have e4 : gc 10 4 = gx 10 4 := hf _ _ (by omega)
    have e6 : gc 10 6 = gx 10 6 := hf _ _ (by omega)
    have e11 : ∀ i, gc 11 i = gx 11 i := fun i => hf _ _ (by omega)
    have okc : ∀ gm, kOK gx gm → kOK gc gm := fun gm hk => hk.c (fun i _ _ => hf _ _ (by omega)) e11 (fun _ _ _ _ => rfl) (fun _ => rfl)
    refine s_sign hx hAc (fun hn b hb => fun _ => ⟨fun _ => ?_, fun z => absurd rfl z⟩) (fun k3 kc gx3 f3 hA3 l3 hN3 => fun _ => ⟨fun z => absurd z (by decide), fun _ => t_num hx hm hA3 (t := t + 1) (by omega) fun r gx4 hr f4 g4 hM4 => fun _ => ?_⟩)
    · rw [e4, e6, e11] at hn
      rw [e4] at hb
      refine hP 0 _ (Or.inl rfl) (fun c i c1 c2 c3 c4 => by rw [z_u2 (by omega), z_u2 (by omega)]; exact hf c i (by omega)) (fun z => by exfalso; omega) fun gm hk Q hq => ?_
      have k5 := hk.1.2.2.2.2.1
      have k7 := hk.1.2.2.2.2.2.2
      unfold kC at k5
      refine ⟨fun y1 y2 => ?_, fun _ => m_fails hm hk.2.2.2.1 fun gm' j1 j2 j3 => fun _ => hq gm' j1.r (j1 1 t (by omega)) (fun z => by exfalso; omega) (Or.inr ⟨rfl, kBad_here hk j2 j3 (by rw [z_u2 (by omega), z_u1]) (by rw [z_u1]; exact e6) hb (by omega)⟩)⟩
      exfalso
      have k3 : gx 10 4 = 3 := by omega
      have := k7 k3
      have := hsel k3
      exact hn ⟨k3, by omega⟩
    · rw [e4] at k3
      rw [e6, e11] at kc
      have run : ∀ gm, kOK gx gm → ∀ Q : z_P, (∀ gm2, kOK gx3 gm2 → (∀ c i, ¬ (c = 1 ∧ i = t + 5) → ¬ (c = 0 ∧ 11 ≤ i ∧ i ≤ 14) → gm2 c i = gm c i) → gm2 1 (t + 5) = c → z_O Y 3 m_M_number [(2, 0), (0, t + 1), (0, 0), (0, 9999)] K τ gm2 (fun r3 g3 => (r3 = 0 ∨ r3 = 1) → Q r3 g3)) → mCmp Y K τ t gm Q := fun gm hk Q q => by
        have k5 := hk.1.2.2.2.2.1
        have k7 := hk.1.2.2.2.2.2.2 k3
        unfold kC at k5
        refine ⟨fun _ _ => nx_N (gx := gx3) hm ((hN3 gm (okc gm hk).1).c (fun _ _ _ => rfl) (fun _ => rfl) (z_u2 (by omega)) (z_u2 (by omega)) (fun i => z_u2 (by omega))) fun gm2 b1 b2 => q gm2 ⟨b2, ?_, ?_, ?_, ?_⟩ (fun c i c1 c2 => by rw [b1 c i c2, z_u2 (by omega)]) (by rw [b1 _ _ (by omega), z_u1]; omega), fun z => absurd ⟨by omega, by omega⟩ z⟩
        · rw [f3 _ _ (by omega), hf _ _ (by omega)]; exact hk.2.1
        · rw [f3 _ _ (by omega), hf _ _ (by omega)]; exact hk.2.2.1
        · rw [b1 _ _ (by omega), z_u2 (by omega)]; exact hk.2.2.2.1
        · rw [b1 _ _ (by omega), z_u2 (by omega)]; exact hk.2.2.2.2
      have fr : ∀ gm gm2 gm' : z_G, (∀ c i, ¬ (c = 1 ∧ i = t + 5) → ¬ (c = 0 ∧ 11 ≤ i ∧ i ≤ 14) → gm2 c i = gm c i) → (∀ c i, ¬ (c = 1 ∧ i = t + 1) → ¬ (c = 0 ∧ (11 ≤ i ∧ i ≤ 14 ∨ i = 16 ∨ i = 17)) → gm' c i = gm2 c i) → fR gm gm' t := fun gm gm2 gm' q1 q2 c i c1 c2 => by rw [q2 c i (by omega) c2]; exact q1 c i (by omega) (by omega)
      have x97 : ∀ c i, ¬ (c = 9 ∧ i = 8) → ¬ (c = 10 ∧ 3 ≤ i ∧ i ≤ 10) → gx4 c i = gx c i := fun c i c1 c2 => by rw [f4 c i c2, f3 c i (by omega)]; exact hf c i c1
      refine ⟨fun r0 => ?_, fun r0 => ?_⟩
      · subst r0
        exact hP 0 gx4 (Or.inl rfl) (fun c i c1 c2 c3 c4 => x97 c i (by omega) c2) (fun z => by exfalso; omega) fun gm hk Q hq => run gm hk Q fun gm2 ok q1 q2 => hM4 gm2 ok _ fun gm' j1 j2 j3 => fun _ => hq gm' (fr gm gm2 gm' q1 j1) (by rw [j1 _ _ (by omega) (by omega)]; exact q1 _ _ (by omega) (by omega)) (fun z => by exfalso; omega) j3
      · have r1 : r = 1 := by omega
        subst r1
        obtain ⟨hA4, l4, -, -, -, b1, b2, b3, b4⟩ := g4 rfl
        have e3 : gc 10 3 = gx 10 3 := hf _ _ (by omega)
        have a33 := hA3.2.1
        have e48 : gx4 9 8 = c := by rw [f4 _ _ (by omega), f3 _ _ (by omega)]; exact h8
        refine hP 1 _ (Or.inr rfl) (fun c i c1 c2 c3 c4 => by rw [z_u2 (by omega)]; exact x97 c i (by omega) c2) (fun _ => ⟨hA4.c fun i _ _ => z_u2 (by omega), by rw [z_u2 (by omega)]; omega, by rw [z_u2 (by omega)]; exact x97 _ _ (by omega) (by omega)⟩) fun gm hk Q hq => run gm hk Q fun gm2 ok q1 q2 => hM4 gm2 ok _ fun gm' j1 j2 j3 => fun _ => hq gm' (fr gm gm2 gm' q1 j1) (by rw [j1 _ _ (by omega) (by omega)]; exact q1 _ _ (by omega) (by omega)) (fun _ => ?_) ?_
        · have v5 : gm' 1 (t + 5) = c := by rw [j1 _ _ (by omega) (by omega)]; exact q2
          rw [z_u2 (by omega), z_u1, v5, j2.1 rfl, e48]
          exact ⟨rfl, hc, rfl, by omega, by omega⟩
        · rcases j3 with y | y
          · exact Or.inl ⟨rfl, y.2.c (fun i _ _ => z_u2 (by omega)) (fun i => z_u2 (by omega)) (fun _ _ _ _ => rfl) (fun _ => rfl)⟩
          · exfalso; omega
  have i60 : Int32.toInt ((Int32.ofInt 60).toUInt32 % 65536).toInt32 = 60 := by decide
  have i61 : Int32.toInt ((Int32.ofInt 61).toUInt32 % 65536).toInt32 = 61 := by decide
  have i62 : Int32.toInt ((Int32.ofInt 62).toUInt32 % 65536).toInt32 = 62 := by decide
  refine b_Pa_readCompare_0 hx ?_
  rw [i60, i61, i62, show z_up gx 9 8 61 10 4 = gx 10 4 from z_u2 (by omega), show z_up gx 9 8 61 10 6 = gx 10 6 from z_u2 (by omega), show z_up gx 9 8 61 11 (gx 10 6) = gx 11 (gx 10 6) from z_u2 (by omega)]
  refine ⟨fun k3 => ⟨fun z => by exfalso; omega, fun _ => ⟨by omega, fun y => ?_, fun y => ⟨fun y2 => ?_, fun y2 => ?_⟩⟩⟩, fun k3 => ?_⟩
  · exact cmp 60 _ (by omega) (fun _ => by omega) z_u1 (fun c i hc => by rw [z_u2 (by omega), z_u2 (by omega)])
  · exact cmp 62 _ (by omega) (fun _ => by omega) z_u1 (fun c i hc => by rw [z_u2 (by omega), z_u2 (by omega)])
  · exact cmp 61 _ (by omega) (fun _ => by omega) z_u1 (fun c i hc => z_u2 (by omega))
  · exact cmp 61 _ (by omega) (fun z => absurd z k3) z_u1 (fun c i hc => z_u2 (by omega))
def sT (Y : z_X) (K : Nat) (τ gx : z_G) (t : Int) (P : z_P) : Prop := ∀ r gx', (r = 0 ∨ r = 1) → fT gx gx' → (r = 1 → kA gx' ∧ gx 10 3 ≤ gx' 10 6) → (∀ gm, kOK gx gm → ∀ Q : z_P, (∀ gm', fR gm gm' t → (r = 1 → wOK gx' gm' t) → kRes r gx' gm' → Q r gm') → z_O Y 10 m_M_test [(2, 0), (0, t)] K τ gm Q) → P r gx'
/-- the reference at a TEST's word -/
theorem m_test (hm : z_lay Y K τ 0 z_SM z_RM) (hSY : z_St Y K τ) (hA : kA gx) (hk : kOK gx gm) {t : Int} (ht : 0 ≤ t ∧ t < 3290) {w : Nat} (hw : gx 10 4 = 1 ∧ kMt (gx 11) (gx 10 6) (gx 10 3) w) (h16 : 16 ≤ w ∧ w < 20) (h : z_O Y 2 m_M_nextToken [(2, 0)] K τ (z_up gm 1 t (1200 + (w : Int))) (fun _ g1 => (w = 17 → Q 1 g1) ∧ (w = 16 → z_O Y 9 m_M_valueTo [(2, 0), (0, t + 1), (0, 0)] K τ g1 (fun r10 g10 => (r10 = 0 ∨ r10 = 1) → ((r10 = 0 → Q 0 g10) ∧ (¬ r10 = 0 → z_O Y 2 m_M_nextToken [(2, 0)] K τ g10 (fun _ g11 => Q 1 g11))))) ∧ (w = 18 ∨ w = 19 → mCmp Y K τ t g1 Q))) : z_O Y 10 m_M_test [(2, 0), (0, t)] K τ gm Q := by
  refine b_M_test_0 hm (m_word hm hSY hk.1 hA fun r hr => ?_)
  have er : r = (w : Int) := by
    rcases hr with ⟨-, r2⟩ | ⟨v, w1, w2, w3⟩
    · exact absurd hw (r2 w (by omega))
    · rw [w2, kMt_u w1 (by omega) w3.2 hw.2]
  subst er
  refine ⟨fun _ => ⟨by omega, by omega, z_Omono h fun r1 g1 _ hh => ⟨fun z => hh.1 (by omega), fun z => ⟨fun z2 => ⟨by omega, hh.2.1 (by omega)⟩, fun z2 => ?_⟩⟩⟩, fun z => by exfalso; omega⟩
  obtain ⟨c1, c2⟩ := hh.2.2 (by omega)
  have A : g1 0 11 = 4 → (g1 0 14 = 60 ∨ g1 0 14 = 61 ∨ g1 0 14 = 62) → z_O Y 2 m_M_nextToken [(2, 0)] K τ (z_up g1 1 (t + 5) (g1 0 14)) (fun r2 g2 => (-2147483648 ≤ t + 1 ∧ t + 1 ≤ 2147483647) ∧ z_O Y 3 m_M_number [(2, 0), (0, t + 1), (0, 0), (0, 9999)] K τ g2 (fun r3 g3 => (r3 = 0 ∨ r3 = 1) → Q r3 g3)) := fun y1 y2 => z_Omono (c1 y1 y2) fun _ _ _ q => ⟨by omega, q⟩
  exact ⟨fun k4 => ⟨fun v => ⟨by omega, by omega, A k4 (by omega)⟩, fun n60 => ⟨fun v => ⟨by omega, by omega, A k4 (by omega)⟩, fun n62 => ⟨fun v => ⟨by omega, by omega, A k4 (by omega)⟩, fun n61 => c2 (fun z => by omega)⟩⟩⟩, fun k4 => c2 (fun z => k4 z.1)⟩
theorem t_test (hx : z_lay X N σ 0 z_SF z_RF) (hm : z_lay Y K τ 0 z_SM z_RM) (hSX : z_St X N σ) (hSY : z_St Y K τ) (hA : kA gx) {t : Int} (ht : 0 ≤ t ∧ t < 3290) (hP : sT Y K τ gx t P) : z_O X 10 m_Pa_readTest [(2, 9)] N σ gx P := by
  obtain ⟨a1, a2, a3, a4, a5, a6, a7, a8⟩ := id hA
  have wb : gx 10 4 = 1 → 0 ≤ gx 10 6 ∧ gx 10 6 ≤ gx 10 3 ∧ gx 10 3 ≤ 900 := fun _ => by omega
  have get : ∀ {r : Int} {w : Nat}, ((r = 1 ∧ gx 10 4 = 1 ∧ kMt (gx 11) (gx 10 6) (gx 10 3) w) ∨ (r = 0 ∧ ¬ (gx 10 4 = 1 ∧ kMt (gx 11) (gx 10 6) (gx 10 3) w))) → (¬ r = 0 → gx 10 4 = 1 ∧ kMt (gx 11) (gx 10 6) (gx 10 3) w) ∧ (r = 0 → ¬ (gx 10 4 = 1 ∧ kMt (gx 11) (gx 10 6) (gx 10 3) w)) := fun {r w} h => by
    rcases h with ⟨y1, y2⟩ | ⟨y1, y2⟩
    · exact ⟨fun _ => y2, fun z => by exfalso; omega⟩
    · exact ⟨fun z => absurd y1 z, fun _ => y2⟩
  -- a word is passed, cell 9 7 is laid
  have adv : ∀ (v : Int) (P' : z_P), (∀ gx1, kA gx1 → gx 10 3 ≤ gx1 10 6 → gx1 9 7 = v → (∀ c i, ¬ (c = 9 ∧ i = 7) → ¬ (c = 10 ∧ 3 ≤ i ∧ i ≤ 6) → gx1 c i = gx c i) → (∀ (w : Nat) gm (Q : z_P), kOK gx gm → gx 10 4 = 1 ∧ kMt (gx 11) (gx 10 6) (gx 10 3) w → 16 ≤ w ∧ w < 20 → (∀ gm1, kOK gx1 gm1 → fR gm gm1 t → gm1 1 t = 1200 + (w : Int) → (w = 17 → Q 1 gm1) ∧ (w = 16 → z_O Y 9 m_M_valueTo [(2, 0), (0, t + 1), (0, 0)] K τ gm1 (fun r10 g10 => (r10 = 0 ∨ r10 = 1) → ((r10 = 0 → Q 0 g10) ∧ (¬ r10 = 0 → z_O Y 2 m_M_nextToken [(2, 0)] K τ g10 (fun _ g11 => Q 1 g11))))) ∧ (w = 18 ∨ w = 19 → mCmp Y K τ t gm1 Q)) → z_O Y 10 m_M_test [(2, 0), (0, t)] K τ gm Q) → P' 0 gx1) → z_O X 2 m_Ta_advance [(2, 10)] N σ (z_up gx 9 7 v) P' := by
    intro v P' hP'
    refine s_adv hx (by rw [z_u2 (by omega), z_u2 (by omega)]; omega) fun gx1 f1 hA1 l1 hN1 => hP' gx1 hA1 (by rw [z_u2 (by omega)] at l1; exact l1) (by rw [f1 _ _ (by omega), z_u1]) (fun c i c1 c2 => by rw [f1 c i c2, z_u2 (by omega)]) fun w gm Q hk hw h16 q => m_test hm hSY hA hk ht hw h16 (nx_N (gx := gx1) hm (hN1 _ ?_ (fun i i1 i2 => ?_) ?_) fun gm1 b1 b2 => q gm1 ⟨b2, ?_, ?_, ?_, ?_⟩ (fun c i c1 c2 => by rw [b1 c i (by omega), z_u2 (by omega)]) (by rw [b1 _ _ (by omega), z_u1]))
    · rw [z_u2 (by omega), z_u2 (by omega)]; exact hk.1.1
    · rw [z_u2 (by omega)] at i2
      rw [z_u2 (by omega), z_u2 (by omega)]; exact hk.1.2.1 i i1 i2
    · rw [z_u2 (by omega), z_u2 (by omega)]; exact hk.1.2.2.2.1
    · rw [f1 _ _ (by omega), z_u2 (by omega)]; exact hk.2.1
    · rw [f1 _ _ (by omega), z_u2 (by omega)]; exact hk.2.2.1
    · rw [b1 _ _ (by omega), z_u2 (by omega)]; exact hk.2.2.2.1
    · rw [b1 _ _ (by omega), z_u2 (by omega)]; exact hk.2.2.2.2
  have cmpT : ∀ (v : Int) (w : Nat), (v = 2 ∧ w = 18) ∨ (v = 3 ∧ w = 19) → gx 10 4 = 1 ∧ kMt (gx 11) (gx 10 6) (gx 10 3) w → z_O X 2 m_Ta_advance [(2, 10)] N σ (z_up gx 9 7 v) (fun _ g10 => z_O X 4 m_Pa_readCompare [(2, 9)] N σ g10 (fun r11 g11 => (r11 = 0 ∨ r11 = 1) → P r11 g11)) := by
    intro v w hvw hw
    refine adv v _ fun gx1 hA1 l1 e7 f1 hM1 => t_compare hx hm hA1 ht fun r gx2 hr f2 g2 hM2 => fun _ => hP r gx2 hr (fun c i c1 c2 c3 c4 => by rw [f2 c i c1 c2 c3 c4]; exact f1 c i (by omega) (by omega)) (fun z => ?_) fun gm hk Q hq => hM1 w gm Q hk hw (by omega) fun gm1 ok q1 q2 => ⟨fun z => by exfalso; omega, fun z => by exfalso; omega, fun _ => hM2 gm1 ok Q fun gm' j1 j2 j3 j4 => hq gm' (q1.tr j1) (fun z => ?_) j4⟩
    · obtain ⟨c1, c2, c3⟩ := g2 z
      have := hA1.2.1
      exact ⟨c1, by omega⟩
    · obtain ⟨c1, c2, c3⟩ := g2 z
      obtain ⟨d1, d2, d3, d4, d5⟩ := j3 z
      refine Or.inr (Or.inr ⟨?_, d1, d2, d3, d4, d5⟩)
      rcases hvw with y | y
      · exact Or.inl ⟨by rw [j2, q2, y.2]; rfl, by rw [c3, e7]; exact y.1⟩
      · exact Or.inr ⟨by rw [j2, q2, y.2]; rfl, by rw [c3, e7]; exact y.1⟩
  refine b_Pa_readTest_0 hx (s_Ta_isWord hx hSX (k := 16) (by omega) wb fun r0 h0 => fun _ => ⟨fun z0 => s_Ta_isWord hx hSX (k := 17) (by omega) wb fun r1 h1 => fun _ => ⟨fun z1 => s_Ta_isWord hx hSX (k := 18) (by omega) wb fun r2 h2 => fun _ => ⟨fun z2 => s_Ta_isWord hx hSX (k := 19) (by omega) wb fun r8 h8 => fun _ => ⟨fun z8 => ?_, fun z8 => s_Ta_isWord hx hSX (k := 18) (by omega) wb fun r9 h9 => fun _ => ⟨fun z9 => cmpT 3 19 (by omega) ((get h8).1 z8), fun z9 => absurd ((get h9).1 z9) ((get h2).2 z2)⟩⟩, fun z2 => s_Ta_isWord hx hSX (k := 18) (by omega) wb fun r3 h3 => fun _ => ⟨fun z3 => absurd ((get h2).1 z2) ((get h3).2 z3), fun z3 => cmpT 2 18 (by omega) ((get h2).1 z2)⟩⟩, fun z1 => ?_⟩, fun z0 => ?_⟩)
  · -- no TEST's word
    have n16 : ¬ (gx 10 4 = 1 ∧ kMt (gx 11) (gx 10 6) (gx 10 3) 16) := (get h0).2 z0
    have n17 : ¬ (gx 10 4 = 1 ∧ kMt (gx 11) (gx 10 6) (gx 10 3) 17) := (get h1).2 z1
    have n18 : ¬ (gx 10 4 = 1 ∧ kMt (gx 11) (gx 10 6) (gx 10 3) 18) := (get h2).2 z2
    have n19 : ¬ (gx 10 4 = 1 ∧ kMt (gx 11) (gx 10 6) (gx 10 3) 19) := (get h8).2 z8
    have bad : ∀ b, ((gx 10 4 = 4 → b = 1) ∧ (¬ gx 10 4 = 4 → b = 2)) → P 0 (z_up (z_up gx 10 9 b) 10 10 (gx 10 6)) := fun b hb => by
      refine hP 0 _ (Or.inl rfl) ((fC.rf.up (by omega)).up (by omega)).t (fun z => by exfalso; omega) fun gm hk Q hq => b_M_test_0 hm (m_word hm hSY hk.1 hA fun r hr => ⟨fun z => ?_, fun _ => m_fails hm hk.2.2.2.1 fun gm' f1 f2 f3 => fun _ => hq gm' f1.r (fun z => by exfalso; omega) (Or.inr ⟨rfl, kBad_here hk f2 f3 (by rw [z_u2 (by omega), z_u1]) z_u1 hb (by omega)⟩)⟩)
      exfalso
      rcases hr with ⟨y1, -⟩ | ⟨w, w1, w2, w3⟩
      · omega
      · rcases (show w = 16 ∨ w = 17 ∨ w = 18 ∨ w = 19 by omega) with e | e | e | e
        · rw [e] at w3; exact n16 w3
        · rw [e] at w3; exact n17 w3
        · rw [e] at w3; exact n18 w3
        · rw [e] at w3; exact n19 w3
    exact ⟨fun y => bad 1 (by omega), fun y => bad 2 (by omega)⟩
  · -- pinned
    refine adv 1 _ fun gx1 hA1 l1 e7 f1 hM1 => hP 1 gx1 (Or.inr rfl) (fun c i c1 c2 c3 c4 => f1 c i (by omega) (by omega)) (fun _ => ⟨hA1, l1⟩) fun gm hk Q hq => hM1 17 gm Q hk ((get h1).1 z1) (by omega) fun gm1 ok q1 q2 => ⟨fun _ => hq gm1 q1 (fun _ => Or.inr (Or.inl ⟨q2, e7⟩)) (Or.inl ⟨rfl, ok⟩), fun z => absurd z (by decide), fun z => absurd z (by decide)⟩
  · -- at
    refine adv 0 _ fun gx1 hA1 l1 e7 f1 hM1 => t_val hx hm hSX hSY hA1 (t := t + 1) (oT := 0) (by omega) fun r gx2 T B hr f2 g2 hM2 => fun _ => ⟨fun r0 => ?_, fun r0 => ?_⟩
    · subst r0
      exact hP 0 gx2 (Or.inl rfl) (fun c i c1 c2 c3 c4 => by rw [f2 c i c2 c3 c4]; exact f1 c i (by omega) (by omega)) (fun z => by exfalso; omega) fun gm hk Q hq => hM1 16 gm Q hk ((get h0).1 z0) (by omega) fun gm1 ok q1 q2 => ⟨fun z => absurd z (by decide), fun _ => hM2 gm1 ok _ (fun _ gm' v1 _ kb => fun _ => ⟨fun _ => hq gm' (fun c i c1 c2 => by rw [v1 c i (by omega) c2]; exact q1 c i c1 c2) (fun z => by exfalso; omega) (Or.inr ⟨rfl, kb⟩), fun z => absurd rfl z⟩) (fun z => by exfalso; omega) (fun z => by exfalso; omega), fun z => absurd z (by decide)⟩
    · have r1 : r = 1 := by omega
      subst r1
      obtain ⟨hA2, l2, t0, tb, b1, b2, hc⟩ := g2 rfl
      have c3 : gx2 12 3 = T / Int.gcd T B := hc.2.2.2.2.1
      have c4 : gx2 12 4 = B / Int.gcd T B := hc.2.2.2.2.2.1
      have a13 := hA1.2.1
      have uo : ∀ c i, ¬ (c = 9 ∧ (i = 8 ∨ i = 9)) → z_up (z_up gx2 9 8 (gx2 12 3)) 9 9 (gx2 12 4) c i = gx2 c i := fun c i hc => by rw [z_u2 (by omega), z_u2 (by omega)]
      refine hP 1 _ (Or.inr rfl) (fun c i c1 c2 c3 c4 => by rw [uo c i (by omega), f2 c i c2 c3 c4]; exact f1 c i (by omega) (by omega)) (fun _ => ⟨hA2.c fun i _ _ => uo _ _ (by omega), by rw [uo _ _ (by omega)]; omega⟩) fun gm hk Q hq => hM1 16 gm Q hk ((get h0).1 z0) (by omega) fun gm1 ok q1 q2 => ⟨fun z => absurd z (by decide), fun _ => hM2 gm1 ok _ (fun z => by exfalso; omega) (fun _ _ gm2 v1 m1 m2 kn m12 m11 m17 m16 x9 x10 => fun _ => ⟨fun z => by exfalso; omega, fun _ => nx_N (gx := gx2) hm kn fun gm3 n1 n2 => hq gm3 (fun c i c1 c2 => by rw [n1 c i (by omega), v1 c i (by omega) c2]; exact q1 c i c1 c2) (fun _ => Or.inl ⟨?_, ?_, ?_, ?_⟩) (Or.inl ⟨rfl, ⟨n2.c (fun i _ _ => uo _ _ (by omega)) (fun i => uo _ _ (by omega)) (fun _ _ _ => rfl) (fun _ => rfl), ?_, ?_, ?_, ?_⟩⟩)⟩) (fun _ z => absurd rfl z), fun z => absurd z (by decide)⟩
      · rw [n1 _ _ (by omega), v1 _ _ (by omega) (by omega), q2]; rfl
      · rw [uo _ _ (by omega), f2 _ _ (by omega) (by omega) (by omega)]; exact e7
      · rw [z_u2 (by omega), z_u1, n1 _ _ (by omega), m1]; exact c3
      · rw [z_u1, n1 _ _ (by omega), show t + 2 = t + 1 + 1 by omega, m2]; exact c4
      · rw [uo _ _ (by omega)]; exact x9
      · rw [uo _ _ (by omega)]; exact x10
      · rw [n1 _ _ (by omega)]; exact m17
      · rw [n1 _ _ (by omega)]; exact m16
end Lock

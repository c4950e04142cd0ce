/-! ## a STUDY: odds, order -/
def cB (gx : z_G) : Prop := (0 ≤ gx 39 3 ∧ gx 39 3 ≤ 12) ∧ n_sp (gx 38 0) (gx 38 1) (gx 38 2) (gx 38 3) ∧ gx 38 1 + gx 38 3 ≤ 9999
def cT (gx : z_G) : Prop := (gx 9 2 = 0 ∨ gx 9 2 = 1) ∧ (gx 9 3 = 0 ∨ gx 9 3 = 1) ∧ (gx 9 4 = 0 ∨ gx 9 4 = 1)
def jB (gx gm : z_G) : Prop := iO (fX gx 37) (fM gm 2440) ∧ iW (fX gx 37) (fM gm 2440) ∧ iP (fX gx 37) (fM gm 2440)
def sR (gx gm : z_G) : Prop := kOK gx gm ∧ jB gx gm ∧ gm 0 18 = gx 9 2 + 2 * gx 9 3 + 4 * gx 9 4
def sE (gx' gm' : z_G) : Prop := kBad gx' gm' ∧ (0 ≤ gm' 1 2442 ∧ gm' 1 2442 ≤ 9999) ∧ (0 ≤ gm' 1 2443 ∧ gm' 1 2443 ≤ 9999)
def fQ (gx gx' : z_G) : Prop := ∀ c i, ¬ (c = 9 ∧ 2 ≤ i ∧ i ≤ 4) → ¬ (c = 10 ∧ 3 ≤ i ∧ i ≤ 10) → c ≠ 12 → c ≠ 13 → ¬ (37 ≤ c ∧ c ≤ 42) → gx' c i = gx c i
def fS (gm gm' : z_G) : Prop := ∀ c i, ¬ (c = 1 ∧ (2440 ≤ i ∧ i ≤ 2444 ∨ 2450 ≤ i ∧ i < 2486)) → ¬ (c = 0 ∧ (11 ≤ i ∧ i ≤ 14 ∨ 16 ≤ i ∧ i ≤ 18)) → gm' c i = gm c i
theorem fC.q {gx gx' : z_G} (h : fC gx gx') : fQ gx gx' := fun c i _ h2 _ _ _ => h c i h2
theorem fQ.tr {gx gx' gx'' : z_G} (h : fQ gx gx') (h' : fQ gx' gx'') : fQ gx gx'' := fun c i h1 h2 h3 h4 h5 => (h' c i h1 h2 h3 h4 h5).trans (h c i h1 h2 h3 h4 h5)
theorem fD.s {gx gx' : z_G} (h : fD gx gx') : fS gx gx' := fun c i _ h2 => h c i (by omega)
theorem fS.tr {gx gx' gx'' : z_G} (h : fS gx gx') (h' : fS gx' gx'') : fS gx gx'' := fun c i h1 h2 => (h' c i h1 h2).trans (h c i h1 h2)
theorem kA.c {gx gx' : z_G} (h : kA gx) (h1 : ∀ i, 2 ≤ i → i ≤ 6 → gx' 10 i = gx 10 i) : kA gx' := by
  unfold kA at h ⊢
  rw [h1 6 (by omega) (by omega), h1 3 (by omega) (by omega), h1 2 (by omega) (by omega), h1 4 (by omega) (by omega), h1 5 (by omega) (by omega)]; exact h
theorem kS.c {gx gx' gm gm' : z_G} (h : kS gx gm) (h1 : ∀ i, 2 ≤ i → i ≤ 6 → gx' 10 i = gx 10 i) (h2 : ∀ i, gx' 11 i = gx 11 i) (h3 : ∀ i, 10 ≤ i → i ≤ 14 → gm' 0 i = gm 0 i) (h4 : ∀ i, gm' 6 i = gm 6 i) : kS gx' gm' := by
  unfold kS at h ⊢
  rw [h1 6 (by omega) (by omega), h1 3 (by omega) (by omega), h1 2 (by omega) (by omega), h1 4 (by omega) (by omega), h1 5 (by omega) (by omega), h2 (gx 10 6), h3 10 (by omega) (by omega), h3 12 (by omega) (by omega), h3 13 (by omega) (by omega), h3 11 (by omega) (by omega), h3 14 (by omega) (by omega)]
  exact ⟨h.1, fun i i1 i2 => by rw [h2, h4]; exact h.2.1 i i1 i2, h.2.2⟩
theorem kOK.c {gx gx' gm gm' : z_G} (h : kOK gx gm) (h1 : ∀ i, 2 ≤ i → i ≤ 10 → gx' 10 i = gx 10 i) (h2 : ∀ i, gx' 11 i = gx 11 i) (h3 : ∀ i, 10 ≤ i → i ≤ 17 → i ≠ 15 → gm' 0 i = gm 0 i) (h4 : ∀ i, gm' 6 i = gm 6 i) : kOK gx' gm' := by
  refine ⟨h.1.c (fun i i1 i2 => h1 i i1 (by omega)) h2 (fun i i1 i2 => h3 i i1 (by omega) (by omega)) h4, ?_, ?_, ?_, ?_⟩
  · rw [h1 9 (by omega) (by omega)]; exact h.2.1
  · rw [h1 10 (by omega) (by omega)]; exact h.2.2.1
  · rw [h3 17 (by omega) (by omega) (by omega)]; exact h.2.2.2.1
  · rw [h3 16 (by omega) (by omega) (by omega)]; exact h.2.2.2.2
theorem kN.c {gx gx' gm gm' : z_G} (h : kN gx gm) (h1 : ∀ i, 2 ≤ i → i ≤ 6 → gx' 10 i = gx 10 i) (h2 : ∀ i, gx' 11 i = gx 11 i) (h3 : gm' 0 10 = gm 0 10) (h3' : gm' 0 13 = gm 0 13) (h4 : ∀ i, gm' 6 i = gm 6 i) : kN gx' gm' := by
  unfold kN at h ⊢
  rw [h1 6 (by omega) (by omega), h1 3 (by omega) (by omega), h1 2 (by omega) (by omega), h1 4 (by omega) (by omega), h1 5 (by omega) (by omega), show gx' 11 = gx 11 from funext h2, h3, h3']
  exact ⟨h.1, fun i i1 i2 => by rw [h4]; exact h.2.1 i i1 i2, h.2.2⟩
theorem jB.c {gx gx' gm gm' : z_G} (h : jB gx gm) (h1 : ∀ c i, 37 ≤ c → c ≤ 42 → gx' c i = gx c i) (h2 : ∀ i, 2440 ≤ i → i < 2486 → gm' 1 i = gm 1 i) : jB gx' gm' :=
  ⟨h.1.c (fun i => h1 _ _ (by omega) (by omega)) (fun i i1 i2 => h2 _ (by omega) (by omega)), h.2.1.c (fun i => h1 _ _ (by omega) (by omega)) (fun i i1 i2 => h2 _ (by omega) (by omega)), h.2.2.c (fun j i j1 j2 => h1 _ _ (by omega) (by omega)) (fun i i1 => h2 _ (by omega) (by omega))⟩
theorem jB.e {gx gm : z_G} (h : jB gx gm) : (0 ≤ gm 1 2442 ∧ gm 1 2442 ≤ 9999) ∧ (0 ≤ gm 1 2443 ∧ gm 1 2443 ≤ 9999) := by
  obtain ⟨w0, w1, w2, w3, w4⟩ := h.2.1
  have := n_sp_lt w0
  have w1 : fX gx 37 1 0 + fX gx 37 1 2 = gm 1 2442 := w1
  have w2 : fX gx 37 1 1 + fX gx 37 1 3 = gm 1 2443 := w2
  have w3 : gm 1 2443 ≤ 9999 := w3
  omega
theorem cB.c {gx gx' : z_G} (h : cB gx) (h1 : ∀ c i, 38 ≤ c → c ≤ 39 → gx' c i = gx c i) : cB gx' := by
  unfold cB at h ⊢
  rw [h1 39 3 (by omega) (by omega), h1 38 0 (by omega) (by omega), h1 38 1 (by omega) (by omega), h1 38 2 (by omega) (by omega), h1 38 3 (by omega) (by omega)]; exact h
theorem kBit0 {a b c : Int} (ha : a = 0 ∨ a = 1) (hb : b = 0 ∨ b = 1) (hc : c = 0 ∨ c = 1) : Int32.toInt (Int32.ofInt (Int32.toInt (Int32.ofInt (a + 2 * b + 4 * c) >>> (Int32.ofInt 0 &&& 31))) &&& Int32.ofInt 1) = a ∧ (a = 0 → Int32.toInt (Int32.ofInt (a + 2 * b + 4 * c) ||| Int32.ofInt (Int32.toInt (Int32.ofInt 1 <<< (Int32.ofInt 0 &&& 31)))) = a + 2 * b + 4 * c + 1) := by
  rcases ha with rfl | rfl <;> rcases hb with rfl | rfl <;> rcases hc with rfl | rfl <;> decide
theorem kBit1 {a b c : Int} (ha : a = 0 ∨ a = 1) (hb : b = 0 ∨ b = 1) (hc : c = 0 ∨ c = 1) : Int32.toInt (Int32.ofInt (Int32.toInt (Int32.ofInt (a + 2 * b + 4 * c) >>> (Int32.ofInt 1 &&& 31))) &&& Int32.ofInt 1) = b ∧ (b = 0 → Int32.toInt (Int32.ofInt (a + 2 * b + 4 * c) ||| Int32.ofInt (Int32.toInt (Int32.ofInt 1 <<< (Int32.ofInt 1 &&& 31)))) = a + 2 * b + 4 * c + 2) := by
  rcases ha with rfl | rfl <;> rcases hb with rfl | rfl <;> rcases hc with rfl | rfl <;> decide
theorem kBit2 {a b c : Int} (ha : a = 0 ∨ a = 1) (hb : b = 0 ∨ b = 1) (hc : c = 0 ∨ c = 1) : Int32.toInt (Int32.ofInt (Int32.toInt (Int32.ofInt (a + 2 * b + 4 * c) >>> (Int32.ofInt 2 &&& 31))) &&& Int32.ofInt 1) = c ∧ (c = 0 → Int32.toInt (Int32.ofInt (a + 2 * b + 4 * c) ||| Int32.ofInt (Int32.toInt (Int32.ofInt 1 <<< (Int32.ofInt 2 &&& 31)))) = a + 2 * b + 4 * c + 4) := by
  rcases ha with rfl | rfl <;> rcases hb with rfl | rfl <;> rcases hc with rfl | rfl <;> decide
section Lock
variable {X Y : z_X} {N K : Nat} {σ τ gx gm : z_G} {P Q : z_P}
theorem m_told0 (hm : z_lay Y K τ 0 z_SM z_RM) (hSY : z_St Y K τ) (hA : kA gx) (hT : cT gx) (hs : sR gx gm) (hw : gx 10 4 = 1 ∧ kMt (gx 11) (gx 10 6) (gx 10 3) 0) (h1 : gx 9 2 = 1 → ∀ gm', fD gm gm' → gm' 0 17 = 5 → gm' 0 16 = gm 0 12 → Q 0 gm') (h2 : gx 9 2 = 0 → z_O Y 2 m_M_nextToken [(2, 0)] K τ (z_up gm 0 18 (gm 0 18 + 1)) (fun r3 g3 => z_O Y 3 m_M_number [(2, 0), (0, 2440), (0, 0), (0, 16)] K τ g3 (fun r8 g8 => (r8 = 0 ∨ r8 = 1) → (((r8 = 0) → Q 0 g8) ∧ (¬ (r8 = 0) → (z_O Y 3 m_M_wantSign [(2, 0), (0, 59)] K τ g8 (fun r9 g9 => (r9 = 0 ∨ r9 = 1) → (((r9 = 0) → Q 0 g9) ∧ (¬ (r9 = 0) → Q 1 g9)))))))) ) : z_O Y 11 m_M_studyPart [(2, 0)] K τ gm Q := by
  refine b_M_studyPart_0 hm (m_word hm hSY hs.1.1 hA fun r hr => ?_)
  have er : r = 0 := by
    rcases hr with ⟨-, r2⟩ | ⟨w, w1, w2, w3⟩
    · exact absurd hw (r2 0 (by omega))
    · rw [w2, kMt_u w1 (by omega) w3.2 hw.2]; rfl
  subst er
  obtain ⟨k1, k2⟩ := kBit0 hT.1 hT.2.1 hT.2.2
  rw [← hs.2.2] at k1 k2
  have hk := hs.1.1.2.2.2.2.1
  unfold kC at hk
  refine ⟨fun z => by exfalso; omega, fun _ => ⟨fun _ => ⟨fun z => by exfalso; omega, fun _ => ⟨fun z => m_fails hm hs.1.2.2.2.1 fun gm' f1 f2 f3 => fun _ => h1 (by omega) gm' f1 (by rw [f2, if_neg (by omega)]) f3, fun z => ?_⟩⟩, fun z => by exfalso; omega⟩⟩
  have f0 : gx 9 2 = 0 := by have := hT; unfold cT at this; omega
  rw [k2 f0]
  refine z_Omono (h2 f0) fun r3 g3 _ hh => ?_
  exact ⟨fun _ => hh, fun z => by exfalso; omega⟩
theorem m_told1 (hm : z_lay Y K τ 0 z_SM z_RM) (hSY : z_St Y K τ) (hA : kA gx) (hT : cT gx) (hs : sR gx gm) (hw : gx 10 4 = 1 ∧ kMt (gx 11) (gx 10 6) (gx 10 3) 1) (h1 : gx 9 3 = 1 → ∀ gm', fD gm gm' → gm' 0 17 = 5 → gm' 0 16 = gm 0 12 → Q 0 gm') (h2 : gx 9 3 = 0 → z_O Y 2 m_M_nextToken [(2, 0)] K τ (z_up gm 0 18 (gm 0 18 + 2)) (fun r3 g3 => z_O Y 3 m_M_number [(2, 0), (0, 2441), (0, 1), (0, 200)] K τ g3 (fun r8 g8 => (r8 = 0 ∨ r8 = 1) → (((r8 = 0) → Q 0 g8) ∧ (¬ (r8 = 0) → (z_O Y 3 m_M_wantSign [(2, 0), (0, 59)] K τ g8 (fun r9 g9 => (r9 = 0 ∨ r9 = 1) → (((r9 = 0) → Q 0 g9) ∧ (¬ (r9 = 0) → Q 1 g9)))))))) ) : z_O Y 11 m_M_studyPart [(2, 0)] K τ gm Q := by
  refine b_M_studyPart_0 hm (m_word hm hSY hs.1.1 hA fun r hr => ?_)
  have er : r = 1 := by
    rcases hr with ⟨-, r2⟩ | ⟨w, w1, w2, w3⟩
    · exact absurd hw (r2 1 (by omega))
    · rw [w2, kMt_u w1 (by omega) w3.2 hw.2]; rfl
  subst er
  obtain ⟨k1, k2⟩ := kBit1 hT.1 hT.2.1 hT.2.2
  rw [← hs.2.2] at k1 k2
  have hk := hs.1.1.2.2.2.2.1
  unfold kC at hk
  refine ⟨fun z => by exfalso; omega, fun _ => ⟨fun _ => ⟨fun z => by exfalso; omega, fun _ => ⟨fun z => m_fails hm hs.1.2.2.2.1 fun gm' f1 f2 f3 => fun _ => h1 (by omega) gm' f1 (by rw [f2, if_neg (by omega)]) f3, fun z => ?_⟩⟩, fun z => by exfalso; omega⟩⟩
  have f0 : gx 9 3 = 0 := by have := hT; unfold cT at this; omega
  rw [k2 f0]
  refine z_Omono (h2 f0) fun r3 g3 _ hh => ?_
  exact ⟨fun z => by exfalso; omega, fun _ => ⟨fun _ => hh, fun z => by exfalso; omega⟩⟩
theorem m_told2 (hm : z_lay Y K τ 0 z_SM z_RM) (hSY : z_St Y K τ) (hA : kA gx) (hT : cT gx) (hs : sR gx gm) (hw : gx 10 4 = 1 ∧ kMt (gx 11) (gx 10 6) (gx 10 3) 2) (h1 : gx 9 4 = 1 → ∀ gm', fD gm gm' → gm' 0 17 = 5 → gm' 0 16 = gm 0 12 → Q 0 gm') (h2 : gx 9 4 = 0 → z_O Y 2 m_M_nextToken [(2, 0)] K τ (z_up gm 0 18 (gm 0 18 + 4)) (fun r3 g3 => z_O Y 10 m_M_aPlace [(2, 0)] K τ g3 (fun r8 g8 => (r8 = 0 ∨ r8 = 1) → (((r8 = 0) → Q 0 g8) ∧ (¬ (r8 = 0) → (z_O Y 3 m_M_wantSign [(2, 0), (0, 59)] K τ g8 (fun r9 g9 => (r9 = 0 ∨ r9 = 1) → (((r9 = 0) → Q 0 g9) ∧ (¬ (r9 = 0) → Q 1 g9)))))))) ) : z_O Y 11 m_M_studyPart [(2, 0)] K τ gm Q := by
  refine b_M_studyPart_0 hm (m_word hm hSY hs.1.1 hA fun r hr => ?_)
  have er : r = 2 := by
    rcases hr with ⟨-, r2⟩ | ⟨w, w1, w2, w3⟩
    · exact absurd hw (r2 2 (by omega))
    · rw [w2, kMt_u w1 (by omega) w3.2 hw.2]; rfl
  subst er
  obtain ⟨k1, k2⟩ := kBit2 hT.1 hT.2.1 hT.2.2
  rw [← hs.2.2] at k1 k2
  have hk := hs.1.1.2.2.2.2.1
  unfold kC at hk
  refine ⟨fun z => by exfalso; omega, fun _ => ⟨fun _ => ⟨fun z => by exfalso; omega, fun _ => ⟨fun z => m_fails hm hs.1.2.2.2.1 fun gm' f1 f2 f3 => fun _ => h1 (by omega) gm' f1 (by rw [f2, if_neg (by omega)]) f3, fun z => ?_⟩⟩, fun z => by exfalso; omega⟩⟩
  have f0 : gx 9 4 = 0 := by have := hT; unfold cT at this; omega
  rw [k2 f0]
  refine z_Omono (h2 f0) fun r3 g3 _ hh => ?_
  exact ⟨fun z => by exfalso; omega, fun _ => ⟨fun z => by exfalso; omega, fun _ => hh⟩⟩
end Lock

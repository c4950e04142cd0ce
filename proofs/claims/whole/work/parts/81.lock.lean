/-! ## TOKENS side by side -/
theorem kV_c {f f' : Int → Int} {a : Int} (n : Nat) (h : ∀ i, a ≤ i → i < a + n → f' i = f i) : kV f' a n = kV f a n := by
  induction n with
  | zero => rfl
  | succ n ih =>
    show kV f' a n * 10 + (f' (a + n) - 48) = kV f a n * 10 + (f (a + n) - 48)
    rw [ih (fun i i1 i2 => h i i1 (by omega)), h (a + n) (by omega) (by omega)]
theorem kT_c {f f' : Int → Int} {n b a e k v : Int} (h : kT f n b a e k v) (hb : 0 ≤ b) (hf : ∀ i, 0 ≤ i → i < n → f' i = f i) : kT f' n b a e k v := by
  obtain ⟨h1, h2, h3⟩ := h
  have an : a ≤ n := by rcases h3 with q | q <;> omega
  refine ⟨h1, fun i i1 i2 => by rw [hf i (by omega) (by omega)]; exact h2 i i1 i2, ?_⟩
  rcases h3 with q | ⟨p1, p2, p3⟩
  · exact Or.inl q
  · refine Or.inr ⟨p1, by rw [hf a (by omega) p1]; exact p2, ?_⟩
    rw [hf a (by omega) p1]
    have fe : ∀ {S : Int → Prop}, e ≤ n → a < e → (e = n ∨ ¬ S (f e)) → (e = n ∨ ¬ S (f' e)) := fun {S} e1 e2 e3 => by
      rcases e3 with z | z
      · exact Or.inl z
      · rcases Int.lt_or_le e n with y | y
        · rw [hf e (by omega) y]; exact Or.inr z
        · exact Or.inl (by omega)
    rcases p3 with ⟨r1, r2, r3, r4, r5⟩ | ⟨r1, r2, r3, r4, r5⟩ | q | q
    · exact Or.inl ⟨r1, r2, r3, fun i i1 i2 => by rw [hf i (by omega) (by omega)]; exact r4 i i1 i2, fe r3 r2 r5⟩
    · refine Or.inr (Or.inl ⟨r1, r2, fun i i1 i2 => by rw [hf i (by omega) (by omega)]; exact r3 i i1 i2, fe r2 r1 r4, ?_⟩)
      rw [kV_c (f := f) (f' := f') (e - a).toNat (fun i i1 i2 => hf i (by omega) (by omega))]
      exact r5
    · exact Or.inr (Or.inr (Or.inl q))
    · exact Or.inr (Or.inr (Or.inr q))
/-- the class's TOKEN -/
def kA (gx : z_G) : Prop := 0 ≤ gx 10 6 ∧ gx 10 6 ≤ gx 10 3 ∧ gx 10 3 ≤ gx 10 2 ∧ gx 10 2 ≤ 900 ∧ (gx 10 4 = 0 ∨ gx 10 4 = 1 ∨ gx 10 4 = 2 ∨ gx 10 4 = 3 ∨ gx 10 4 = 4) ∧ (gx 10 4 = 2 → 0 ≤ gx 10 5 ∧ gx 10 5 ≤ 9999) ∧ (¬ gx 10 4 = 0 → gx 10 6 < gx 10 3) ∧ (gx 10 4 = 0 → gx 10 6 = gx 10 2)
/-- both stand at the same TOKEN -/
def kS (gx gm : z_G) : Prop := gx 10 2 = gm 0 10 ∧ (∀ i, 0 ≤ i → i < gm 0 10 → gx 11 i = gm 6 i % 256) ∧ gx 10 6 = gm 0 12 ∧ gx 10 3 = gm 0 13 ∧ kC (gx 10 4) (gm 0 11) ∧ (gx 10 4 = 2 → gx 10 5 = gm 0 14) ∧ (gx 10 4 = 3 → gx 11 (gx 10 6) = gm 0 14)
/-- the reference's next TOKEN will be the class's -/
def kN (gx gm : z_G) : Prop := gx 10 2 = gm 0 10 ∧ (∀ i, 0 ≤ i → i < gm 0 10 → gx 11 i = gm 6 i % 256) ∧ 0 ≤ gm 0 13 ∧ gm 0 13 ≤ gm 0 10 ∧ gm 0 10 ≤ 900 ∧ kT (gx 11) (gx 10 2) (gm 0 13) (gx 10 6) (gx 10 3) (gx 10 4) (gx 10 5)
theorem kT_A {f : Int → Int} {n b a e k v : Int} (h : kT f n b a e k v) (hb : 0 ≤ b ∧ n ≤ 900) : 0 ≤ a ∧ a ≤ e ∧ e ≤ n ∧ (k = 0 ∨ k = 1 ∨ k = 2 ∨ k = 3 ∨ k = 4) ∧ (k = 2 → 0 ≤ v ∧ v ≤ 9999) ∧ (¬ k = 0 → a < e) ∧ (k = 0 → a = n) := by
  obtain ⟨h1, h2, h3⟩ := h
  rcases h3 with q | ⟨p1, p2, ⟨r1, r2, r3, r4, r5⟩ | ⟨r1, r2, r3, r4, ⟨r5, r6, r7⟩ | r5⟩ | q | q⟩
  · exact ⟨by omega, by omega, by omega, by omega, by omega, by omega, by omega⟩
  · exact ⟨by omega, by omega, by omega, by omega, by omega, by omega, by omega⟩
  · have := kV_4 (f := f) (a := a) (n := (e - a).toNat) (by omega) (fun i i1 i2 => r3 i i1 (by omega))
    exact ⟨by omega, by omega, by omega, by omega, by omega, by omega, by omega⟩
  · exact ⟨by omega, by omega, by omega, by omega, by omega, by omega, by omega⟩
  · exact ⟨by omega, by omega, by omega, by omega, by omega, by omega, by omega⟩
  · exact ⟨by omega, by omega, by omega, by omega, by omega, by omega, by omega⟩
section Lock
variable {X Y : z_X} {N K : Nat} {σ τ gx gm : z_G} {P Q : z_P}
theorem s_adv (hx : z_lay X N σ 0 z_SF z_RF) (hA : 0 ≤ gx 10 3 ∧ gx 10 3 ≤ gx 10 2 ∧ gx 10 2 ≤ 900) (hP : ∀ gx', fA gx gx' → kA gx' → gx 10 3 ≤ gx' 10 6 → (∀ gm, gx 10 2 = gm 0 10 → (∀ i, 0 ≤ i → i < gm 0 10 → gx 11 i = gm 6 i % 256) → gx 10 3 = gm 0 13 → kN gx' gm) → P 0 gx') : z_O X 2 m_Ta_advance [(2, 10)] N σ gx P := by
  refine s_Ta_advance hx hA fun gx' hf hT => ?_
  have e2 : gx' 10 2 = gx 10 2 := hf 10 2 (by omega)
  have e11 : ∀ i, gx' 11 i = gx 11 i := fun i => hf 11 i (by omega)
  obtain ⟨a1, a2, a3, a4, a5, a6, a7⟩ := kT_A hT (by omega)
  refine hP gx' hf ⟨a1, a2, by omega, by omega, a4, a5, a6, by omega⟩ hT.1 fun gm b1 b2 b3 => ⟨by omega, fun i i1 i2 => by rw [e11]; exact b2 i i1 i2, by omega, by omega, by omega, ?_⟩
  rw [e2, ← b3, show gx' 11 = gx 11 from funext e11]
  exact hT
theorem nx_N (hm : z_lay Y K τ 0 z_SM z_RM) (h : kN gx gm) (hq : ∀ gm', fB gm gm' → kS gx gm' → Q 0 gm') : z_O Y 2 m_M_nextToken [(2, 0)] K τ gm Q := by
  obtain ⟨h1, h2, h3, h4, h5, h6⟩ := h
  refine s_M_nextToken hm (by omega) fun gm' k hf hk hT h14 => hq gm' hf ?_
  rw [h1] at h6
  have hT' := kT_c hT h3 (f' := gx 11) h2
  obtain ⟨u1, u2, u3, u4⟩ := kT_u h6 hT'
  have e10 : gm' 0 10 = gm 0 10 := hf 0 10 (by omega)
  have e6 : ∀ i, gm' 6 i = gm 6 i := fun i => hf 6 i (by omega)
  obtain ⟨a1, a2, a3, a4, a5, a6, a7⟩ := kT_A h6 (by omega)
  refine ⟨by omega, fun i i1 i2 => by rw [e6]; exact h2 i i1 (by omega), u1, u2, by rw [u3]; exact hk, u4, fun z => ?_⟩
  rw [h14 (by omega), ← u1]
  have : gx 10 6 < gx 10 3 := a6 (by omega)
  exact h2 _ a1 (by omega)
/-- no fault was seen -/
def kOK (gx gm : z_G) : Prop := kS gx gm ∧ gx 10 9 = 0 ∧ gx 10 10 = -1 ∧ gm 0 17 = 0 ∧ gm 0 16 = -1
/-- the same fault -/
def kBad (gx gm : z_G) : Prop := gx 10 9 = gm 0 17 ∧ 1 ≤ gm 0 17 ∧ gm 0 17 ≤ 7 ∧ gx 10 10 = gm 0 16
def fC (gx gx' : z_G) : Prop := ∀ c i, ¬ (c = 10 ∧ 3 ≤ i ∧ i ≤ 10) → gx' c i = gx c i
def fD (gm gm' : z_G) : Prop := ∀ c i, ¬ (c = 0 ∧ (11 ≤ i ∧ i ≤ 14 ∨ i = 16 ∨ i = 17)) → gm' c i = gm c i
theorem fA.c {gx gx' : z_G} (h : fA gx gx') : fC gx gx' := fun c i hc => h c i (by omega)
theorem fB.d {gm gm' : z_G} (h : fB gm gm') : fD gm gm' := fun c i hc => h c i (by omega)
theorem fC.rf {gx : z_G} : fC gx gx := fun _ _ _ => rfl
theorem fD.rf {gx : z_G} : fD gx gx := fun _ _ _ => rfl
theorem fC.tr {gx gx' gx'' : z_G} (h : fC gx gx') (h' : fC gx' gx'') : fC gx gx'' := fun c i hc => (h' c i hc).trans (h c i hc)
theorem fD.tr {gx gx' gx'' : z_G} (h : fD gx gx') (h' : fD gx' gx'') : fD gx gx'' := fun c i hc => (h' c i hc).trans (h c i hc)
theorem fC.up {gx gx' : z_G} (h : fC gx gx') {i v : Int} (hi : 3 ≤ i ∧ i ≤ 10) : fC gx (z_up gx' 10 i v) := fun c j hc => by rw [z_u2 (by omega)]; exact h c j hc
theorem fD.up {gx gx' : z_G} (h : fD gx gx') {i v : Int} (hi : 11 ≤ i ∧ i ≤ 14 ∨ i = 16 ∨ i = 17) : fD gx (z_up gx' 0 i v) := fun c j hc => by rw [z_u2 (by omega)]; exact h c j hc
/-- good before, and what both answer -/
def kRes (r : Int) (gx' gm' : z_G) : Prop := (r = 1 ∧ kOK gx' gm') ∨ (r = 0 ∧ kBad gx' gm')
theorem m_fails (hm : z_lay Y K τ 0 z_SM z_RM) {a : Int} (h : gm 0 17 = 0) (hq : ∀ gm', fD gm gm' → gm' 0 17 = (if gm 0 11 = 1 then 1 else a) → gm' 0 16 = gm 0 12 → Q 0 gm') : z_O Y 1 m_M_fails [(2, 0), (0, a)] K τ gm Q := by
  refine b_M_fails_0 hm ⟨fun _ => ⟨fun c => hq _ ((fD.rf.up (by omega)).up (by omega)) (by rw [z_u2 (by omega), z_u1, if_pos c]) z_u1, fun c => hq _ ((fD.rf.up (by omega)).up (by omega)) (by rw [z_u2 (by omega), z_u1, if_neg c]) z_u1⟩, fun z => absurd h z⟩
/-- a fault here -/
theorem kBad_here {gx' gm' : z_G} {a b : Int} (h : kOK gx gm) (h1 : gm' 0 17 = (if gm 0 11 = 1 then 1 else a)) (h2 : gm' 0 16 = gm 0 12) (x1 : gx' 10 9 = b) (x2 : gx' 10 10 = gx 10 6) (hab : (gx 10 4 = 4 → b = 1) ∧ (¬ gx 10 4 = 4 → b = a)) (ha : 1 ≤ a ∧ a ≤ 7) : kBad gx' gm' := by
  obtain ⟨⟨-, -, k3, -, k5, -⟩, -⟩ := h
  unfold kC at k5
  unfold kBad
  by_cases c : gm 0 11 = 1
  · rw [if_pos c] at h1; omega
  · rw [if_neg c] at h1; omega
theorem t_sign (hx : z_lay X N σ 0 z_SF z_RF) (hm : z_lay Y K τ 0 z_SM z_RM) (hA : kA gx) {c : Int} (hP : ∀ r gx', (r = 0 ∨ r = 1) → fC gx gx' → (r = 1 → kA gx' ∧ gx 10 3 ≤ gx' 10 6 ∧ gx 10 4 = 3 ∧ gx 11 (gx 10 6) = c) → (∀ gm, kOK gx gm → ∀ Q : z_P, (∀ gm', fD gm gm' → kRes r gx' gm' → Q r gm') → z_O Y 3 m_M_wantSign [(2, 0), (0, c)] K τ gm Q) → P r gx') : z_O X 3 m_Ta_passSign [(2, 10), (0, c)] N σ gx P := by
  obtain ⟨a1, a2, a3, a4, a5, a6, a7, a8⟩ := hA
  have bad : ∀ b, ((gx 10 4 = 4 → b = 1) ∧ (¬ gx 10 4 = 4 → b = 2)) → ¬ (gx 10 4 = 3 ∧ gx 11 (gx 10 6) = c) → P 0 (z_up (z_up gx 10 9 b) 10 10 (gx 10 6)) := fun b hb hn => by
    refine hP 0 _ (Or.inl rfl) ((fC.rf.up (by omega)).up (by omega)) (fun z => by exfalso; omega) fun gm hk Q hq => ?_
    have f : ∀ gm', fD gm gm' → gm' 0 17 = (if gm 0 11 = 1 then 1 else 2) → gm' 0 16 = gm 0 12 → Q 0 gm' := fun gm' f1 f2 f3 => hq gm' f1 (Or.inr ⟨rfl, kBad_here hk f2 f3 (by rw [z_u2 (by omega), z_u1]) z_u1 hb (by omega)⟩)
    obtain ⟨⟨k1, k2, k3, k4, k5, k6, k7⟩, k8, k9, k10, k11⟩ := hk
    unfold kC at k5
    exact b_M_wantSign_0 hm ⟨fun z => ⟨fun y => absurd ⟨by omega, by rw [k7 (by omega), y]⟩ hn, fun _ => m_fails hm k10 fun gm' f1 f2 f3 => fun _ => f gm' f1 f2 f3⟩, fun _ => m_fails hm k10 fun gm' f1 f2 f3 => fun _ => f gm' f1 f2 f3⟩
  refine b_Ta_passSign_0 hx ⟨fun k3 => ⟨fun z => by exfalso; omega, fun _ => ⟨by omega, fun e => ?_, fun e => ⟨fun z => by exfalso; omega, fun _ => bad 2 (by omega) (fun z => e z.2)⟩⟩⟩, fun k3 => ⟨fun z => bad 1 (by omega) (fun z => k3 z.1), fun z => bad 2 (by omega) (fun z => k3 z.1)⟩⟩
  refine s_adv hx (by omega) fun gx' hf hA' hl hN => hP 1 gx' (Or.inr rfl) hf.c (fun _ => ⟨hA', hl, k3, e⟩) fun gm hk Q hq => ?_
  obtain ⟨⟨k1, k2, k3', k4, k5, k6, k7⟩, k8, k9, k10, k11⟩ := hk
  unfold kC at k5
  refine b_M_wantSign_0 hm ⟨fun _ => ⟨fun _ => nx_N hm (hN gm k1 k2 k4) fun gm' g1 g2 => hq gm' g1.d (Or.inl ⟨rfl, g2, ?_, ?_, ?_, ?_⟩), fun z => absurd (by rw [← k7 k3]; exact e) z⟩, fun z => by exfalso; omega⟩
  · rw [hf _ _ (by omega)]; exact k8
  · rw [hf _ _ (by omega)]; exact k9
  · rw [g1 _ _ (by omega)]; exact k10
  · rw [g1 _ _ (by omega)]; exact k11
/-- a NUMBER; t is where the reference lays it -/
theorem t_num (hx : z_lay X N σ 0 z_SF z_RF) (hm : z_lay Y K τ 0 z_SM z_RM) (hA : kA gx) {l u t : Int} (ht : 0 ≤ t ∧ t < 3296) (hP : ∀ r gx', (r = 0 ∨ r = 1) → fC gx gx' → (r = 1 → kA gx' ∧ gx 10 3 ≤ gx' 10 6 ∧ gx 10 4 = 2 ∧ gx' 10 7 = gx 10 5 ∧ gx' 10 8 = gx 10 6 ∧ l ≤ gx' 10 7 ∧ gx' 10 7 ≤ u ∧ 0 ≤ gx' 10 7 ∧ gx' 10 7 ≤ 9999) → (∀ gm, kOK gx gm → ∀ Q : z_P, (∀ gm', (∀ c i, ¬ (c = 1 ∧ i = t) → ¬ (c = 0 ∧ (11 ≤ i ∧ i ≤ 14 ∨ i = 16 ∨ i = 17)) → gm' c i = gm c i) → ((r = 1 → gm' 1 t = gx' 10 7) ∧ (r = 0 → gm' 1 t = gm 1 t)) → kRes r gx' gm' → Q r gm') → z_O Y 3 m_M_number [(2, 0), (0, t), (0, l), (0, u)] K τ gm Q) → P r gx') : z_O X 3 m_Ta_passNumber [(2, 10), (0, l), (0, u)] N σ gx P := by
  obtain ⟨a1, a2, a3, a4, a5, a6, a7, a8⟩ := hA
  have bad : ∀ b a, ((gx 10 4 = 4 → b = 1) ∧ (¬ gx 10 4 = 4 → b = a)) → 1 ≤ a ∧ a ≤ 7 → ((a = 2 ∧ ¬ gx 10 4 = 2) ∨ (a = 4 ∧ gx 10 4 = 2 ∧ (gx 10 5 < l ∨ u < gx 10 5))) → P 0 (z_up (z_up gx 10 9 b) 10 10 (gx 10 6)) := fun b a hb ha hn => by
    refine hP 0 _ (Or.inl rfl) ((fC.rf.up (by omega)).up (by omega)) (fun z => by exfalso; omega) fun gm hk Q hq => ?_
    have f : ∀ gm', fD gm gm' → gm' 0 17 = (if gm 0 11 = 1 then 1 else a) → gm' 0 16 = gm 0 12 → Q 0 gm' := fun gm' f1 f2 f3 => hq gm' (fun c i _ hc => f1 c i hc) ⟨fun z => by exfalso; omega, fun _ => f1 1 t (by omega)⟩ (Or.inr ⟨rfl, kBad_here hk f2 f3 (by rw [z_u2 (by omega), z_u1]) z_u1 hb ha⟩)
    obtain ⟨⟨k1, k2, k3, k4, k5, k6, k7⟩, k8, k9, k10, k11⟩ := hk
    unfold kC at k5
    refine b_M_number_0 hm ⟨fun z => ?_, fun z => ?_⟩
    · rcases hn with y | y
      · exfalso; omega
      · have := k6 y.2.1
        rw [y.1] at f
        refine ⟨fun _ => m_fails hm k10 fun gm' f1 f2 f3 => fun _ => f gm' f1 f2 f3, fun w => ⟨fun w2 => by exfalso; omega, fun _ => m_fails hm k10 fun gm' f1 f2 f3 => fun _ => f gm' f1 f2 f3⟩⟩
    · rcases hn with y | y
      · rw [y.1] at f
        exact m_fails hm k10 fun gm' f1 f2 f3 => fun _ => f gm' f1 f2 f3
      · exfalso; omega
  refine b_Ta_passNumber_0 hx ⟨fun k2 => ⟨fun z => bad 4 4 (by omega) (by omega) (by omega), fun z => ⟨fun z2 => ?_, fun z2 => bad 4 4 (by omega) (by omega) (by omega)⟩⟩, fun k2 => ⟨fun z => bad 1 2 (by omega) (by omega) (by omega), fun z => bad 2 2 (by omega) (by omega) (by omega)⟩⟩
  have u3 : z_up (z_up gx 10 7 (gx 10 5)) 10 8 (gx 10 6) 10 3 = gx 10 3 := by rw [z_u2 (by omega), z_u2 (by omega)]
  have u2 : z_up (z_up gx 10 7 (gx 10 5)) 10 8 (gx 10 6) 10 2 = gx 10 2 := by rw [z_u2 (by omega), z_u2 (by omega)]
  have uo : ∀ c i, ¬ (c = 10 ∧ (i = 7 ∨ i = 8)) → z_up (z_up gx 10 7 (gx 10 5)) 10 8 (gx 10 6) c i = gx c i := fun c i hc => by rw [z_u2 (by omega), z_u2 (by omega)]
  refine s_adv hx (by omega) fun gx' hf hA' hl hN => ?_
  have e7 : gx' 10 7 = gx 10 5 := by rw [hf _ _ (by omega), z_u2 (by omega), z_u1]
  have e8 : gx' 10 8 = gx 10 6 := by rw [hf _ _ (by omega), z_u1]
  refine hP 1 gx' (Or.inr rfl) (fun c i hc => by rw [hf c i (by omega)]; exact uo c i (by omega)) (fun _ => ⟨hA', by omega, k2, e7, e8, by omega, by omega, by omega, by omega⟩) fun gm hk Q hq => ?_
  obtain ⟨⟨k1, k2', k3', k4, k5, k6, k7⟩, k8, k9, k10, k11⟩ := hk
  unfold kC at k5
  have v := k6 k2
  refine b_M_number_0 hm ⟨fun _ => ⟨fun y => by exfalso; omega, fun _ => ⟨fun _ => ⟨ht, nx_N (gx := gx') hm ?_ fun gm' g1 g2 => hq gm' (fun c i c1 c2 => by rw [g1 c i (by omega), z_u2 (by omega)]) ⟨fun _ => by rw [g1 _ _ (by omega), z_u1]; omega, fun z => by exfalso; omega⟩ (Or.inl ⟨rfl, g2, ?_, ?_, ?_, ?_⟩)⟩, fun y => by exfalso; omega⟩⟩, fun y => by exfalso; omega⟩
  · refine hN _ (by rw [u2, z_u2 (by omega)]; exact k1) (fun i i1 i2 => ?_) (by rw [u3, z_u2 (by omega)]; exact k4)
    rw [z_u2 (by omega)] at i2
    rw [uo _ _ (by omega), z_u2 (by omega)]
    exact k2' i i1 i2
  · rw [hf _ _ (by omega), uo _ _ (by omega)]; exact k8
  · rw [hf _ _ (by omega), uo _ _ (by omega)]; exact k9
  · rw [g1 _ _ (by omega), z_u2 (by omega)]; exact k10
  · rw [g1 _ _ (by omega), z_u2 (by omega)]; exact k11
/-- the reference's word where the class found one -/
theorem kS_word (h : kS gx gm) (hA : kA gx) {w : Nat} : (gx 10 4 = 1 ∧ kMt (gx 11) (gx 10 6) (gx 10 3) w) ↔ (gm 0 11 = 2 ∧ kMt (fun i => gm 6 i % 256) (gm 0 12) (gm 0 13) w) := by
  obtain ⟨k1, k2, k3, k4, k5, k6, k7⟩ := h
  obtain ⟨a1, a2, a3, a4, a5, a6, a7, a8⟩ := hA
  unfold kC at k5
  rw [← k3, ← k4]
  refine ⟨fun z => ⟨by omega, kMt_c z.2 (n := gm 0 10) (by omega) (fun i i1 i2 => (k2 i i1 i2).symm)⟩, fun z => ⟨by omega, kMt_c z.2 (n := gm 0 10) (by omega) k2⟩⟩
theorem m_word (hm : z_lay Y K τ 0 z_SM z_RM) (hS : z_St Y K τ) (h : kS gx gm) (hA : kA gx) (hq : ∀ r, ((r = -1 ∧ ∀ w : Nat, w < 20 → ¬ (gx 10 4 = 1 ∧ kMt (gx 11) (gx 10 6) (gx 10 3) w)) ∨ (∃ w : Nat, w < 20 ∧ r = (w : Int) ∧ gx 10 4 = 1 ∧ kMt (gx 11) (gx 10 6) (gx 10 3) w)) → Q r gm) : z_O Y 7 m_M_inWords [(2, 0), (4, 20)] K τ gm Q := by
  have b : 0 ≤ gm 0 12 ∧ gm 0 12 ≤ gm 0 13 ∧ gm 0 13 ≤ gm 0 10 ∧ gm 0 10 ≤ 900 := by
    obtain ⟨k1, k2, k3, k4, k5, k6, k7⟩ := h
    obtain ⟨a1, a2, a3, a4, a5, a6, a7, a8⟩ := hA
    omega
  refine s_M_inWords hm hS (fun _ => b) fun r hr => hq r ?_
  rcases hr with ⟨r1, r2⟩ | ⟨w, w1, w2, w3⟩
  · exact Or.inl ⟨r1, fun w hw z => r2 w hw ((kS_word h hA).mp z)⟩
  · exact Or.inr ⟨w, w1, w2, (kS_word h hA).mpr w3⟩
/-- by -/
theorem t_by (hx : z_lay X N σ 0 z_SF z_RF) (hm : z_lay Y K τ 0 z_SM z_RM) (hSX : z_St X N σ) (hSY : z_St Y K τ) (hA : kA gx) (hP : ∀ r gx', (r = 0 ∨ r = 1) → fC gx gx' → (r = 1 → kA gx' ∧ gx 10 3 ≤ gx' 10 6 ∧ gx' 10 7 = gx 10 7) → (∀ gm, kOK gx gm → ∀ Q : z_P, (∀ gm', fD gm gm' → kRes r gx' gm' → Q r gm') → z_O Y 8 m_M_wantWord [(2, 0), (0, 4)] K τ gm Q) → P r gx') : z_O X 8 m_Ta_passWord [(2, 10), (4, 3)] N σ gx P := by
  have hA0 := hA
  obtain ⟨a1, a2, a3, a4, a5, a6, a7, a8⟩ := hA
  refine b_Ta_passWord_0 hx (s_Ta_isWord hx hSX (k := 3) (by omega) (fun _ => by omega) fun r0 hr0 => fun _ => ?_)
  have e4 : wM.getD (3 : Int).toNat 0 = 4 := by decide
  rw [e4] at hr0
  have bad : ∀ b, ((gx 10 4 = 4 → b = 1) ∧ (¬ gx 10 4 = 4 → b = 2)) → ¬ (gx 10 4 = 1 ∧ kMt (gx 11) (gx 10 6) (gx 10 3) 4) → P 0 (z_up (z_up gx 10 9 b) 10 10 (gx 10 6)) := fun b hb hn => by
    refine hP 0 _ (Or.inl rfl) ((fC.rf.up (by omega)).up (by omega)) (fun z => by exfalso; omega) fun gm hk Q hq => b_M_wantWord_0 hm (m_word hm hSY hk.1 hA0 fun r hr => ⟨fun z => ?_, fun _ => m_fails hm hk.2.2.2.1 fun gm' f1 f2 f3 => fun _ => hq gm' f1 (Or.inr ⟨rfl, kBad_here hk f2 f3 (by rw [z_u2 (by omega), z_u1]) z_u1 hb (by omega)⟩)⟩)
    rcases hr with ⟨r1, -⟩ | ⟨w, w1, w2, w3⟩
    · exfalso; omega
    · rw [show w = 4 by omega] at w3; exact absurd w3 hn
  refine ⟨fun z => ?_, fun z => ?_⟩
  · have hn : ¬ (gx 10 4 = 1 ∧ kMt (gx 11) (gx 10 6) (gx 10 3) 4) := by
      rcases hr0 with ⟨y, -⟩ | ⟨-, y⟩
      · exfalso; omega
      · exact y
    exact ⟨fun y => bad 1 (by omega) hn, fun y => bad 2 (by omega) hn⟩
  · have hy : gx 10 4 = 1 ∧ kMt (gx 11) (gx 10 6) (gx 10 3) 4 := by
      rcases hr0 with ⟨-, y⟩ | ⟨y, -⟩
      · exact y
      · exfalso; omega
    refine s_adv hx (by omega) fun gx' hf hA' hl hN => hP 1 gx' (Or.inr rfl) hf.c (fun _ => ⟨hA', hl, hf _ _ (by omega)⟩) fun gm hk Q hq => b_M_wantWord_0 hm (m_word hm hSY hk.1 hA0 fun r hr => ⟨fun _ => nx_N hm (hN gm hk.1.1 hk.1.2.1 hk.1.2.2.2.1) fun gm' g1 g2 => hq gm' g1.d (Or.inl ⟨rfl, g2, ?_, ?_, ?_, ?_⟩), fun y => ?_⟩)
    · rw [hf _ _ (by omega)]; exact hk.2.1
    · rw [hf _ _ (by omega)]; exact hk.2.2.1
    · rw [g1 _ _ (by omega)]; exact hk.2.2.2.1
    · rw [g1 _ _ (by omega)]; exact hk.2.2.2.2
    · rcases hr with ⟨-, r2⟩ | ⟨w, w1, w2, w3⟩
      · exact absurd hy (r2 4 (by omega))
      · have := kMt_u w1 (by omega) w3.2 hy.2
        exfalso; omega
end Lock

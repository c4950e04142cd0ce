/-! ## TOURS as a text: kinds, numbers, tests -/
def kw (k : Int) : Nat := [6, 7, 8, 9, 3, 10, 1, 11, 12, 13, 15].getD k.toNat 0
section Lock
variable {X Y : z_X} {N K : Nat} {σ τ gx gm : z_G} {P Q : z_P}
theorem s_kindHere (hx : z_lay X N σ 0 z_SF z_RF) (hSX : z_St X N σ) (hA : kA gx) (hq : ∀ r, ((0 ≤ r ∧ r ≤ 10 ∧ gx 10 4 = 1 ∧ kMt (gx 11) (gx 10 6) (gx 10 3) (kw r)) ∨ (r = -1 ∧ ∀ j : Int, 0 ≤ j → j ≤ 10 → ¬ (gx 10 4 = 1 ∧ kMt (gx 11) (gx 10 6) (gx 10 3) (kw j)))) → P r gx) : z_O X 8 m_Pa_kindHere [(2, 9)] N σ gx P := by
  obtain ⟨a1, a2, a3, a4, a5, a6, a7, a8⟩ := id hA
  have L : ∀ (m : Nat) (x : Int), x + m = 11 → 0 ≤ x → (∀ j : Int, 0 ≤ j → j < x → ¬ (gx 10 4 = 1 ∧ kMt (gx 11) (gx 10 6) (gx 10 3) (kw j))) → L_Pa_kindHere_2 X N σ x gx P := by
    intro m
    induction m with
    | zero =>
      intro x e1 e2 h
      exact b_Pa_kindHere_2 hx ⟨fun _ => hq (-1) (Or.inr ⟨rfl, fun j j0 j1 => h j j0 (by omega)⟩), fun z => by exfalso; omega⟩
    | succ m ih =>
      intro x e1 e2 h
      have st : ∀ k : Int, 0 ≤ k ∧ k < 20 → wM.getD k.toNat 0 = kw x → z_O X 7 m_Ta_isWord [(2, 10), (4, k)] N σ gx (fun r1 g1 => (r1 = 0 ∨ r1 = 1) → ((r1 = 0 → (-2147483648 ≤ x + 1 ∧ x + 1 ≤ 2147483647) ∧ L_Pa_kindHere_2 X N σ (x + 1) g1 P) ∧ (¬ r1 = 0 → P x g1))) := fun k hk hw => s_Ta_isWord hx hSX hk (fun _ => by omega) fun r hr => fun _ => by
        rw [hw] at hr
        rcases hr with ⟨y1, y2⟩ | ⟨y1, y2⟩
        · exact ⟨fun z => by exfalso; omega, fun _ => hq x (Or.inl ⟨e2, by omega, y2⟩)⟩
        · refine ⟨fun _ => ⟨by omega, ih (x + 1) (by omega) (by omega) fun j j0 j1 => ?_⟩, fun z => absurd y1 z⟩
          by_cases c : j = x
          · rw [c]; exact y2
          · exact h j j0 (by omega)
      refine b_Pa_kindHere_2 hx ⟨fun z => by exfalso; omega, fun _ => b_Pg_wordOf_0 ⟨fun z => st 7 (by omega) (by rw [z]; decide), fun z => st 8 (by omega) (by rw [z]; decide), fun z => st 9 (by omega) (by rw [z]; decide), fun z => st 10 (by omega) (by rw [z]; decide), fun z => st 4 (by omega) (by rw [z]; decide), fun z => st 11 (by omega) (by rw [z]; decide), fun z => st 1 (by omega) (by rw [z]; decide), fun z => st 12 (by omega) (by rw [z]; decide), fun z => st 13 (by omega) (by rw [z]; decide), fun z => st 14 (by omega) (by rw [z]; decide), fun z => st 15 (by omega) (by rw [z]; decide), fun z => by exfalso; omega⟩⟩
  exact b_Pa_kindHere_0 hx (L 11 0 (by omega) (by omega) fun j j0 j1 => by exfalso; omega)
/-- passSign of the class alone -/
theorem s_sign (hx : z_lay X N σ 0 z_SF z_RF) (hA : kA gx) {c : Int} (bad : ¬ (gx 10 4 = 3 ∧ gx 11 (gx 10 6) = c) → ∀ b, ((gx 10 4 = 4 → b = 1) ∧ (¬ gx 10 4 = 4 → b = 2)) → P 0 (z_up (z_up gx 10 9 b) 10 10 (gx 10 6))) (good : gx 10 4 = 3 → gx 11 (gx 10 6) = c → ∀ gx', fA gx gx' → kA gx' → gx 10 3 ≤ gx' 10 6 → (∀ gm, kS gx gm → kN gx' gm) → P 1 gx') : z_O X 3 m_Ta_passSign [(2, 10), (0, c)] N σ gx P := by
  obtain ⟨a1, a2, a3, a4, a5, a6, a7, a8⟩ := hA
  refine b_Ta_passSign_0 hx ⟨fun k3 => ⟨fun z => by exfalso; omega, fun _ => ⟨by omega, fun e => s_adv hx (by omega) fun gx' hf hA' hl hN => good k3 e gx' hf hA' hl fun gm hk => hN gm hk.1 hk.2.1 hk.2.2.2.1, fun e => ⟨fun z => by exfalso; omega, fun _ => bad (fun z => e z.2) 2 (by omega)⟩⟩⟩, fun k3 => ⟨fun z => bad (fun z => k3 z.1) 1 (by omega), fun z => bad (fun z => k3 z.1) 2 (by omega)⟩⟩
/-- the row of the reference, and cells of TOKENS and faults, may be new -/
def fR (gm gm' : z_G) (r : Int) : Prop := ∀ c i, ¬ (c = 1 ∧ r ≤ i ∧ i ≤ r + 5) → ¬ (c = 0 ∧ (11 ≤ i ∧ i ≤ 14 ∨ i = 16 ∨ i = 17)) → gm' c i = gm c i
/-- and of the class, beside TOKENS: the Chain, what was read of a step -/
def fT (gx gx' : z_G) : Prop := ∀ c i, ¬ (c = 9 ∧ 7 ≤ i ∧ i ≤ 9) → ¬ (c = 10 ∧ 3 ≤ i ∧ i ≤ 10) → c ≠ 12 → c ≠ 13 → gx' c i = gx c i
theorem fC.t {gx gx' : z_G} (h : fC gx gx') : fT gx gx' := fun c i _ h2 _ _ => h c i h2
theorem fT.tr {gx gx' gx'' : z_G} (h : fT gx gx') (h' : fT gx' gx'') : fT gx gx'' := fun c i h1 h2 h3 h4 => (h' c i h1 h2 h3 h4).trans (h c i h1 h2 h3 h4)
theorem fR.tr {gx gx' gx'' : z_G} {r : Int} (h : fR gx gx' r) (h' : fR gx' gx'' r) : fR gx gx'' r := fun c i h1 h2 => (h' c i h1 h2).trans (h c i h1 h2)
theorem fD.r {gx gx' : z_G} {r : Int} (h : fD gx gx') : fR gx gx' r := fun c i _ h2 => h c i h2
/-- what a when's TEST is, on both sides -/
def wOK (gx gm : z_G) (r : Int) : Prop := (gm 1 r = 1216 ∧ gx 9 7 = 0 ∧ gx 9 8 = gm 1 (r + 1) ∧ gx 9 9 = gm 1 (r + 2)) ∨ (gm 1 r = 1217 ∧ gx 9 7 = 1) ∨ ((gm 1 r = 1218 ∧ gx 9 7 = 2 ∨ gm 1 r = 1219 ∧ gx 9 7 = 3) ∧ gx 9 8 = gm 1 (r + 5) ∧ (gm 1 (r + 5) = 60 ∨ gm 1 (r + 5) = 61 ∨ gm 1 (r + 5) = 62) ∧ gx 9 9 = gm 1 (r + 1) ∧ 0 ≤ gm 1 (r + 1) ∧ gm 1 (r + 1) ≤ 9999)
/-- a NUMBER of a step -/
theorem t_first (hx : z_lay X N σ 0 z_SF z_RF) (hm : z_lay Y K τ 0 z_SM z_RM) (hA : kA gx) {u t : Int} (hu : ¬ u = 0) (ht : 0 ≤ t ∧ t < 3290) (hP : ∀ r gx', (r = 0 ∨ r = 1) → fT gx gx' → (r = 1 → kA gx' ∧ gx 10 3 ≤ gx' 10 6) → (∀ gm, kOK gx gm → ∀ Q : z_P, (∀ gm', fR gm gm' t → gm' 1 t = gm 1 t → (r = 1 → gx' 9 8 = gm' 1 (t + 1) ∧ 1 ≤ gm' 1 (t + 1) ∧ gm' 1 (t + 1) ≤ u) → kRes r gx' gm' → Q r gm') → z_O Y 3 m_M_number [(2, 0), (0, t + 1), (0, 1), (0, u)] K τ gm Q) → P r gx') : z_O X 4 m_Pa_readFirst [(2, 9), (0, u)] N σ gx P := by
  refine b_Pa_readFirst_0 hx ⟨fun z => absurd z hu, fun _ => t_num hx hm hA (t := t + 1) (by omega) fun r gx1 hr f1 g1 hM => fun _ => ⟨fun r0 => ?_, fun r0 => ?_⟩⟩
  · subst r0
    exact hP 0 gx1 (Or.inl rfl) f1.t (fun z => by exfalso; omega) fun gm hk Q hq => hM gm hk Q fun gm' j1 j2 j3 => hq gm' (fun c i c1 c2 => j1 c i (by omega) c2) (j1 1 t (by omega) (by omega)) (fun z => by exfalso; omega) j3
  · have r1 : r = 1 := by omega
    subst r1
    obtain ⟨hA1, l1, -, -, -, b1, b2, -⟩ := g1 rfl
    refine hP 1 _ (Or.inr rfl) (fun c i c1 c2 c3 c4 => by rw [z_u2 (by omega)]; exact f1 c i c2) (fun _ => ⟨hA1.c fun i _ _ => z_u2 (by omega), by rw [z_u2 (by omega)]; exact l1⟩) fun gm hk Q hq => hM gm hk Q fun gm' j1 j2 j3 => hq gm' (fun c i c1 c2 => j1 c i (by omega) c2) (j1 1 t (by omega) (by omega)) (fun _ => ?_) ?_
    · rw [z_u1, j2.1 rfl]; omega
    · rcases j3 with y | y
      · exact Or.inl ⟨rfl, y.2.c (fun i _ _ => z_u2 (by omega)) (fun i => z_u2 (by omega)) (fun _ _ _ _ => rfl) (fun _ => rfl)⟩
      · exfalso; omega
end Lock

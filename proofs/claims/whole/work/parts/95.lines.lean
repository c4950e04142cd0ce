/-! ## TOURS as a text: lines are laid -/
theorem ky_F_45 {X : z_X} {N : Nat} {σ : z_G} (h : z_lay X N σ 0 z_SF z_RF) : z_lay X N σ 45 z_SPg z_RPg := ky_Bd_8 (ky_F_37 h)
/-- of the class alone -/
def cG (gx : z_G) : Prop := (0 ≤ gx 9 6 ∧ gx 9 6 ≤ 3) ∧ (0 ≤ gx 45 1 ∧ gx 45 1 ≤ 30) ∧ 0 ≤ gx 45 2 ∧ gx 45 2 + gx 9 6 ≤ 2 * gx 45 1 ∧ ∀ j, 0 ≤ j → j < gx 9 6 → 0 ≤ gx 14 j ∧ gx 14 j < gx 45 2
/-- both sides, between two steps -/
def gR (gx gm : z_G) : Prop := kOK gx gm ∧ gx 45 2 = gm 1 2446 ∧ gx 45 1 = gm 0 21 ∧ gx 9 6 = gm 0 20 ∧ (∀ j, 0 ≤ j → j < gx 9 6 → gx 14 j = gm 7 j) ∧ gP (fX gx 37) (fM gm 2440) (gx 14) (gx 45 2) (gx 9 6)
def fW (gx gx' : z_G) : Prop := ∀ c i, ¬ (c = 9 ∧ 6 ≤ i ∧ i ≤ 9) → ¬ (c = 10 ∧ 3 ≤ i ∧ i ≤ 10) → c ≠ 12 → c ≠ 13 → c ≠ 14 → ¬ (45 ≤ c ∧ c ≤ 50) → gx' c i = gx c i
def fU (gm gm' : z_G) : Prop := ∀ c i, ¬ (c = 1 ∧ (i = 2446 ∨ (2686 ≤ i ∧ i < 3050))) → ¬ (c = 0 ∧ (11 ≤ i ∧ i ≤ 14 ∨ i = 16 ∨ i = 17 ∨ i = 20 ∨ i = 21)) → c ≠ 7 → gm' c i = gm c i
theorem fT.w {gx gx' : z_G} (h : fT gx gx') : fW gx gx' := fun c i h1 h2 h3 h4 _ _ => h c i (by omega) h2 h3 h4
theorem fW.tr {gx gx' gx'' : z_G} (h : fW gx gx') (h' : fW gx' gx'') : fW gx gx'' := fun c i h1 h2 h3 h4 h5 h6 => (h' c i h1 h2 h3 h4 h5 h6).trans (h c i h1 h2 h3 h4 h5 h6)
theorem fD.u {gx gx' : z_G} (h : fD gx gx') : fU gx gx' := fun c i _ h2 _ => h c i (by omega)
theorem fU.tr {gx gx' gx'' : z_G} (h : fU gx gx') (h' : fU gx' gx'') : fU gx gx'' := fun c i h1 h2 h3 => (h' c i h1 h2 h3).trans (h c i h1 h2 h3)
section Lock
variable {X Y : z_X} {N K : Nat} {σ τ gx gm : z_G} {P Q : z_P}
def sW (Y : z_X) (K : Nat) (τ gx : z_G) (P : z_P) : Prop := ∀ r gx', (r = 0 ∨ r = 1) → fW gx gx' → (r = 1 → kA gx' ∧ cG gx' ∧ gx 10 6 < gx' 10 6) → (∀ gm, gR gx gm → ∀ Q : z_P, (∀ gm', fU gm gm' → ((r = 1 ∧ gR gx' gm') ∨ (r = 0 ∧ kBad gx' gm')) → Q r gm') → z_O Y 12 m_M_tourStep [(2, 0)] K τ gm Q) → P r gx'
theorem s_addStep (hx : z_lay X N σ 0 z_SF z_RF) {g : z_G} {k a b c : Int} (hL : 0 ≤ g 45 2 ∧ g 45 2 < 60) (hs : 0 ≤ g 45 1 ∧ g 45 1 ≤ 30) (hq : ∀ g', g' 45 2 = g 45 2 + 1 → g' 45 1 = g 45 1 + 1 → g' 46 (g 45 2) = k → g' 47 (g 45 2) = a → g' 48 (g 45 2) = b → g' 49 (g 45 2) = c → g' 50 (g 45 2) = g 45 2 → (∀ c i, ¬ (46 ≤ c ∧ c ≤ 50 ∧ i = g 45 2) → ¬ (c = 45 ∧ (i = 1 ∨ i = 2)) → g' c i = g c i) → Q 0 g') : z_O X 1 m_Pg_addStep [(2, ((45 : Nat) : Int)), (0, k), (0, a), (0, b), (0, c)] N σ g Q := by
  refine b_Pg_addStep_0 (o := 45) (ky_F_45 hx) ⟨fun z => by exfalso; omega, fun _ => ⟨by omega, by omega, by omega, hq _ ?_ z_u1 ?_ ?_ ?_ ?_ ?_ (fun c i h1 h2 => ?_)⟩⟩
  · rw [z_u2 (by omega), z_u1]
  · rw [z_u2 (by omega), z_u2 (by omega), z_u2 (by omega), z_u2 (by omega), z_u2 (by omega), z_u2 (by omega)]; exact z_u1
  · rw [z_u2 (by omega), z_u2 (by omega), z_u2 (by omega), z_u2 (by omega), z_u2 (by omega)]; exact z_u1
  · rw [z_u2 (by omega), z_u2 (by omega), z_u2 (by omega), z_u2 (by omega)]; exact z_u1
  · rw [z_u2 (by omega), z_u2 (by omega), z_u2 (by omega)]; exact z_u1
  · rw [z_u2 (by omega), z_u2 (by omega)]; exact z_u1
  · rw [z_u2 (by omega), z_u2 (by omega), z_u2 (by omega), z_u2 (by omega), z_u2 (by omega), z_u2 (by omega), z_u2 (by omega)]
theorem s_addEnd (hx : z_lay X N σ 0 z_SF z_RF) {g : z_G} {b : Int} (hL : 0 ≤ g 45 2 ∧ g 45 2 < 60) (hb : 0 ≤ b ∧ b < g 45 2) (hq : ∀ g', g' 45 2 = g 45 2 + 1 → g' 46 (g 45 2) = 11 → g' 50 (g 45 2) = b → g' 50 b = g 45 2 → (∀ c i, ¬ (c = 46 ∧ i = g 45 2) → ¬ (c = 50 ∧ (i = g 45 2 ∨ i = b)) → ¬ (c = 45 ∧ i = 2) → g' c i = g c i) → Q 0 g') : z_O X 1 m_Pg_addEnd [(2, ((45 : Nat) : Int)), (0, b)] N σ g Q := by
  refine b_Pg_addEnd_0 (o := 45) (ky_F_45 hx) ⟨fun z => by exfalso; omega, fun _ => ⟨fun z => by exfalso; omega, fun _ => ⟨fun z => by exfalso; omega, fun _ => ⟨by omega, by omega, by omega, hq _ z_u1 ?_ ?_ ?_ (fun c i h1 h2 h3 => ?_)⟩⟩⟩⟩
  · rw [z_u2 (by omega), z_u2 (by omega), z_u2 (by omega)]; exact z_u1
  · rw [z_u2 (by omega), z_u2 (by omega)]; exact z_u1
  · rw [z_u2 (by omega)]; exact z_u1
  · rw [z_u2 (by omega), z_u2 (by omega), z_u2 (by omega), z_u2 (by omega)]
/-- the program's facts look only at lines below L and at their rows -/
theorem gP.c {fx fx' : Nat → Int → Int} {fm fm' : Int → Int} {s s' : Int → Int} {L d : Int} (h : gP fx fm s L d) (hx : ∀ j i, 9 ≤ j → j ≤ 13 → 0 ≤ i → i < L → fx' j i = fx j i) (hm : ∀ i, 246 ≤ i → i < 246 + 6 * L → fm' i = fm i) (hs : ∀ j, 0 ≤ j → j < d → s' j = s j) : gP fx' fm' s' L d := by
  refine ⟨fun n n0 n1 hc => h.old (Int.le_refl L) n0 n1 (fun j j0 j1 z => hc j j0 j1 (by rw [hs j j0 j1]; exact z)) hx hm, fun j j0 j1 => ?_, fun j k j0 jk k1 => ?_, fun n m n0 nm mL kn km hl => ?_, fun j n j0 j1 n0 n1 kn => ?_⟩
  · obtain ⟨q1, q2, q3⟩ := h.2.1 j j0 j1
    rw [hs j j0 j1]
    exact ⟨q1, q2, q3.c1 (fun k k1 k2 => hx k _ k1 k2 q1 q2) (fun i i1 i2 => hm i (by omega) (by omega))⟩
  · rw [hs j j0 (by omega), hs k (by omega) k1]; exact h.2.2.1 j k j0 jk k1
  · rw [hx 9 n (by omega) (by omega) n0 (by omega)] at kn
    rw [hx 9 m (by omega) (by omega) (by omega) mL] at km
    rw [hx 13 n (by omega) (by omega) n0 (by omega)] at hl ⊢
    rw [hx 13 m (by omega) (by omega) (by omega) mL]
    exact h.2.2.2.1 n m n0 nm mL kn km hl
  · rw [hs j j0 j1] at n1 ⊢
    have := (h.2.1 j j0 j1).2.1
    rw [hx 9 n (by omega) (by omega) n0 (by omega)] at kn
    rw [hx 13 n (by omega) (by omega) n0 (by omega)]
    exact h.2.2.2.2 j n j0 j1 n0 n1 kn
end Lock

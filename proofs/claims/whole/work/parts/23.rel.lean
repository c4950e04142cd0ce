/-! the row of an ORDER, the tables of the class, the whole relation -/
/-- the row of order o: neighbours have determinant 1, and nothing fits between them -/
def rOK (T B : Int → Int) (m o : Int) : Prop := 2 ≤ m ∧ m ≤ 12233 ∧ T 0 = 0 ∧ B 0 = 1 ∧ T (m - 1) = 1 ∧ B (m - 1) = 1 ∧ (∀ n : Int, 0 ≤ n → n < m → 0 ≤ T n ∧ T n ≤ B n ∧ 1 ≤ B n ∧ B n ≤ o) ∧ ∀ n : Int, 0 ≤ n → n + 1 < m → T (n + 1) * B n - T n * B (n + 1) = 1 ∧ o < B n + B (n + 1)
def mC (g : z_G) : Prop := g 0 25 = 0 ∨ (1 ≤ g 0 25 ∧ g 0 25 ≤ 200 ∧ rOK (g 8) (g 9) (g 0 24) (g 0 25))
def n_muT : List Int := [0, 1, -1, -1, 0, -1, 1, -1, 0, 0, 1, -1, 0, -1, 1, 1, 0, -1, 0, -1, 0, 1, 1, -1, 0, 0, 1, 0, 0, -1, -1, -1, 0, 1, 1, 1, 0, -1, 1, 1, 0, -1, -1, -1, 0, 0, 1, -1, 0, 0, 0, 1, 0, -1, 0, 1, 0, 1, 1, -1, 0, -1, 1, 0, 0, 1, -1, -1, 0, 1, -1, -1, 0, -1, 1, 0, 0, 1, -1, -1, 0, 0, 1, -1, 0, 1, 1, 1, 0, -1, 0, 1, 0, 1, 1, 1, 0, -1, 0, 0, 0, -1, -1, -1, 0, -1, 1, -1, 0, -1, -1, 1, 0, -1, -1, 1, 0, 0, 1, 1, 0, 0, 1, 1, 0, 0, 0, -1, 0, 1, -1, -1, 0, 1, 1, 0, 0, -1, -1, -1, 0, 1, 1, 1, 0, 1, 1, 0, 0, -1, 0, -1, 0, 0, -1, 1, 0, -1, 1, 1, 0, 1, 0, -1, 0, -1, 1, -1, 0, 0, -1, 0, 0, -1, -1, 0, 0, 1, 1, -1, 0, -1, -1, 1, 0, 1, -1, 1, 0, 0, -1, -1, 0, -1, 1, -1, 0, -1, 0, -1, 0]
def n_MmT : List Int := [0, 1, 0, -1, -1, -2, -1, -2, -2, -2, -1, -2, -2, -3, -2, -1, -1, -2, -2, -3, -3, -2, -1, -2, -2, -2, -1, -1, -1, -2, -3, -4, -4, -3, -2, -1, -1, -2, -1, 0, 0, -1, -2, -3, -3, -3, -2, -3, -3, -3, -3, -2, -2, -3, -3, -2, -2, -1, 0, -1, -1, -2, -1, -1, -1, 0, -1, -2, -2, -1, -2, -3, -3, -4, -3, -3, -3, -2, -3, -4, -4, -4, -3, -4, -4, -3, -2, -1, -1, -2, -2, -1, -1, 0, 1, 2, 2, 1, 1, 1, 1, 0, -1, -2, -2, -3, -2, -3, -3, -4, -5, -4, -4, -5, -6, -5, -5, -5, -4, -3, -3, -3, -2, -1, -1, -1, -1, -2, -2, -1, -2, -3, -3, -2, -1, -1, -1, -2, -3, -4, -4, -3, -2, -1, -1, 0, 1, 1, 1, 0, 0, -1, -1, -1, -2, -1, -1, -2, -1, 0, 0, 1, 1, 0, 0, -1, 0, -1, -1, -1, -2, -2, -2, -3, -4, -4, -4, -3, -2, -3, -3, -4, -5, -4, -4, -3, -4, -3, -3, -3, -4, -5, -5, -6, -5, -6, -6, -7, -7, -8, -8]
def xR (g : z_G) : Prop := ∀ d : Nat, d ≤ 200 → g 16 d = n_muT.getD d 0 ∧ g 17 d = n_MmT.getD d 0
def iJ (gx gm : z_G) : Prop := iT gx gm ∧ iF gx gm ∧ (gx 0 5 = gm 0 15 ∧ gx 0 6 = gm 0 16) ∧ iL gx gm ∧ (gx 0 14 = gm 0 41 ∧ 0 ≤ gm 0 41 ∧ gm 0 41 ≤ 3) ∧ (∀ j : Nat, (j : Int) < gm 0 41 → iB (fX gx (52 + 14 * j)) (fM gm (610 * (j + 1)))) ∧ iB (fX gx 23) (fM gm 0) ∧ xR gx
/-- all that is told alike -/
def Inv (gx gm : z_G) : Prop := gx 0 0 = gm 0 1 ∧ gx 0 1 = gm 0 2 ∧ gx 0 2 = gm 0 3 ∧ iJ gx gm ∧ mC gm
/-- a board's relation speaks of few places -/
def bx (j : Nat) (i : Int) : Prop := j ≤ 13
def bm (i : Int) : Prop := 0 ≤ i ∧ i < 606
theorem iB.congr {fx fx' : Nat → Int → Int} {fm fm' : Int → Int} (h : iB fx fm) (hx : ∀ j i, j ≤ 13 → fx' j i = fx j i) (hm : ∀ i, 0 ≤ i → i < 606 → fm' i = fm i) : iB fx' fm' := by
  obtain ⟨hO, hW, hP, hV, hG⟩ := h
  refine ⟨?_, ?_, ?_, ?_, ?_⟩
  · unfold iO at hO ⊢
    rw [hx 0 0 (by omega), hx 0 1 (by omega), hm 1 (by omega) (by omega), hm 0 (by omega) (by omega)]; exact hO
  · unfold iW at hW ⊢
    rw [hx 1 0 (by omega), hx 1 1 (by omega), hx 1 2 (by omega), hx 1 3 (by omega), hx 1 4 (by omega), hm 2 (by omega) (by omega), hm 3 (by omega) (by omega)]; exact hW
  · unfold iP at hP ⊢
    rw [hx 2 3 (by omega), hm 4 (by omega) (by omega)]
    obtain ⟨p1, p2, p3, p4, p5⟩ := hP
    refine ⟨p1, p2, p3, fun k h1 h2 => ?_, fun j k h1 h2 h3 => ?_⟩
    · rw [hx 3 k (by omega), hx 4 k (by omega), hx 5 k (by omega), hm _ (by omega) (by omega), hm _ (by omega) (by omega), hm _ (by omega) (by omega)]
      exact p4 k h1 h2
    · rw [hm _ (by omega) (by omega), hm _ (by omega) (by omega), hm _ (by omega) (by omega), hm _ (by omega) (by omega)]
      exact p5 j k h1 h2 h3
  · unfold iV at hV ⊢
    rw [hx 6 1 (by omega), hm 5 (by omega) (by omega)]
    obtain ⟨p1, p2, p3, p4, p5, p6, p7⟩ := hV
    refine ⟨p1, p2, p3, fun i j h1 h2 h3 => ?_, fun i h1 h2 => ?_, fun i h1 h2 => ?_, fun i j h1 h2 h3 => ?_⟩
    · rw [hx 7 i (by omega), hx 7 j (by omega)]; exact p4 i j h1 h2 h3
    · obtain ⟨j, q1, q2, q3⟩ := p5 i h1 h2
      exact ⟨j, q1, q2, by rw [hx 7 j (by omega), hm _ (by omega) (by omega)]; exact q3⟩
    · obtain ⟨j, q1, q2, q3⟩ := p6 i h1 h2
      exact ⟨j, q1, q2, by rw [hx 7 i (by omega), hm _ (by omega) (by omega)]; exact q3⟩
    · rw [hm _ (by omega) (by omega), hm _ (by omega) (by omega)]; exact p7 i j h1 h2 h3
  · unfold iG at hG ⊢
    rw [hx 8 0 (by omega), hx 8 2 (by omega), hm 6 (by omega) (by omega)]
    rcases hG with h | ⟨p1, p2, p3, p4, p5, p6⟩
    · exact Or.inl h
    · refine Or.inr ⟨p1, p2, p3, p4, fun n h1 h2 => ?_, fun n m h1 h2 h3 => by rw [hx 9 n (by omega), hx 9 m (by omega), hx 13 n (by omega), hx 13 m (by omega)]; exact p6 n m h1 h2 h3⟩
      have := p5 n h1 h2
      unfold iLn at this ⊢
      rw [hx 9 n (by omega), hx 10 n (by omega), hx 11 n (by omega), hx 12 n (by omega), hx 13 n (by omega), hx 9 (fx 13 n) (by omega), hx 13 (fx 13 n) (by omega)]
      dsimp only at this ⊢
      rw [hm _ (by omega) (by omega), hm _ (by omega) (by omega), hm _ (by omega) (by omega), hm _ (by omega) (by omega), hm _ (by omega) (by omega)]
      exact this
theorem iJ.congr {gx gx' gm gm' : z_G} (h : iJ gx gm) (hx : xA gx gx') (hm : yA gm gm') : iJ gx' gm' := by
  obtain ⟨h1, h2, h3, h4, h5, h6, h7, h8⟩ := h
  refine ⟨fun t a b => ?_, ?_, ?_, ?_, ?_, fun j hj => ?_, ?_, fun d hd => ?_⟩
  · obtain ⟨q1, q2, q3, q4, q5, q6, q7⟩ := h1 t a b
    rw [hx 7 t (by unfold xK; omega), hx 8 t (by unfold xK; omega), hm 2 t (by unfold yK; omega), hm 3 t (by unfold yK; omega)]
    refine ⟨q1, q2, q3, q4, q5, q6, fun i i1 i2 => ?_⟩
    rw [hx _ i (by unfold xK; omega), hm 4 _ (by unfold yK; omega)]; exact q7 i i1 i2
  · unfold iF at h2 ⊢
    rw [hx 10 1 (by unfold xK; omega), hm 0 9 (by unfold yK; omega)]
    refine ⟨h2.1, h2.2.1, h2.2.2.1, fun i i1 i2 => ?_⟩
    rw [hx 11 i (by unfold xK; omega), hm 5 i (by unfold yK; omega)]; exact h2.2.2.2 i i1 i2
  · rw [hx 0 5 (by unfold xK; omega), hx 0 6 (by unfold xK; omega), hm 0 15 (by unfold yK; omega), hm 0 16 (by unfold yK; omega)]; exact h3
  · unfold iL at h4 ⊢
    rw [hx 0 17 (by unfold xK; omega), hx 94 1 (by unfold xK; omega), hx 94 2 (by unfold xK; omega), hx 94 3 (by unfold xK; omega), hx 94 4 (by unfold xK; omega), hx 94 5 (by unfold xK; omega), hm 0 40 (by unfold yK; omega), hm 17 0 (by unfold yK; omega), hm 17 1 (by unfold yK; omega), hm 17 2 (by unfold yK; omega), hm 17 3 (by unfold yK; omega), hm 17 4 (by unfold yK; omega)]; exact h4
  · rw [hx 0 14 (by unfold xK; omega), hm 0 41 (by unfold yK; omega)]; exact h5
  · rw [hm 0 41 (by unfold yK; omega)] at hj
    refine (h6 j hj).congr (fun a i ha => hx _ _ (by unfold xK; omega)) (fun i i1 i2 => hm _ _ (by unfold yK; omega))
  · exact h7.congr (fun a i ha => hx _ _ (by unfold xK; omega)) (fun i i1 i2 => hm _ _ (by unfold yK; omega))
  · rw [hx 16 d (by unfold xK; omega), hx 17 d (by unfold xK; omega)]; exact h8 d hd
theorem mC.congr {g g' : z_G} (h : mC g) (h8 : ∀ i, g' 8 i = g 8 i) (h9 : ∀ i, g' 9 i = g 9 i) (h24 : g' 0 24 = g 0 24) (h25 : g' 0 25 = g 0 25) : mC g' := by
  unfold mC at h ⊢
  rw [h24, h25, show g' 8 = g 8 from funext h8, show g' 9 = g 9 from funext h9]; exact h
theorem mS.c {g g' : z_G} (h : mS g g') (hc : mC g) : mC g' := hc.congr (fun i => h 8 i (by unfold mP; omega)) (fun i => h 9 i (by unfold mP; omega)) (h 0 24 (by unfold mP; omega)) (h 0 25 (by unfold mP; omega))
theorem mC.up {g : z_G} (h : mC g) {c : Nat} {i v : Int} (h1 : c ≠ 8) (h2 : c ≠ 9) (h3 : c ≠ 0 ∨ (i ≠ 24 ∧ i ≠ 25)) : mC (z_up g c i v) := h.congr (fun i => z_u2 (by omega)) (fun i => z_u2 (by omega)) (z_u2 (by omega)) (z_u2 (by omega))
/-- only STATUS is new -/
theorem Inv.fin {gx gm gx' gm' : z_G} (h : Inv gx gm) (hx : xA gx gx') (hm : yA gm gm') (hc : mC gm') (s : Int) : Inv (z_up gx' 0 0 s) (z_up gm' 0 1 s) := by
  obtain ⟨h1, h2, h3, h4, h5⟩ := h
  refine ⟨by rw [z_u1, z_u1], ?_, ?_, h4.congr (hx.up (by unfold xK; omega)) (hm.up (by unfold yK; omega)), hc.up (by omega) (by omega) (by omega)⟩
  · rw [z_u2 (by omega), z_u2 (by omega), hx 0 1 (by unfold xK; omega), hm 0 2 (by unfold yK; omega)]; exact h2
  · rw [z_u2 (by omega), z_u2 (by omega), hx 0 2 (by unfold xK; omega), hm 0 3 (by unfold yK; omega)]; exact h3
theorem iJ.congr' {gx gx' gm gm' : z_G} (h : iJ gx gm) (hx : ∀ c i, xK c i → ¬ (c = 0 ∧ (i = 1 ∨ i = 2)) → gx' c i = gx c i) (hm : ∀ c i, yK c i → ¬ (c = 0 ∧ (i = 2 ∨ i = 3)) → gm' c i = gm c i) : iJ gx' gm' := by
  have k1 : iJ (z_up (z_up gx' 0 1 (gx 0 1)) 0 2 (gx 0 2)) (z_up (z_up gm' 0 2 (gm 0 2)) 0 3 (gm 0 3)) := by
    refine h.congr (fun c i hk => ?_) (fun c i hk => ?_)
    · by_cases q1 : c = 0 ∧ i = 2
      · rw [q1.1, q1.2, z_u1]
      · rw [z_u2 (by omega)]
        by_cases q2 : c = 0 ∧ i = 1
        · rw [q2.1, q2.2, z_u1]
        · rw [z_u2 (by omega)]; exact hx c i hk (by omega)
    · by_cases q1 : c = 0 ∧ i = 3
      · rw [q1.1, q1.2, z_u1]
      · rw [z_u2 (by omega)]
        by_cases q2 : c = 0 ∧ i = 2
        · rw [q2.1, q2.2, z_u1]
        · rw [z_u2 (by omega)]; exact hm c i hk (by omega)
  obtain ⟨h1, h2, h3, h4, h5, h6, h7, h8⟩ := k1
  refine ⟨fun t a b => ?_, ?_, ?_, ?_, ?_, fun j hj => ?_, ?_, fun d hd => ?_⟩
  · have q := h1 t a b
    rw [z_u2 (by omega), z_u2 (by omega), z_u2 (by omega), z_u2 (by omega), z_u2 (by omega), z_u2 (by omega), z_u2 (by omega), z_u2 (by omega)] at q
    obtain ⟨q1, q2, q3, q4, q5, q6, q7⟩ := q
    refine ⟨q1, q2, q3, q4, q5, q6, fun i i1 i2 => ?_⟩
    have := q7 i i1 i2
    rw [z_u2 (by omega), z_u2 (by omega), z_u2 (by omega), z_u2 (by omega)] at this
    exact this
  · unfold iF at h2 ⊢
    rw [z_u2 (by omega), z_u2 (by omega), z_u2 (by omega), z_u2 (by omega)] at h2
    refine ⟨h2.1, h2.2.1, h2.2.2.1, fun i i1 i2 => ?_⟩
    have := h2.2.2.2 i i1 i2
    rw [z_u2 (by omega), z_u2 (by omega), z_u2 (by omega), z_u2 (by omega)] at this
    exact this
  · rw [z_u2 (by omega), z_u2 (by omega), z_u2 (by omega), z_u2 (by omega), z_u2 (by omega), z_u2 (by omega), z_u2 (by omega), z_u2 (by omega)] at h3; exact h3
  · unfold iL at h4 ⊢
    simp only [z_up, show ((94 : Nat) = 0) = False from by simp, show ((17 : Nat) = 0) = False from by simp, show ((17 : Int) = 2) = False from by simp, show ((17 : Int) = 1) = False from by simp, show ((40 : Int) = 3) = False from by simp, show ((40 : Int) = 2) = False from by simp, and_false, false_and, if_false] at h4
    exact h4
  · rw [z_u2 (by omega), z_u2 (by omega), z_u2 (by omega), z_u2 (by omega)] at h5; exact h5
  · refine (h6 j (by rw [z_u2 (by omega), z_u2 (by omega)]; exact hj)).congr (fun a i ha => ?_) (fun i i1 i2 => ?_)
    · unfold fX; rw [z_u2 (by omega), z_u2 (by omega)]
    · unfold fM; rw [z_u2 (by omega), z_u2 (by omega)]
  · refine h7.congr (fun a i ha => ?_) (fun i i1 i2 => ?_)
    · unfold fX; rw [z_u2 (by omega), z_u2 (by omega)]
    · unfold fM; rw [z_u2 (by omega), z_u2 (by omega)]
  · have := h8 d hd
    rw [z_u2 (by omega), z_u2 (by omega), z_u2 (by omega), z_u2 (by omega)] at this
    exact this
/-- a FRACTION is told -/
theorem Inv.tell {gx gm gx' gm' : z_G} (h : Inv gx gm) (hx : xA gx gx') (hm : yA gm gm') (hc : mC gm') (a b : Int) : Inv (z_up (z_up (z_up gx' 0 1 a) 0 2 b) 0 0 0) (z_up (z_up (z_up gm' 0 2 a) 0 3 b) 0 1 0) := by
  obtain ⟨h1, h2, h3, h4, h5⟩ := h
  refine ⟨by rw [z_u1, z_u1], ?_, ?_, h4.congr' (fun c i hk hn => ?_) (fun c i hk hn => ?_), ((hc.up (by omega) (by omega) (by omega)).up (by omega) (by omega) (by omega)).up (by omega) (by omega) (by omega)⟩
  · simp [z_up]
  · simp [z_up]
  · rw [z_u2 (by unfold xK at hk; omega), z_u2 (by omega), z_u2 (by omega)]; exact hx c i hk
  · rw [z_u2 (by unfold yK at hk; omega), z_u2 (by omega), z_u2 (by omega)]; exact hm c i hk

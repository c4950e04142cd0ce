/-! the relation between the class's heap gx and the reference's gm -/
/-- places of the class's heap that the relation speaks of, but STATUS -/
def xK (c : Nat) (i : Int) : Prop := (c = 0 ∧ (i = 1 ∨ i = 2 ∨ i = 5 ∨ i = 6 ∨ i = 14 ∨ i = 17)) ∨ (3 ≤ c ∧ c ≤ 8) ∨ (c = 10 ∧ i = 1) ∨ c = 11 ∨ c = 16 ∨ c = 17 ∨ (23 ≤ c ∧ c ≤ 36) ∨ (52 ≤ c ∧ c ≤ 93) ∨ (c = 94 ∧ 0 ≤ i ∧ i ≤ 5)
/-- and of the reference's, but STATUS and the row that was laid -/
def yK (c : Nat) (i : Int) : Prop := (c = 0 ∧ (i = 2 ∨ i = 3 ∨ i = 9 ∨ i = 15 ∨ i = 16 ∨ i = 40 ∨ i = 41)) ∨ (c = 1 ∧ i < 2440) ∨ c = 2 ∨ c = 3 ∨ c = 4 ∨ c = 5 ∨ c = 17
def xA (g g' : z_G) : Prop := ∀ c i, xK c i → g' c i = g c i
def yA (g g' : z_G) : Prop := ∀ c i, yK c i → g' c i = g c i
theorem xA.rf {g : z_G} : xA g g := fun _ _ _ => rfl
theorem yA.rf {g : z_G} : yA g g := fun _ _ _ => rfl
theorem xA.tr {g g' g'' : z_G} (h : xA g g') (h' : xA g' g'') : xA g g'' := fun c i hk => (h' c i hk).trans (h c i hk)
theorem yA.tr {g g' g'' : z_G} (h : yA g g') (h' : yA g' g'') : yA g g'' := fun c i hk => (h' c i hk).trans (h c i hk)
theorem xA.up {g g' : z_G} (h : xA g g') {c : Nat} {i v : Int} (hk : ¬ xK c i) : xA g (z_up g' c i v) := fun c' i' hk' => by
  unfold z_up
  split
  · rename_i q; rw [q.1, q.2] at hk'; exact absurd hk' hk
  · exact h c' i' hk'
theorem yA.up {g g' : z_G} (h : yA g g') {c : Nat} {i v : Int} (hk : ¬ yK c i) : yA g (z_up g' c i v) := fun c' i' hk' => by
  unfold z_up
  split
  · rename_i q; rw [q.1, q.2] at hk'; exact absurd hk' hk
  · exact h c' i' hk'
theorem mS.y {g g' : z_G} (h : mS g g') : yA g g' := fun c i hk => h c i (Or.inl (by unfold yK at hk; unfold mK; omega))
/-- ORDER, ODDS -/
def iO (fx : Nat → Int → Int) (fm : Int → Int) : Prop := fx 0 0 = fm 1 ∧ 1 ≤ fm 1 ∧ fm 1 ≤ 200 ∧ fx 0 1 = fm 0 ∧ 0 ≤ fm 0 ∧ fm 0 ≤ 16
/-- the WALKER -/
def iW (fx : Nat → Int → Int) (fm : Int → Int) : Prop := n_sp (fx 1 0) (fx 1 1) (fx 1 2) (fx 1 3) ∧ fx 1 0 + fx 1 2 = fm 2 ∧ fx 1 1 + fx 1 3 = fm 3 ∧ fm 3 ≤ 9999 ∧ fx 1 4 = n_D (fm 2) (fm 3)
/-- a VALUE in lowest terms -/
def iVal (t b : Int) : Prop := 0 ≤ t ∧ t ≤ b ∧ 1 ≤ b ∧ b ≤ 9999 ∧ Int.gcd t b = 1
/-- PINS -/
def iP (fx : Nat → Int → Int) (fm : Int → Int) : Prop := fx 2 3 = fm 4 ∧ 0 ≤ fm 4 ∧ fm 4 ≤ 12 ∧ (∀ k : Int, 0 ≤ k → k < fm 4 → fx 3 k = fm (10 + 3 * k) ∧ fx 4 k = fm (10 + 3 * k + 1) ∧ fx 5 k = fm (10 + 3 * k + 2) ∧ iVal (fm (10 + 3 * k)) (fm (10 + 3 * k + 1)) ∧ 1 ≤ fm (10 + 3 * k + 2) ∧ fm (10 + 3 * k + 2) ≤ 999) ∧ ∀ j k : Int, 0 ≤ j → j < k → k < fm 4 → ¬ (fm (10 + 3 * j) = fm (10 + 3 * k) ∧ fm (10 + 3 * j + 1) = fm (10 + 3 * k + 1))
/-- VISITED -/
def iV (fx : Nat → Int → Int) (fm : Int → Int) : Prop := fx 6 1 = fm 5 ∧ 0 ≤ fm 5 ∧ fm 5 ≤ 200 ∧ (∀ i j : Int, 0 ≤ i → i < j → j < fm 5 → fx 7 i < fx 7 j) ∧ (∀ i : Int, 0 ≤ i → i < fm 5 → ∃ j : Int, 0 ≤ j ∧ j < fm 5 ∧ fx 7 j = fm (46 + i)) ∧ (∀ i : Int, 0 ≤ i → i < fm 5 → ∃ j : Int, 0 ≤ j ∧ j < fm 5 ∧ fm (46 + j) = fx 7 i) ∧ ∀ i j : Int, 0 ≤ i → i < j → j < fm 5 → fm (46 + i) ≠ fm (46 + j)
/-- one line of TOURS: kinds as the class numbers them, as the reference does -/
def iLn (fx : Nat → Int → Int) (fm : Int → Int) (n : Int) (len : Int) : Prop :=
  let r := 246 + 6 * n
  (fx 9 n = 0 ∧ fm r = 6) ∨ (fx 9 n = 1 ∧ fm r = 7) ∨ (fx 9 n = 2 ∧ fm r = 8) ∨ (fx 9 n = 3 ∧ fm r = 9)
  ∨ (fx 9 n = 4 ∧ fm r = 3 ∧ fx 11 n = fm (r + 1) ∧ 1 ≤ fm (r + 1) ∧ fm (r + 1) ≤ 99) ∨ (fx 9 n = 5 ∧ fm r = 10)
  ∨ (fx 9 n = 6 ∧ fm r = 1 ∧ fx 11 n = fm (r + 1) ∧ 1 ≤ fm (r + 1) ∧ fm (r + 1) ≤ 200) ∨ (fx 9 n = 7 ∧ fm r = 11)
  ∨ (fx 9 n = 8 ∧ fx 13 n = fm (r + 4) ∧ n < fm (r + 4) ∧ fm (r + 4) < len ∧ fx 9 (fx 13 n) = 11 ∧ fx 13 (fx 13 n) = n
      ∧ ((fm r = 1216 ∧ fx 10 n = 0 ∧ fx 11 n = fm (r + 1) ∧ fx 12 n = fm (r + 2)) ∨ (fm r = 1217 ∧ fx 10 n = 1)
        ∨ ((fm r = 1218 ∧ fx 10 n = 2 ∨ fm r = 1219 ∧ fx 10 n = 3) ∧ fx 11 n = fm (r + 5) ∧ (fm (r + 5) = 60 ∨ fm (r + 5) = 61 ∨ fm (r + 5) = 62) ∧ fx 12 n = fm (r + 1) ∧ 0 ≤ fm (r + 1) ∧ fm (r + 1) ≤ 9999)))
  ∨ (fx 9 n = 9 ∧ fm r = 13 ∧ fx 11 n = fm (r + 1) ∧ 1 ≤ fm (r + 1) ∧ fm (r + 1) ≤ 99 ∧ fx 13 n = fm (r + 4) ∧ n < fm (r + 4) ∧ fm (r + 4) < len ∧ fx 9 (fx 13 n) = 11 ∧ fx 13 (fx 13 n) = n)
  ∨ (fx 9 n = 10 ∧ fm r = 15)
  ∨ (fx 9 n = 11 ∧ fm r = 14 ∧ fx 13 n = fm (r + 4) ∧ 0 ≤ fm (r + 4) ∧ fm (r + 4) < n ∧ (fx 9 (fx 13 n) = 8 ∨ fx 9 (fx 13 n) = 9) ∧ fx 13 (fx 13 n) = n)
/-- TOURS -/
def iG (fx : Nat → Int → Int) (fm : Int → Int) : Prop := (fx 8 0 = 0 ∧ fm 6 = -1) ∨ (fx 8 0 = 1 ∧ fx 8 2 = fm 6 ∧ 0 ≤ fm 6 ∧ fm 6 ≤ 60 ∧ (∀ n : Int, 0 ≤ n → n < fm 6 → iLn fx fm n (fm 6)) ∧ ∀ n m : Int, 0 ≤ n → n < m → m < fm 6 → (fx 9 n = 8 ∨ fx 9 n = 9) → (fx 9 m = 8 ∨ fx 9 m = 9) → m < fx 13 n → fx 13 m < fx 13 n)
def iB (fx : Nat → Int → Int) (fm : Int → Int) : Prop := iO fx fm ∧ iW fx fm ∧ iP fx fm ∧ iV fx fm ∧ iG fx fm
def fX (g : z_G) (o : Nat) : Nat → Int → Int := fun j i => g (o + j) i
def fM (g : z_G) (s : Int) : Int → Int := fun i => g 1 (s + i)
/-- TRAYS -/
def iT (gx gm : z_G) : Prop := ∀ t : Int, 0 ≤ t → t < 4 → gx 7 t = gm 2 t ∧ 0 ≤ gm 2 t ∧ gm 2 t ≤ 3 ∧ gx 8 t = gm 3 t ∧ -1 ≤ gm 3 t ∧ gm 3 t ≤ 60 ∧ ∀ i : Int, 0 ≤ i → i < gm 3 t → gx (3 + t.toNat) i = gm 4 (60 * t + i)
/-- the tape -/
def iF (gx gm : z_G) : Prop := gx 10 1 = gm 0 9 ∧ 0 ≤ gm 0 9 ∧ gm 0 9 ≤ 900 ∧ ∀ i : Int, 0 ≤ i → i < gm 0 9 → gx 11 i = gm 5 i % 256 ∧ -128 ≤ gm 5 i ∧ gm 5 i ≤ 127
/-- what lived() tells -/
def iL (gx gm : z_G) : Prop := (gx 0 17 = 0 ∧ gm 0 40 = 0) ∨ (gx 0 17 = 1 ∧ gm 0 40 = 1 ∧ gx 94 1 = gm 17 0 ∧ gx 94 2 = gm 17 1 ∧ gx 94 3 = gm 17 2 ∧ gx 94 4 = gm 17 3 ∧ gx 94 5 = gm 17 4 ∧ (gm 17 4 = 0 ∨ gm 17 4 = 1))

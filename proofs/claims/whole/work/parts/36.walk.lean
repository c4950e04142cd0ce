/-! ## Visits, and the walker -/
def vS (c : Int → Int) (n : Int) : Prop := ∀ i j : Int, 0 ≤ i → i < j → j < n → c i < c j
def eX (c : Int → Int) (n : Int) (c' : Int → Int) (n' key : Int) : Prop :=
  ((n = 200 ∨ ∃ j : Int, 0 ≤ j ∧ j < n ∧ c j = key) ∧ n' = n ∧ ∀ i, c' i = c i) ∨
  (n < 200 ∧ (∀ j : Int, 0 ≤ j → j < n → c j ≠ key) ∧ n' = n + 1 ∧ vS c' (n + 1) ∧ (∀ i : Int, 0 ≤ i → i < n + 1 → c' i = key ∨ ∃ j : Int, 0 ≤ j ∧ j < n ∧ c j = c' i) ∧ (∀ j : Int, 0 ≤ j → j < n → ∃ i : Int, 0 ≤ i ∧ i < n + 1 ∧ c' i = c j) ∧ ∃ i : Int, 0 ≤ i ∧ i < n + 1 ∧ c' i = key)
def eM (d : Int → Int) (n : Int) (d' : Int → Int) (n' key : Int) : Prop :=
  ((n = 200 ∨ ∃ j : Int, 0 ≤ j ∧ j < n ∧ d j = key) ∧ n' = n ∧ ∀ i : Int, 0 ≤ i → i < 200 → d' i = d i) ∨
  (n < 200 ∧ (∀ j : Int, 0 ≤ j → j < n → d j ≠ key) ∧ n' = n + 1 ∧ d' n = key ∧ ∀ i : Int, 0 ≤ i → i < n → d' i = d i)
theorem s_Vi_placeOf {X : z_X} {N : Nat} {σ g : z_G} {Q : z_P} {o : Nat} (ho : z_lay X N σ o z_SVi z_RVi) {key : Int} (hn : 0 ≤ g o 1 ∧ g o 1 ≤ 200) (hs : vS (g (o + 1)) (g o 1)) (hq : ∀ p : Int, 0 ≤ p → p ≤ g o 1 → (∀ i : Int, 0 ≤ i → i < p → g (o + 1) i < key) → (∀ i : Int, p ≤ i → i < g o 1 → key ≤ g (o + 1) i) → Q p g) : z_O X 1 m_Vi_placeOf [(2, ((o : Nat) : Int)), (0, key)] N σ g Q := by
  refine b_Vi_placeOf_0 ho ?_
  have loop : ∀ (k : Nat) (x2 x3 x4 : Int), (x3 - x2).toNat < 2 ^ k → 0 ≤ x4 → x4 + k ≤ 8 → 0 ≤ x2 → x2 ≤ x3 → x3 ≤ g o 1 → (∀ i : Int, 0 ≤ i → i < x2 → g (o + 1) i < key) → (∀ i : Int, x3 ≤ i → i < g o 1 → key ≤ g (o + 1) i) → L_Vi_placeOf_10 X N σ key x2 x3 x4 o g Q := by
    intro k
    induction k with
    | zero =>
      intro x2 x3 x4 h1 h2 h3 h4 h5 h6 h7 h8
      have e : x2 = x3 := by have : (2 : Nat) ^ 0 = 1 := rfl; omega
      exact b_Vi_placeOf_10 ho ⟨fun q => absurd q (by omega), fun _ => ⟨fun _ => hq x2 h4 (by omega) h7 (by rw [e]; exact h8), fun q => absurd (by omega) q⟩⟩
    | succ k ih =>
      intro x2 x3 x4 h1 h2 h3 h4 h5 h6 h7 h8
      rw [Nat.pow_succ] at h1
      by_cases e : x3 ≤ x2
      · exact b_Vi_placeOf_10 ho ⟨fun q => absurd q (by omega), fun _ => ⟨fun _ => hq x2 h4 (by omega) h7 (fun i i1 i2 => h8 i (by omega) i2), fun q => absurd e q⟩⟩
      · refine b_Vi_placeOf_10 ho ⟨fun q => absurd q (by omega), fun _ => ⟨fun q => absurd q e, fun _ => ⟨by omega, ?_⟩⟩⟩
        rw [n_td (by omega)]
        refine ⟨by omega, fun p => ⟨by omega, ih _ _ _ (by omega) (by omega) (by omega) (by omega) (by omega) (by omega) h7 fun i i1 i2 => ?_⟩, fun p => ⟨by omega, by omega, ih _ _ _ (by omega) (by omega) (by omega) (by omega) (by omega) (by omega) (fun i i1 i2 => ?_) h8⟩⟩
        · by_cases c : i = (x2 + x3) / 2
          · rw [c]; exact p
          · have := hs ((x2 + x3) / 2) i (by omega) (by omega) i2
            omega
        · by_cases c : i = (x2 + x3) / 2
          · rw [c]; omega
          · have := hs i ((x2 + x3) / 2) i1 (by omega) (by omega)
            omega
  exact loop 8 0 (g o 1) 0 (by have : (2 : Nat) ^ 8 = 256 := rfl; omega) (by omega) (by omega) (by omega) hn.1 (by omega) (fun i _ _ => by omega) (fun i _ _ => by omega)
theorem s_Vi_enter {X : z_X} {N : Nat} {σ g : z_G} {Q : z_P} {o p : Nat} (ho : z_lay X N σ o z_SVi z_RVi) (hp : z_lay X N σ p z_SSp z_RSp) {T B : Int} (eT : g p 0 + g p 2 = T) (eB : g p 1 + g p 3 = B) (hT : 0 ≤ T ∧ T ≤ 9999) (hB : 0 ≤ B ∧ B ≤ 9999) (hn : 0 ≤ g o 1 ∧ g o 1 ≤ 200) (hs : vS (g (o + 1)) (g o 1)) (hq : ∀ g', (∀ c i, c ≠ o + 1 → ¬ (c = o ∧ i = 1) → g' c i = g c i) → eX (g (o + 1)) (g o 1) (g' (o + 1)) (g' o 1) (T * 10000 + B) → Q 0 g') : z_O X 2 m_Vi_enter [(2, ((o : Nat) : Int)), (2, ((p : Nat) : Int))] N σ g Q := by
  refine b_Vi_enter_0 ho hp ?_
  rw [eT, eB]
  refine ⟨by omega, by omega, by omega, by omega, s_Vi_placeOf ho hn hs fun x x1 x2 x3 x4 => ?_⟩
  generalize hk : T * 10000 + B = key at *
  have shift : g o 1 < 200 → (∀ j : Int, 0 ≤ j → j < g o 1 → g (o + 1) j ≠ key) → L_Vi_enter_53 X N σ key x (g o 1) o g Q := by
    intro h1 h2
    have loop : ∀ (m : Nat) (y : Int) (g' : z_G), y ≤ x + m → x ≤ y → y ≤ g o 1 → (∀ c i, c ≠ o + 1 → g' c i = g c i) → (∀ i : Int, i ≤ y → g' (o + 1) i = g (o + 1) i) → (∀ i : Int, y < i → i ≤ g o 1 → g' (o + 1) i = g (o + 1) (i - 1)) → L_Vi_enter_53 X N σ key x y o g' Q := by
      intro m
      induction m with
      | zero =>
        intro y g' k1 k2 k3 k4 k5 k6
        have ey : y = x := by omega
        subst ey
        have e1 := k4 o 1 (by omega)
        refine b_Vi_enter_53 ho hp ⟨fun _ => ⟨by omega, by omega, ?_⟩, fun q => absurd (by omega) q⟩
        have f1 : ∀ i, z_up (z_up g' (o + 1) y key) o 1 (g' o 1 + 1) (o + 1) i = if i = y then key else g' (o + 1) i := fun i => by
          rw [z_u2 (Or.inl (by omega))]
          by_cases c : i = y
          · rw [if_pos c, c, z_u1]
          · rw [if_neg c, z_u2 (Or.inr c)]
        refine hq _ (fun c i c1 c2 => ?_) (Or.inr ⟨h1, h2, ?_, ?_, fun i i1 i2 => ?_, fun j j1 j2 => ?_, ⟨y, by omega, by omega, ?_⟩⟩)
        · rw [z_u2 (by omega), z_u2 (Or.inl c1), k4 c i c1]
        · rw [z_u1, e1]
        · intro i j i1 i2 i3
          rw [f1, f1]
          by_cases a : i < y
          · rw [if_neg (show ¬ i = y by omega), k5 i (by omega)]
            by_cases b : j = y
            · rw [if_pos b]; exact x3 i i1 a
            · rw [if_neg b]
              by_cases c : j < y
              · rw [k5 j (by omega)]; exact hs i j i1 i2 (by omega)
              · rw [k6 j (by omega) (by omega)]
                have a1 := x3 i i1 a
                have a2 := x4 (j - 1) (by omega) (by omega)
                omega
          · rw [if_neg (show ¬ j = y by omega), k6 j (by omega) (by omega)]
            by_cases b : i = y
            · rw [if_pos b]
              have a2 := x4 (j - 1) (by omega) (by omega)
              have a3 := h2 (j - 1) (by omega) (by omega)
              omega
            · rw [if_neg b, k6 i (by omega) (by omega)]
              exact hs (i - 1) (j - 1) (by omega) (by omega) (by omega)
        · rw [f1]
          by_cases b : i = y
          · rw [if_pos b]; exact Or.inl rfl
          · rw [if_neg b]
            by_cases c : i < y
            · exact Or.inr ⟨i, i1, by omega, (k5 i (by omega)).symm⟩
            · exact Or.inr ⟨i - 1, by omega, by omega, (k6 i (by omega) (by omega)).symm⟩
        · by_cases c : j < y
          · exact ⟨j, j1, by omega, by rw [f1, if_neg (by omega), k5 j (by omega)]⟩
          · exact ⟨j + 1, by omega, by omega, by rw [f1, if_neg (by omega), k6 (j + 1) (by omega) (by omega), show j + 1 - 1 = j by omega]⟩
        · rw [f1, if_pos rfl]
      | succ m ih =>
        intro y g' k1 k2 k3 k4 k5 k6
        by_cases ey : y ≤ x
        · exact ih y g' (by omega) k2 k3 k4 k5 k6
        · refine b_Vi_enter_53 ho hp ⟨fun q => absurd q ey, fun _ => ⟨by omega, by omega, by omega, by omega, ?_⟩⟩
          refine ih (y + -1) _ (by omega) (by omega) (by omega) (fun c i c1 => ?_) (fun i i1 => ?_) (fun i i1 i2 => ?_)
          · rw [z_u2 (Or.inl c1), k4 c i c1]
          · rw [z_u2 (Or.inr (by omega)), k5 i (by omega)]
          · by_cases c : i = y
            · rw [c, z_u1, k5 (y - 1) (by omega)]
            · rw [z_u2 (Or.inr c), k6 i (by omega) i2]
    exact loop (g o 1 - x).toNat (g o 1) g (by omega) x2 (by omega) (fun _ _ _ => rfl) (fun _ _ => rfl) (fun i i1 i2 => by omega)
  refine ⟨fun q => hq g (fun _ _ _ _ => rfl) (Or.inl ⟨Or.inl (by omega), rfl, fun _ => rfl⟩), fun q => ⟨fun q2 => shift (by omega) fun j j1 j2 => ?_, fun q2 => ⟨by omega, fun q3 => ?_, fun q3 => shift (by omega) fun j j1 j2 => ?_⟩⟩⟩
  · have := x3 j j1 (by omega); omega
  · exact hq g (fun _ _ _ _ => rfl) (Or.inl ⟨Or.inr ⟨x, x1, by omega, q3⟩, rfl, fun _ => rfl⟩)
  · rcases Int.lt_trichotomy j x with c | c | c
    · have := x3 j j1 c; omega
    · rw [c]; exact q3
    · have a1 := hs x j x1 c j2
      have a2 := x4 x (by omega) (by omega)
      omega
theorem s_M_sees {X : z_X} {N : Nat} {σ g : z_G} {Q : z_P} (hx : z_lay X N σ 0 z_SM z_RM) {s T B : Int} (h0 : 0 ≤ s ∧ s ≤ 2440) (eT : g 1 (s + 2) = T) (eB : g 1 (s + 3) = B) (hT : 0 ≤ T ∧ T ≤ 9999) (hB : 0 ≤ B ∧ B ≤ 9999) (hn : 0 ≤ g 1 (s + 5) ∧ g 1 (s + 5) ≤ 200) (hq : ∀ g', (∀ c i, ¬ (c = 1 ∧ (i = s + 5 ∨ (s + 46 ≤ i ∧ i < s + 246))) → g' c i = g c i) → eM (fun i => g 1 (s + (46 + i))) (g 1 (s + 5)) (fun i => g' 1 (s + (46 + i))) (g' 1 (s + 5)) (T * 10000 + B) → Q 0 g') : z_O X 1 m_M_sees [(2, 0), (0, s)] N σ g Q := by
  refine b_M_sees_0 hx ?_
  rw [eT, eB]
  refine ⟨by omega, by omega, by omega, by omega, by omega, by omega, ?_⟩
  rw [Int.mul_comm 10000 T]
  generalize T * 10000 + B = key at *
  have loop : ∀ (m : Nat) (x : Int), g 1 (s + 5) ≤ x + m → 0 ≤ x → x ≤ g 1 (s + 5) → (∀ j : Int, 0 ≤ j → j < x → g 1 (s + (46 + j)) ≠ key) → L_M_sees_24 X N σ s key x g Q := by
    intro m
    induction m with
    | zero =>
      intro x k1 k2 k3 k4
      refine b_M_sees_24 hx ⟨by omega, by omega, fun _ => ⟨fun q => ?_, fun q => ⟨by omega, by omega, by omega, ?_⟩⟩, fun q => absurd (by omega) q⟩
      · exact hq g (fun _ _ _ => rfl) (Or.inl ⟨Or.inl q, rfl, fun _ _ _ => rfl⟩)
      · rw [z_u2 (Or.inr (by omega))]
        refine ⟨by omega, hq _ (fun c i c1 => ?_) (Or.inr ⟨by omega, fun j j1 j2 => k4 j j1 (by omega), z_u1, ?_, fun i i1 i2 => ?_⟩)⟩
        · rw [z_u2 (by omega), z_u2 (by omega)]
        · show z_up _ _ _ _ _ _ = _
          rw [z_u2 (by omega), show s + (46 + g 1 (s + 5)) = s + 46 + g 1 (s + 5) by omega, z_u1]
        · show z_up _ _ _ _ _ _ = _
          rw [z_u2 (by omega), z_u2 (by omega)]
    | succ m ih =>
      intro x k1 k2 k3 k4
      by_cases c : g 1 (s + 5) ≤ x
      · exact ih x (by omega) k2 k3 k4
      · refine b_M_sees_24 hx ⟨by omega, by omega, fun q => absurd q c, fun _ => ⟨by omega, by omega, by omega, fun q => ?_, fun q => ⟨by omega, ih (x + 1) (by omega) (by omega) (by omega) fun j j1 j2 => ?_⟩⟩⟩
        · exact hq g (fun _ _ _ => rfl) (Or.inl ⟨Or.inr ⟨x, k2, by omega, by show g 1 (s + (46 + x)) = key; rw [← q]; congr 1; omega⟩, rfl, fun _ _ _ => rfl⟩)
        · by_cases e : j = x
          · rw [e, show s + (46 + x) = s + 46 + x by omega]; exact q
          · exact k4 j j1 (by omega)
  exact loop (g 1 (s + 5)).toNat 0 (by omega) (by omega) hn.1 (fun j _ _ => by omega)

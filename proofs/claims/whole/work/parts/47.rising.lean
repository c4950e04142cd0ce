/-! ## the order of the pins, risingAt -/
def pB (gm : z_G) (x : Int) : Nat → Int
  | 0 => 0
  | n + 1 => pB gm x n + (if gm 1 (10 + 3 * x) * gm 1 (10 + 3 * (n : Int) + 1) ≤ gm 1 (10 + 3 * (n : Int)) * gm 1 (10 + 3 * x + 1) then 0 else 1)
theorem pB_le (gm : z_G) (x : Int) : ∀ n : Nat, 0 ≤ pB gm x n ∧ pB gm x n ≤ n
  | 0 => by unfold pB; omega
  | n + 1 => by
    have ih := pB_le gm x n
    unfold pB
    split <;> omega
/-- the pin with a pins below it -/
def pR (gm : z_G) (a r : Int) : Prop := (r = -1 ∧ ∀ x : Int, 0 ≤ x → x < gm 1 4 → pB gm x (gm 1 4).toNat ≠ a) ∨ (0 ≤ r ∧ r < gm 1 4 ∧ pB gm r (gm 1 4).toNat = a ∧ ∀ x : Int, 0 ≤ x → x < r → pB gm x (gm 1 4).toNat ≠ a)
theorem pR.eq {gm : z_G} {a r r' : Int} (h1 : pR gm a r) (h2 : pR gm a r') : r = r' := by
  rcases h1 with ⟨a1, a2⟩ | ⟨a1, a2, a3, a4⟩
  · rcases h2 with ⟨b1, b2⟩ | ⟨b1, b2, b3, b4⟩
    · omega
    · exact absurd b3 (a2 r' b1 b2)
  · rcases h2 with ⟨b1, b2⟩ | ⟨b1, b2, b3, b4⟩
    · exact absurd a3 (b2 r a1 a2)
    · rcases Int.lt_trichotomy r r' with c | c | c
      · exact absurd a3 (b4 r a1 c)
      · exact c
      · exact absurd b3 (a4 r' b1 c)
theorem s_M_rising {X : z_X} {N : Nat} {σ gx g : z_G} {Q : z_P} (hm : z_lay X N σ 0 z_SM z_RM) (h : pI gx g) {a : Int} (hq : ∀ r, pR g a r → Q r g) : z_O X 4 m_M_rising [(2, 0), (0, a)] N σ g Q := by
  obtain ⟨p1, p2, p3, p4, p5⟩ := h
  refine b_M_rising_0 hm ?_
  have inner : ∀ x : Int, 0 ≤ x → x < g 1 4 → (pB g x (g 1 4).toNat = a → Q x g) → (pB g x (g 1 4).toNat ≠ a → L_M_rising_2 X N σ a (x + 1) g Q) → L_M_rising_17 X N σ a x 0 0 g Q := by
    intro x x1 x2 ha hb
    obtain ⟨-, -, -, ⟨w1, w2, w3, w4, -⟩, -⟩ := p4 x x1 x2
    have loop : ∀ (m n : Nat), g 1 4 ≤ (n : Int) + m → (n : Int) ≤ g 1 4 → L_M_rising_17 X N σ a x (pB g x n) n g Q := by
      intro m
      induction m with
      | zero =>
        intro n k1 k2
        have : n = (g 1 4).toNat := by omega
        subst this
        exact b_M_rising_17 hm ⟨fun _ => ⟨fun q => ha q, fun q => ⟨by omega, hb q⟩⟩, fun p => absurd (by omega) p⟩
      | succ m ih =>
        intro n k1 k2
        by_cases c : g 1 4 ≤ (n : Int)
        · exact ih n (by omega) k2
        · have i1 := ih (n + 1) (by omega) (by omega)
          have l := pB_le g x n
          obtain ⟨-, -, -, ⟨v1, v2, v3, v4, -⟩, -⟩ := p4 n (by omega) (by omega)
          have b1 := n_mb (u := g 1 (10 + 3 * (n : Int))) (v := g 1 (10 + 3 * x + 1)) (by omega) (by omega) (by omega) (by omega)
          have b2 := n_mb (u := g 1 (10 + 3 * x)) (v := g 1 (10 + 3 * (n : Int) + 1)) (by omega) (by omega) (by omega) (by omega)
          unfold pB at i1
          refine b_M_rising_17 hm ⟨fun p => absurd p c, fun _ => ⟨by omega, by omega, by omega, by omega, by omega, by omega, by omega, by omega, by omega, by omega, by omega, by omega, fun p => ⟨by omega, by omega, ?_⟩, fun p => ⟨by omega, by omega, ?_⟩⟩⟩
          · rw [if_pos p] at i1; exact i1
          · rw [if_neg p] at i1; exact i1
    exact loop (g 1 4).toNat 0 (by omega) (by omega)
  have outer : ∀ (m : Nat) (x : Int), g 1 4 ≤ x + m → 0 ≤ x → x ≤ g 1 4 → (∀ y : Int, 0 ≤ y → y < x → pB g y (g 1 4).toNat ≠ a) → L_M_rising_2 X N σ a x g Q := by
    intro m
    induction m with
    | zero => exact fun x k1 k2 k3 k4 => b_M_rising_2 hm ⟨fun _ => hq _ (Or.inl ⟨rfl, fun y y1 y2 => k4 y y1 (by omega)⟩), fun p => absurd (by omega) p⟩
    | succ m ih =>
      intro x k1 k2 k3 k4
      by_cases c : g 1 4 ≤ x
      · exact ih x (by omega) k2 k3 k4
      · refine b_M_rising_2 hm ⟨fun p => absurd p c, fun _ => inner x k2 (by omega) (fun q => hq _ (Or.inr ⟨k2, by omega, q, k4⟩)) (fun q => ih (x + 1) (by omega) (by omega) (by omega) fun y y1 y2 => ?_)⟩
        by_cases e : y = x
        · rw [e]; exact q
        · exact k4 y y1 (by omega)
  exact outer (g 1 4).toNat 0 (by omega) (by omega) p2 (fun y _ _ => by omega)

/-! ## two chains in rising order; wide -/
theorem cCh.congr {g g' : z_G} {o : Nat} {t b : Int} (h : cCh g o t b) (h1 : ∀ i, g' o i = g o i) (h2 : ∀ i, g' (o + 1) i = g (o + 1) i) : cCh g' o t b := by
  unfold cCh at h ⊢
  rw [h1, h1, h1, h1, h1, h1, show g' (o + 1) = g (o + 1) from funext h2]
  exact h
theorem s_F_takeRising {X : z_X} {N : Nat} {σ g : z_G} {Q : z_P} (hx : z_lay X N σ 0 z_SF z_RF) {a1 a2 a3 a4 : Int} (h0 : ¬ (1 ≤ a2 ∧ a2 ≤ 9999 ∧ 0 ≤ a1 ∧ a1 ≤ a2 ∧ 1 ≤ a4 ∧ a4 ≤ 9999 ∧ 0 ≤ a3 ∧ a3 ≤ a4) → Q 0 g) (h1 : 1 ≤ a2 ∧ a2 ≤ 9999 ∧ 0 ≤ a1 ∧ a1 ≤ a2 ∧ 1 ≤ a4 ∧ a4 ≤ 9999 ∧ 0 ≤ a3 ∧ a3 ≤ a4 → ∀ g', (0 < a1 * a4 - a3 * a2 → cCh g' 18 a3 a4 ∧ cCh g' 20 a1 a2) → (¬ (0 < a1 * a4 - a3 * a2) → cCh g' 18 a1 a2 ∧ cCh g' 20 a3 a4) → (∀ c i, ¬ (18 ≤ c ∧ c ≤ 21) → g' c i = g c i) → Q 1 g') : z_O X 3 m_F_takeRising [(2, 0), (0, a1), (0, a2), (0, a3), (0, a4)] N σ g Q := by
  refine b_F_takeRising_0 hx ?_
  by_cases hv : 1 ≤ a2 ∧ a2 ≤ 9999 ∧ 0 ≤ a1 ∧ a1 ≤ a2 ∧ 1 ≤ a4 ∧ a4 ≤ 9999 ∧ 0 ≤ a3 ∧ a3 ≤ a4
  · have b1 := n_mb (u := a1) (v := a4) (by omega) (by omega) (by omega) (by omega)
    have b2 := n_mb (u := a3) (v := a2) (by omega) (by omega) (by omega) (by omega)
    have two : ∀ t b t' b' : Int, 0 ≤ t ∧ t ≤ b → 1 ≤ b ∧ b ≤ 9999 → 0 ≤ t' ∧ t' ≤ b' → 1 ≤ b' ∧ b' ≤ 9999 → (∀ g', cCh g' 18 t b → cCh g' 20 t' b' → (∀ c i, ¬ (18 ≤ c ∧ c ≤ 21) → g' c i = g c i) → Q 1 g') → z_O X 2 m_Ch_unfold [(2, 18), (0, t), (0, b)] N σ g (fun _ g0 => z_O X 2 m_Ch_unfold [(2, 20), (0, t'), (0, b')] N σ g0 (fun _ g1 => Q 1 g1)) := by
      intro t b t' b' k1 k2 k3 k4 hq
      refine s_Ch_unfold (o := 18) (ky_F_18 hx) k1 k2 fun g1 c1 f1 => s_Ch_unfold (o := 20) (ky_F_20 hx) k3 k4 fun g2 c2 f2 => hq g2 (c1.congr (fun i => f2 _ _ (by omega) (by omega)) (fun i => f2 _ _ (by omega) (by omega))) c2 fun c i hc => ?_
      rw [f2 c i (by omega) (by omega), f1 c i (by omega) (by omega)]
    repeat' (first | refine And.intro (by omega) ?_ | refine And.intro (fun _ => ?_) (fun q => absurd (by omega) q) | refine And.intro (fun q => absurd q (by omega)) (fun _ => ?_) | refine And.intro (fun _ => ?_) (fun _ => ?_) | refine And.intro (fun q => absurd q (by omega)) ?_ | refine And.intro (fun _ => ?_) ?_ | with_reducible intro _)
    · exact two _ _ _ _ (by omega) (by omega) (by omega) (by omega) fun g' c1 c2 f => h1 hv g' (fun _ => ⟨c1, c2⟩) (fun p => absurd (by assumption) p) f
    · exact two _ _ _ _ (by omega) (by omega) (by omega) (by omega) fun g' c1 c2 f => h1 hv g' (fun p => absurd p (by assumption)) (fun _ => ⟨c1, c2⟩) f
  · have := h0 hv
    repeat' (first | refine And.intro (by omega) ?_ | refine And.intro (fun _ => ?_) (fun q => absurd (by omega) q) | refine And.intro (fun q => absurd q (by omega)) (fun _ => ?_) | refine And.intro (fun _ => ?_) (fun _ => ?_) | refine And.intro (fun q => absurd q (by omega)) ?_ | refine And.intro (fun _ => ?_) ?_ | with_reducible intro _)
    all_goals first | exact this | (exfalso; omega)

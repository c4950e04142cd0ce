/-! ## The walker's moves -/
def bW (g : z_G) (o : Nat) (T B : Int) : Prop := n_sp (g (o + 1) 0) (g (o + 1) 1) (g (o + 1) 2) (g (o + 1) 3) ∧ g (o + 1) 0 + g (o + 1) 2 = T ∧ g (o + 1) 1 + g (o + 1) 3 = B ∧ B ≤ 9999 ∧ g (o + 1) 4 = n_D T B
def bV (g : z_G) (o : Nat) : Prop := 0 ≤ g (o + 6) 1 ∧ g (o + 6) 1 ≤ 200 ∧ vS (g (o + 7)) (g (o + 6) 1)
/-- the board o was moved to T/B, and entered it -/
def bMv (g g' : z_G) (o : Nat) (T B : Int) : Prop := bW g' o T B ∧ (∀ c i, c ≠ o + 1 → c ≠ o + 7 → ¬ (c = o + 6 ∧ i = 1) → g' c i = g c i) ∧ eX (g (o + 7)) (g (o + 6) 1) (g' (o + 7)) (g' (o + 6) 1) (T * 10000 + B)
theorem s_enterB {X : z_X} {N : Nat} {σ g g1 : z_G} {Q : z_P} {o : Nat} (ho : z_lay X N σ o z_SBd z_RBd) {T B : Int} (hf : ∀ c i, c ≠ o + 1 → g1 c i = g c i) (hw : bW g1 o T B) (hv : bV g o) (hq : ∀ g', bMv g g' o T B → Q 0 g') : z_O X 2 m_Vi_enter [(2, ((o + 6 : Nat) : Int)), (2, ((o + 1 : Nat) : Int))] N σ g1 Q := by
  have hl := n_sp_lt hw.1
  obtain ⟨w0, w1, w2, w3, w4⟩ := hw
  obtain ⟨v1, v2, v3⟩ := hv
  have f1 : g1 (o + 6) 1 = g (o + 6) 1 := hf _ _ (by omega)
  have f2 : g1 (o + 7) = g (o + 7) := funext fun i => hf _ _ (by omega)
  refine s_Vi_enter (o := o + 6) (p := o + 1) (ky_Bd_6 ho) (ky_Bd_1 ho) w1 w2 (by omega) (by omega) (by omega) (by rw [f1]; show vS (g1 (o + 7)) _; rw [f2]; exact v3) fun g' hf' he => ?_
  have he : eX (g1 (o + 7)) (g1 (o + 6) 1) (g' (o + 7)) (g' (o + 6) 1) (T * 10000 + B) := he
  rw [f1, f2] at he
  have f3 : ∀ i, g' (o + 1) i = g1 (o + 1) i := fun i => hf' _ _ (by omega) (by omega)
  refine hq g' ⟨?_, fun c i c1 c2 c3 => ?_, he⟩
  · unfold bW; rw [f3, f3, f3, f3, f3]; exact ⟨w0, w1, w2, w3, w4⟩
  · rw [hf' c i (by omega) (by omega), hf c i c1]
theorem s_Bd_goDown {X : z_X} {N : Nat} {σ g : z_G} {Q : z_P} {o : Nat} (ho : z_lay X N σ o z_SBd z_RBd) {T B turn : Int} (hw : bW g o T B) (hv : bV g o) (h0 : ¬ (B + (if turn = 0 then g (o + 1) 1 else g (o + 1) 3) ≤ 9999) → Q 0 g) (h1 : B + (if turn = 0 then g (o + 1) 1 else g (o + 1) 3) ≤ 9999 → ∀ g', bMv g g' o (T + (if turn = 0 then g (o + 1) 0 else g (o + 1) 2)) (B + (if turn = 0 then g (o + 1) 1 else g (o + 1) 3)) → Q 1 g') : z_O X 3 m_Bd_goDown [(2, ((o : Nat) : Int)), (0, turn)] N σ g Q := by
  have hl := n_sp_lt hw.1
  have hv' := hv
  obtain ⟨w0, w1, w2, w3, w4⟩ := hw
  have hD := n_D_le (t := T) (b := B) (by omega) (by omega) w3
  have hD0 := n_D_nonneg w0
  have eL := n_D_left w0
  have eR := n_D_right w0
  rw [w1, w2] at hD0 eL eR
  have w00 := w0
  obtain ⟨k1, k2, k3, k4, k5, -⟩ := w00
  refine b_Bd_goDown_0 ho ⟨by omega, fun c => ?_, fun c => ?_⟩
  · rw [if_pos c, if_pos c] at h1
    rw [if_pos c] at h0
    refine ⟨by omega, fun q => ?_, fun q => h0 (by omega)⟩
    refine b_Sp_descend_0 (o := o + 1) (ky_Bd_1 ho) ⟨by omega, by omega, fun _ => ⟨by omega, ?_⟩, fun p => absurd c p⟩
    refine s_enterB (g := g) (T := T + g (o + 1) 0) (B := B + g (o + 1) 1) ho (fun c i c1 => by rw [z_u2 (Or.inl c1), z_u2 (Or.inl c1), z_u2 (Or.inl c1)]) ?_ hv (fun g' hb => h1 (by omega) g' hb)
    unfold bW
    rw [z_u1, z_u2 (Or.inr (show (0 : Int) ≠ 4 by omega)), z_u2 (Or.inr (show (0 : Int) ≠ 3 by omega)), z_u2 (Or.inr (show (0 : Int) ≠ 2 by omega)), z_u2 (Or.inr (show (1 : Int) ≠ 4 by omega)), z_u2 (Or.inr (show (1 : Int) ≠ 3 by omega)), z_u2 (Or.inr (show (1 : Int) ≠ 2 by omega)), z_u2 (Or.inr (show (2 : Int) ≠ 4 by omega)), z_u2 (Or.inr (show (2 : Int) ≠ 3 by omega)), z_u1, z_u2 (Or.inr (show (3 : Int) ≠ 4 by omega)), z_u1]
    refine ⟨n_sp_left w0, by omega, by omega, by omega, ?_⟩
    rw [w4, Int.add_comm T, Int.add_comm B, eL]
  · rw [if_neg c, if_neg c] at h1
    rw [if_neg c] at h0
    refine ⟨by omega, fun q => ?_, fun q => h0 (by omega)⟩
    refine b_Sp_descend_0 (o := o + 1) (ky_Bd_1 ho) ⟨by omega, by omega, fun p => absurd p c, fun _ => ⟨by omega, ?_⟩⟩
    refine s_enterB (g := g) (T := T + g (o + 1) 2) (B := B + g (o + 1) 3) ho (fun c i c1 => by rw [z_u2 (Or.inl c1), z_u2 (Or.inl c1), z_u2 (Or.inl c1)]) ?_ hv (fun g' hb => h1 (by omega) g' hb)
    unfold bW
    rw [z_u1, z_u2 (Or.inr (show (0 : Int) ≠ 4 by omega)), z_u2 (Or.inr (show (0 : Int) ≠ 1 by omega)), z_u1, z_u2 (Or.inr (show (1 : Int) ≠ 4 by omega)), z_u1, z_u2 (Or.inr (show (2 : Int) ≠ 4 by omega)), z_u2 (Or.inr (show (2 : Int) ≠ 1 by omega)), z_u2 (Or.inr (show (2 : Int) ≠ 0 by omega)), z_u2 (Or.inr (show (3 : Int) ≠ 4 by omega)), z_u2 (Or.inr (show (3 : Int) ≠ 1 by omega)), z_u2 (Or.inr (show (3 : Int) ≠ 0 by omega))]
    refine ⟨n_sp_right w0, by omega, by omega, by omega, ?_⟩
    rw [w4]; omega
theorem s_Bd_goUp {X : z_X} {N : Nat} {σ g : z_G} {Q : z_P} {o : Nat} (ho : z_lay X N σ o z_SBd z_RBd) {T B : Int} (hw : bW g o T B) (hv : bV g o) (h0 : g (o + 1) 1 = g (o + 1) 3 → Q 0 g) (h1 : g (o + 1) 1 ≠ g (o + 1) 3 → ∀ g', bMv g g' o (if g (o + 1) 3 ≤ g (o + 1) 1 then g (o + 1) 0 else g (o + 1) 2) (if g (o + 1) 3 ≤ g (o + 1) 1 then g (o + 1) 1 else g (o + 1) 3) → Q 1 g') : z_O X 3 m_Bd_goUp [(2, ((o : Nat) : Int))] N σ g Q := by
  have hl := n_sp_lt hw.1
  obtain ⟨w0, w1, w2, w3, w4⟩ := hw
  have hD := n_D_le (t := T) (b := B) (by omega) (by omega) w3
  have w00 := w0
  obtain ⟨k1, k2, k3, k4, k5, -⟩ := w00
  refine b_Bd_goUp_0 ho (s_Sp_climb (o := o + 1) (ky_Bd_1 ho) w0 (by omega) rfl rfl rfl rfl (by rw [w1, w2]; exact w4) (by rw [w1, w2]; omega) (fun q _ => ⟨fun _ => h0 q, fun e => absurd rfl e⟩) (fun q g' a b c d hs e1 e2 u0 u1 u2 u3 u4 hf _ => ⟨fun e => absurd e (by omega), fun _ => ?_⟩))
  refine s_enterB (g := g) ho hf ?_ hv (fun g' hb => h1 q g' hb)
  unfold bW
  rw [u0, u1, u2, u3, u4, e1, e2]
  refine ⟨hs, rfl, rfl, ?_, rfl⟩
  split <;> omega
theorem s_Bd_goAcross {X : z_X} {N : Nat} {σ g : z_G} {Q : z_P} {o : Nat} (ho : z_lay X N σ o z_SBd z_RBd) {T B : Int} (hw : bW g o T B) (hv : bV g o) (h1 : ∀ g', bMv g g' o (B - T) B → Q 0 g') : z_O X 3 m_Bd_goAcross [(2, ((o : Nat) : Int))] N σ g Q := by
  have hl := n_sp_lt hw.1
  obtain ⟨w0, w1, w2, w3, w4⟩ := hw
  have w00 := w0
  obtain ⟨k1, k2, k3, k4, k5, k6⟩ := w00
  refine b_Bd_goAcross_0 ho (b_Sp_mirror_0 (o := o + 1) (ky_Bd_1 ho) ⟨by omega, by omega, ?_⟩)
  refine s_enterB (g := g) ho (fun c i c1 => by rw [z_u2 (Or.inl c1), z_u2 (Or.inl c1), z_u2 (Or.inl c1), z_u2 (Or.inl c1)]) ?_ hv h1
  unfold bW
  rw [z_u1, z_u2 (Or.inr (show (0 : Int) ≠ 3 by omega)), z_u2 (Or.inr (show (0 : Int) ≠ 2 by omega)), z_u2 (Or.inr (show (0 : Int) ≠ 1 by omega)), z_u1, z_u2 (Or.inr (show (1 : Int) ≠ 3 by omega)), z_u2 (Or.inr (show (1 : Int) ≠ 2 by omega)), z_u1, z_u2 (Or.inr (show (2 : Int) ≠ 3 by omega)), z_u1, z_u2 (Or.inr (show (4 : Int) ≠ 3 by omega)), z_u2 (Or.inr (show (4 : Int) ≠ 2 by omega)), z_u2 (Or.inr (show (4 : Int) ≠ 1 by omega)), z_u2 (Or.inr (show (4 : Int) ≠ 0 by omega))]
  refine ⟨⟨by omega, by omega, by omega, ?_, by omega, ?_⟩, by omega, by omega, by omega, by rw [w4, n_D_flip (by omega) (by omega)]⟩
  · by_cases c : g (o + 1) 0 = g (o + 1) 1
    · exfalso
      rw [c] at k6
      have : g (o + 1) 1 * g (o + 1) 2 ≤ g (o + 1) 1 * g (o + 1) 3 := Int.mul_le_mul_of_nonneg_left k5 (by omega)
      rw [Int.mul_comm (g (o + 1) 2)] at k6
      omega
    · omega
  · rw [Int.sub_mul, Int.sub_mul, Int.mul_comm (g (o + 1) 1) (g (o + 1) 3)]; omega
theorem s_Bd_goTo {X : z_X} {N : Nat} {σ g : z_G} {Q : z_P} {o p : Nat} (ho : z_lay X N σ o z_SBd z_RBd) (hp : z_lay X N σ p z_SCh z_RCh) (hop : o + 1 ≠ p) {t b : Int} (hc : cCh g p t b) (h0 : 0 < t ∧ t < b ∧ b ≤ 9999) (hv : bV g o) (h1 : ∀ g', bMv g g' o (t / Int.gcd t b) (b / Int.gcd t b) → Q 0 g') : z_O X 3 m_Bd_goTo [(2, ((o : Nat) : Int)), (2, ((p : Nat) : Int))] N σ g Q := by
  refine b_Bd_goTo_0 ho hp (s_Sp_standOn (o := o + 1) (p := p) (ky_Bd_1 ho) hp hop hc h0 fun g1 lt lb ht hb hs e1 e2 u0 u1 u2 u3 u4 hf => ?_)
  refine s_enterB (g := g) ho hf ?_ hv h1
  unfold bW
  rw [u0, u1, u2, u3, u4]
  refine ⟨hs, e1, e2, ?_, (n_D_red (by omega) (by omega)).symm⟩
  have := Int.ediv_le_self (a := b) (Int.gcd t b : Int) (by omega)
  omega

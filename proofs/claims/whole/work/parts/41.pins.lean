/-! ## Pins: find, weight, pinAt, lift -/
theorem ky_F_25 {X : z_X} {N : Nat} {σ : z_G} (h : z_lay X N σ 0 z_SF z_RF) : z_lay X N σ 25 z_SPi z_RPi := by have h := h.sub (SL' := z_SPi) (RL' := z_RPi) 25 (by decide) rfl (by decide); rw [Nat.zero_add] at h; exact h
theorem s_Pi_find {X : z_X} {N : Nat} {σ g : z_G} {Q : z_P} {o : Nat} (ho : z_lay X N σ o z_SPi z_RPi) {t b : Int} (hn : 0 ≤ g o 3 ∧ g o 3 ≤ 12) (h1 : ∀ k : Int, 0 ≤ k → k < g o 3 → g (o + 1) k = t → g (o + 2) k = b → Q k g) (h0 : (∀ k : Int, 0 ≤ k → k < g o 3 → ¬ (g (o + 1) k = t ∧ g (o + 2) k = b)) → Q (-1) g) : z_O X 1 m_Pi_find [(2, ((o : Nat) : Int)), (0, t), (0, b)] N σ g Q := by
  refine b_Pi_find_0 ho ?_
  have loop : ∀ (m : Nat) (x : Int), g o 3 ≤ x + m → 0 ≤ x → (∀ k : Int, 0 ≤ k → k < x → ¬ (g (o + 1) k = t ∧ g (o + 2) k = b)) → x ≤ g o 3 → L_Pi_find_2 X N σ t b x o g Q := by
    intro m
    induction m with
    | zero => exact fun x k1 k2 k3 k4 => b_Pi_find_2 ho ⟨fun _ => h0 fun k j1 j2 => k3 k j1 (by omega), fun p => absurd (by omega) p⟩
    | succ m ih =>
      intro x k1 k2 k3 k4
      by_cases c : g o 3 ≤ x
      · exact ih x (by omega) k2 k3 k4
      · have next : ¬ (g (o + 1) x = t ∧ g (o + 2) x = b) → L_Pi_find_2 X N σ t b (x + 1) o g Q := fun p => ih (x + 1) (by omega) (by omega) (fun k j1 j2 => by
          by_cases e : k = x
          · rw [e]; exact p
          · exact k3 k j1 (by omega)) (by omega)
        exact b_Pi_find_2 ho ⟨fun p => absurd p c, fun _ => ⟨by omega, fun p => ⟨fun q => h1 x k2 (by omega) p q, fun q => ⟨by omega, next fun r => q r.2⟩⟩, fun p => ⟨by omega, next fun r => p r.1⟩⟩⟩
  exact loop (g o 3).toNat 0 (by omega) (by omega) (fun k _ _ => by omega) hn.1
theorem o_pinAt {X Y : z_X} {N K : Nat} {σ τ gx gm : z_G} (hx : z_lay X N σ 0 z_SF z_RF) (hm : z_lay Y K τ 0 z_SM z_RM) (I : Inv gx gm) {a1 : Int} (r1 : -2147483648 ≤ a1 ∧ a1 ≤ 2147483647) : z_O X 4 m_F_pinAt [(2, 0), (0, a1)] N σ gx (fun r gx' => z_O Y 4 m_M_pinAt [(2, 0), (0, a1)] K τ gm (fun r' gm' => r' = r ∧ Inv gx' gm')) := by
  have hP := I.2.2.2.1.2.2.2.2.2.2.1.2.2.1
  have p1 : gx 25 3 = gm 1 4 := hP.1
  have p2 : 0 ≤ gm 1 4 := hP.2.1
  have p3 : gm 1 4 ≤ 12 := hP.2.2.1
  have p4 : ∀ k : Int, 0 ≤ k → k < gm 1 4 → gx 26 k = gm 1 (0 + (10 + 3 * k)) ∧ gx 27 k = gm 1 (0 + (10 + 3 * k + 1)) ∧ gx 28 k = gm 1 (0 + (10 + 3 * k + 2)) ∧ iVal (gm 1 (0 + (10 + 3 * k))) (gm 1 (0 + (10 + 3 * k + 1))) ∧ 1 ≤ gm 1 (0 + (10 + 3 * k + 2)) ∧ gm 1 (0 + (10 + 3 * k + 2)) ≤ 999 := hP.2.2.2.1
  simp only [Int.zero_add] at p4
  refine b_F_pinAt_0 hx ⟨fun c => b_F_tellPin_0 hx ⟨fun q => absurd q (by omega), fun _ => ⟨fun q => ⟨by omega, ?_⟩, fun q _ => b_M_pinAt_0 hm ⟨fun _ => ⟨fun _ => b_M_tellsPin_0 hm ⟨fun _ _ => ⟨rfl, I.fin xA.rf yA.rf I.2.2.2.2 6⟩, fun e => absurd rfl e⟩, fun p => absurd (by omega) p⟩, fun p => absurd c p⟩⟩⟩, fun c => b_M_pinAt_0 hm ⟨fun p => absurd p c, fun _ => ⟨rfl, I.fin xA.rf yA.rf I.2.2.2.2 1⟩⟩⟩
  obtain ⟨q1, q2, q3, q4, q5⟩ := p4 a1 c (by omega)
  obtain ⟨u1, u2, u3, u4, u5⟩ := q4
  rw [q1, q2]
  refine s_F_tell hx (by omega) (by omega) (by omega) fun _ _ => b_M_pinAt_0 hm ⟨fun _ => ⟨fun p => absurd p (by omega), fun _ => b_M_tellsPin_0 hm ⟨fun e => absurd e (by omega), fun _ => ⟨by omega, by omega, by omega, by omega, by omega, s_M_tellsBy hm (by omega) (by omega) fun _ _ => ⟨rfl, I.tell xA.rf yA.rf I.2.2.2.2 _ _⟩⟩⟩⟩, fun p => absurd c p⟩

/-! ## follow -/
theorem n_act_le : ∀ (w : List Bool) (a b m : Nat), a ≤ m → b ≤ m → (n_act w (a, b)).1 ≤ m * 2 ^ w.length ∧ (n_act w (a, b)).2 ≤ m * 2 ^ w.length
  | [], a, b, m, h1, h2 => by simp only [n_act, List.length_nil, Nat.pow_zero, Nat.mul_one]; exact ⟨h1, h2⟩
  | true :: w, a, b, m, h1, h2 => by
    have := n_act_le w a b m h1 h2
    rw [List.length_cons, Nat.pow_succ, ← Nat.mul_assoc]
    simp only [n_act]; omega
  | false :: w, a, b, m, h1, h2 => by
    have := n_act_le w a b m h1 h2
    rw [List.length_cons, Nat.pow_succ, ← Nat.mul_assoc]
    simp only [n_act]; omega
/-- the first k numbers as turns -/
def n_tL (f : Nat → Int) : Nat → List Bool
  | 0 => []
  | k + 1 => n_tL f k ++ [decide (f k = 1)]
theorem n_tL_len (f : Nat → Int) : ∀ k, (n_tL f k).length = k
  | 0 => rfl
  | k + 1 => by rw [n_tL, List.length_append, n_tL_len f k]; rfl
theorem n_tL_le (f : Nat → Int) {k : Nat} (hk : k ≤ 20) (a b : Nat) (ha : a ≤ 1) (hb : b ≤ 1) : (n_act (n_tL f k) (a, b)).1 ≤ 1048576 ∧ (n_act (n_tL f k) (a, b)).2 ≤ 1048576 := by
  have h := n_act_le (n_tL f k) a b 1 ha hb
  rw [n_tL_len] at h
  have h2 : 2 ^ k ≤ 2 ^ 20 := Nat.pow_le_pow_right (by decide) hk
  have h3 : 2 ^ 20 = 1048576 := rfl
  omega
theorem o_follow {X Y : z_X} {N K : Nat} {σ τ gx gm : z_G} (hx : z_lay X N σ 0 z_SF z_RF) (hm : z_lay Y K τ 0 z_SM z_RM) (I : Inv gx gm) {a1 a2 : Int} (r1 : -2147483648 ≤ a1 ∧ a1 ≤ 2147483647) (r2 : -2147483648 ≤ a2 ∧ a2 ≤ 2147483647) : z_O X 5 m_F_follow [(2, 0), (0, a1), (0, a2)] N σ gx (fun r gx' => z_O Y 3 m_M_follow [(2, 0), (0, a1), (0, a2)] K τ gm (fun r' gm' => r' = r ∧ Inv gx' gm')) := by
  have hT := I.2.2.2.1.1
  have bad : ¬ (0 ≤ a1 ∧ a1 < 4 ∧ 0 ≤ a2 ∧ a2 ≤ 20) → z_O Y 3 m_M_follow [(2, 0), (0, a1), (0, a2)] K τ gm (fun r' gm' => r' = 0 ∧ Inv (z_up gx 0 0 1) gm') := by
    intro hb
    refine b_M_follow_0 hm ?_
    repeat' (first | refine And.intro (by omega) ?_ | refine And.intro (fun _ => ?_) (fun q => absurd (by omega) q) | refine And.intro (fun q => absurd q (by omega)) (fun _ => ?_) | refine And.intro (fun _ => ?_) (fun _ => ?_) | refine And.intro (fun q => absurd q (by omega)) ?_ | refine And.intro (fun _ => ?_) ?_ | with_reducible intro _)
    all_goals first | exact I.fin xA.rf yA.rf I.2.2.2.2 1 | (exfalso; omega)
  refine b_F_follow_0 hx ⟨fun _ => bad (by omega), fun _ => ⟨fun _ => bad (by omega), fun _ => ⟨fun _ => bad (by omega), fun _ => ⟨fun _ => ⟨by omega, fun e => ?_, fun e => ?_⟩, fun _ => bad (by omega)⟩⟩⟩⟩
  · obtain ⟨e1, e2, e3, e4, e5, e6, e7⟩ := hT a1 (by omega) (by omega)
    refine b_M_follow_0 hm ?_
    repeat' (first | refine And.intro (by omega) ?_ | refine And.intro (fun _ => ?_) (fun q => absurd (by omega) q) | refine And.intro (fun q => absurd q (by omega)) (fun _ => ?_) | refine And.intro (fun _ => ?_) (fun _ => ?_) | refine And.intro (fun q => absurd q (by omega)) ?_ | refine And.intro (fun _ => ?_) ?_ | with_reducible intro _)
    exact I.fin xA.rf yA.rf I.2.2.2.2 2
  obtain ⟨e1, e2, e3, e4, e5, e6, e7⟩ := hT a1 (by omega) (by omega)
  refine s_Tr_hasRoom hx (by omega) e (by omega) (by omega) (fun q _ => ⟨fun p => absurd p (by omega), fun _ => b_Sp_toRoot_0 (ky_F_22 hx) ?_⟩) (fun q _ => ⟨fun _ => b_M_follow_0 hm ?_, fun p => absurd rfl p⟩)
  rotate_left
  · repeat' (first | refine And.intro (by omega) ?_ | refine And.intro (fun _ => ?_) (fun q => absurd (by omega) q) | refine And.intro (fun q => absurd q (by omega)) (fun _ => ?_) | refine And.intro (fun _ => ?_) (fun _ => ?_) | refine And.intro (fun q => absurd q (by omega)) ?_ | refine And.intro (fun _ => ?_) ?_ | with_reducible intro _)
    exact I.fin xA.rf yA.rf I.2.2.2.2 3
  have mbeg : ∀ {Q : z_P}, L_M_follow_59 Y K τ a1 a2 0 gm Q → z_O Y 3 m_M_follow [(2, 0), (0, a1), (0, a2)] K τ gm Q := fun h => by
    refine b_M_follow_0 hm ?_
    repeat' (first | refine And.intro (by omega) ?_ | refine And.intro (fun _ => ?_) (fun q => absurd (by omega) q) | refine And.intro (fun q => absurd q (by omega)) (fun _ => ?_) | refine And.intro (fun _ => ?_) (fun _ => ?_) | refine And.intro (fun q => absurd q (by omega)) ?_ | refine And.intro (fun _ => ?_) ?_ | with_reducible intro _)
    exact h
  have skip : ∀ {Q : z_P} (x : Nat), (x : Int) ≤ a2 → (∀ i : Nat, i < x → gm 4 (60 * a1 + i) = 0 ∨ gm 4 (60 * a1 + i) = 1) → L_M_follow_59 Y K τ a1 a2 x gm Q → L_M_follow_59 Y K τ a1 a2 0 gm Q := by
    intro Q x
    induction x with
    | zero => exact fun _ _ h => h
    | succ x ih =>
      intro h1 h2 h3
      have hg := h2 x (by omega)
      exact ih (by omega) (fun i hi => h2 i (by omega)) (b_M_follow_59 hm ⟨fun p => absurd p (by omega), fun _ => ⟨by omega, by omega, by omega, fun p => absurd p (by omega), fun _ => ⟨fun p => absurd p (by omega), fun _ => ⟨by omega, h3⟩⟩⟩⟩)
  generalize hf : (fun i : Nat => gm 4 (60 * a1 + i)) = f
  have hfi : ∀ i : Nat, gm 4 (60 * a1 + i) = f i := fun i => by rw [← hf]
  have loop : ∀ (m x : Nat) (g' : z_G), a2 ≤ x + m → (x : Int) ≤ a2 → (∀ i : Nat, i < x → f i = 0 ∨ f i = 1) → g' 22 0 = (n_act (n_tL f x) (0, 1)).1 → g' 22 1 = ((n_act (n_tL f x) (0, 1)).1 : Int) + (n_act (n_tL f x) (0, 1)).2 → g' 22 2 = (n_act (n_tL f x) (1, 0)).1 → g' 22 3 = ((n_act (n_tL f x) (1, 0)).1 : Int) + (n_act (n_tL f x) (1, 0)).2 → g' 22 4 = x → (∀ c i, c ≠ 22 → g' c i = gx c i) → L_F_follow_72 X N σ a1 a2 x g' (fun r gx' => z_O Y 3 m_M_follow [(2, 0), (0, a1), (0, a2)] K τ gm (fun r' gm' => r' = r ∧ Inv gx' gm')) := by
    intro m
    have hA : ∀ g' : z_G, (∀ c i, c ≠ 22 → g' c i = gx c i) → xA gx g' := fun g' h c i hk => h c i (by unfold xK at hk; omega)
    have fin : ∀ (x : Nat) (g' : z_G), a2 = x → (∀ i : Nat, i < x → f i = 0 ∨ f i = 1) → g' 22 0 = (n_act (n_tL f x) (0, 1)).1 → g' 22 1 = ((n_act (n_tL f x) (0, 1)).1 : Int) + (n_act (n_tL f x) (0, 1)).2 → g' 22 2 = (n_act (n_tL f x) (1, 0)).1 → g' 22 3 = ((n_act (n_tL f x) (1, 0)).1 : Int) + (n_act (n_tL f x) (1, 0)).2 → (∀ c i, c ≠ 22 → g' c i = gx c i) → L_F_follow_72 X N σ a1 a2 x g' (fun r gx' => z_O Y 3 m_M_follow [(2, 0), (0, a1), (0, a2)] K τ gm (fun r' gm' => r' = r ∧ Inv gx' gm')) := by
      intro x g' h1 h2 h3 h4 h5 h6 h7
      have b1 := n_tL_le f (k := x) (by omega) 0 1 (by omega) (by omega)
      have b2 := n_tL_le f (k := x) (by omega) 1 0 (by omega) (by omega)
      have b3 := n_act_add (n_tL f x) 0 1 1 0
      have b4 := n_pf_pos (n_tL f x)
      have b5 : n_pf (n_tL f x) = ((n_act (n_tL f x) (0, 1)).1 + (n_act (n_tL f x) (1, 0)).1, (n_act (n_tL f x) (0, 1)).2 + (n_act (n_tL f x) (1, 0)).2) := by rw [← n_act_pf, ← b3]
      have b6 : (n_pf (n_tL f x)).1 = (n_act (n_tL f x) (0, 1)).1 + (n_act (n_tL f x) (1, 0)).1 := by rw [b5]
      have b7 : (n_pf (n_tL f x)).2 = (n_act (n_tL f x) (0, 1)).2 + (n_act (n_tL f x) (1, 0)).2 := by rw [b5]
      refine b_F_follow_72 hx ⟨fun _ => ⟨by omega, by omega, ?_⟩, fun p => absurd (by omega) p⟩
      have t1 : g' 22 0 + g' 22 2 = ((n_pf (n_tL f x)).1 : Int) := by omega
      have t2 : g' 22 1 + g' 22 3 = ((n_pf (n_tL f x)).1 : Int) + ((n_pf (n_tL f x)).2 : Int) := by omega
      rw [t1, t2]
      refine s_F_tell hx (by omega) (by omega) (by omega) fun _ => mbeg (skip x (by omega) (fun i hi => by rw [hfi]; exact h2 i hi) (b_M_follow_59 hm ⟨fun _ => ⟨by omega, ?_⟩, fun p => absurd (by omega) p⟩))
      have up : ∀ (k : Nat) (v : List Bool), k ≤ x → n_tL f x = n_tL f k ++ v → L_M_follow_105 Y K τ a1 (n_act v (1, 1)).1 (n_act v (1, 1)).2 ((k : Int) - 1) gm (fun r' gm' => r' = 1 ∧ Inv (z_up (z_up (z_up g' 0 1 (((n_pf (n_tL f x)).1 : Int) / Int.gcd ((n_pf (n_tL f x)).1 : Int) (((n_pf (n_tL f x)).1 : Int) + (n_pf (n_tL f x)).2))) 0 2 ((((n_pf (n_tL f x)).1 : Int) + (n_pf (n_tL f x)).2) / Int.gcd ((n_pf (n_tL f x)).1 : Int) (((n_pf (n_tL f x)).1 : Int) + (n_pf (n_tL f x)).2))) 0 0 0) gm') := by
        intro k
        induction k with
        | zero =>
          intro v k1 k2
          have k3 : v = n_tL f x := by rw [k2]; rfl
          rw [k3, n_act_pf]
          refine b_M_follow_105 hm ⟨fun _ => ⟨by omega, ?_⟩, fun p => absurd (by omega) p⟩
          exact s_M_tellsBy hm (by omega) (by omega) fun _ => ⟨rfl, I.tell (hA g' h7) yA.rf I.2.2.2.2 _ _⟩
        | succ k ih =>
          intro v k1 k2
          have hl : v.length ≤ 20 := by
            have := congrArg List.length k2
            rw [List.length_append, n_tL_len, n_tL_len] at this; omega
          have l1 := n_act_le v 1 1 1 (by omega) (by omega)
          have l2 : 2 ^ v.length ≤ 2 ^ 20 := Nat.pow_le_pow_right (by decide) hl
          have l3 : 2 ^ 20 = 1048576 := rfl
          have i1 := ih (decide (f k = 1) :: v) (by omega) (by rw [k2, n_tL, List.append_assoc]; rfl)
          rw [show (((k + 1 : Nat) : Int) - 1) = (k : Int) by omega]
          have hfk := hfi k
          refine b_M_follow_105 hm ⟨fun p => absurd p (by omega), fun _ => ⟨by omega, by omega, by omega, fun p => ⟨by omega, by omega, ?_⟩, fun p => ⟨by omega, by omega, ?_⟩⟩⟩
          · rw [show decide (f k = 1) = true by rw [decide_eq_true_eq]; omega] at i1
            exact i1
          · rw [show decide (f k = 1) = false by rw [decide_eq_false_iff_not]; omega] at i1
            exact i1
      have := up x [] (by omega) (by rw [List.append_nil])
      rw [h1]; exact this
    induction m with
    | zero => exact fun x g' h1 h2 h3 h4 h5 h6 h7 h8 h9 => fin x g' (by omega) h3 h4 h5 h6 h7 h9
    | succ m ih =>
      intro x g' h1 h2 h3 h4 h5 h6 h7 h8 h9
      by_cases c : a2 = x
      · exact fin x g' c h3 h4 h5 h6 h7 h9
      · have hfx := hfi x
        have k8 : g' 8 a1 = gx 8 a1 := h9 _ _ (by omega)
        have kx : g' (3 + a1.toNat) x = f x := by rw [h9 _ _ (by omega), e7 x (by omega) (by omega), hfx]
        have b1 := n_tL_le f (k := x) (by omega) 0 1 (by omega) (by omega)
        have b2 := n_tL_le f (k := x) (by omega) 1 0 (by omega) (by omega)
        obtain ⟨r1, r2, r3⟩ := k_rows hx (t := a1) (by omega)
        refine b_F_follow_72 hx ⟨fun p => absurd p (by omega), fun _ => b_Tr_look_0 hx (s_Tr_hasRoom hx (by omega) (by omega) (by omega) (by omega) (fun q3 _ => ⟨fun p => absurd p (by omega), fun _ => ⟨by omega, _, r1, r2, r3, by omega, ?_⟩⟩) (fun q3 => absurd (by omega) q3))⟩
        rw [kx]
        have pL : ∀ a b : Nat, n_act (n_tL f x ++ [false]) (a, b) = n_act (n_tL f x) (a, a + b) := fun a b => by rw [n_act_app]; rfl
        have pR : ∀ a b : Nat, n_act (n_tL f x ++ [true]) (a, b) = n_act (n_tL f x) (a + b, b) := fun a b => by rw [n_act_app]; rfl
        have b3 := n_act_add (n_tL f x) 0 1 1 0
        have good : (f x = 0 ∨ f x = 1) → ∀ i : Nat, i < x + 1 → f i = 0 ∨ f i = 1 := fun hg i hi => by
          by_cases ci : i = x
          · rw [ci]; exact hg
          · exact h3 i (by omega)
        refine ⟨fun p => ⟨by omega, b_Sp_descend_0 (o := 22) (ky_F_22 hx) ⟨by omega, by omega, fun _ => ⟨by omega, by omega, ?_⟩, fun p2 => absurd p p2⟩⟩, fun p => ⟨fun p2 => ⟨by omega, b_Sp_descend_0 (o := 22) (ky_F_22 hx) ⟨by omega, by omega, fun p3 => absurd p3 p, fun _ => ⟨by omega, by omega, ?_⟩⟩⟩, fun p2 => ?_⟩⟩
        · have dn : n_tL f (x + 1) = n_tL f x ++ [false] := by rw [n_tL, show decide (f x = 1) = false by rw [decide_eq_false_iff_not]; omega]
          refine ih (x + 1) _ (by omega) (by omega) (good (Or.inl p)) ?_ ?_ ?_ ?_ ?_ (fun c i hc => by rw [z_u2 (Or.inl hc), z_u2 (Or.inl hc), z_u2 (Or.inl hc)]; exact h9 c i hc)
          · rw [z_u2 (Or.inr (by omega)), z_u2 (Or.inr (by omega)), z_u2 (Or.inr (by omega)), dn, pL, h4]
          · rw [z_u2 (Or.inr (by omega)), z_u2 (Or.inr (by omega)), z_u2 (Or.inr (by omega)), dn, pL, h5]
          · rw [z_u2 (Or.inr (by omega)), z_u2 (Or.inr (by omega)), z_u1, dn, pL]
            show _ = (((n_act (n_tL f x) (0 + 1, 1 + 0)).1 : Nat) : Int)
            rw [b3]; dsimp only; omega
          · rw [z_u2 (Or.inr (by omega)), z_u1, dn, pL]
            show _ = (((n_act (n_tL f x) (0 + 1, 1 + 0)).1 : Nat) : Int) + (((n_act (n_tL f x) (0 + 1, 1 + 0)).2 : Nat) : Int)
            rw [b3]; dsimp only; omega
          · rw [z_u1]; omega
        · have dn : n_tL f (x + 1) = n_tL f x ++ [true] := by rw [n_tL, show decide (f x = 1) = true by rw [decide_eq_true_eq]; omega]
          refine ih (x + 1) _ (by omega) (by omega) (good (Or.inr p2)) ?_ ?_ ?_ ?_ ?_ (fun c i hc => by rw [z_u2 (Or.inl hc), z_u2 (Or.inl hc), z_u2 (Or.inl hc)]; exact h9 c i hc)
          · rw [z_u2 (Or.inr (by omega)), z_u2 (Or.inr (by omega)), z_u1, dn, pR]
            show _ = (((n_act (n_tL f x) (0 + 1, 1 + 0)).1 : Nat) : Int)
            rw [b3]; dsimp only; omega
          · rw [z_u2 (Or.inr (by omega)), z_u1, dn, pR]
            show _ = (((n_act (n_tL f x) (0 + 1, 1 + 0)).1 : Nat) : Int) + (((n_act (n_tL f x) (0 + 1, 1 + 0)).2 : Nat) : Int)
            rw [b3]; dsimp only; omega
          · rw [z_u2 (Or.inr (by omega)), z_u2 (Or.inr (by omega)), z_u2 (Or.inr (by omega)), dn, pR, h6]
          · rw [z_u2 (Or.inr (by omega)), z_u2 (Or.inr (by omega)), z_u2 (Or.inr (by omega)), dn, pR, h7]
          · rw [z_u1]; omega
        · refine mbeg (skip x (by omega) (fun i hi => by rw [hfi]; exact h3 i hi) (b_M_follow_59 hm ⟨fun p => absurd p (by omega), fun _ => ⟨by omega, by omega, by omega, fun _ => ⟨rfl, I.fin (hA g' h9) yA.rf I.2.2.2.2 5⟩, fun _ => ⟨fun _ => ⟨rfl, I.fin (hA g' h9) yA.rf I.2.2.2.2 5⟩, fun p3 => absurd (by omega) p3⟩⟩⟩))
  refine loop 20 0 _ (by omega) (by omega) (fun i hi => by omega) ?_ ?_ ?_ ?_ ?_ (fun c i hc => by simp [z_up, hc]) <;> simp [z_up, n_tL, n_act]

/-! ## wasAt -/
theorem s_Vi_holds {X : z_X} {N : Nat} {σ g : z_G} {Q : z_P} {o : Nat} (ho : z_lay X N σ o z_SVi z_RVi) {t b : Int} (ht : 0 ≤ t ∧ t ≤ 9999) (hb : 0 ≤ b ∧ b ≤ 9999) (hn : 0 ≤ g o 1 ∧ g o 1 ≤ 200) (hs : vS (g (o + 1)) (g o 1)) (h1 : (∃ j : Int, 0 ≤ j ∧ j < g o 1 ∧ g (o + 1) j = t * 10000 + b) → Q 1 g) (h0 : (∀ j : Int, 0 ≤ j → j < g o 1 → g (o + 1) j ≠ t * 10000 + b) → Q 0 g) : z_O X 2 m_Vi_holds [(2, ((o : Nat) : Int)), (0, t), (0, b)] N σ g Q := by
  refine b_Vi_holds_0 ho ⟨by omega, by omega, s_Vi_placeOf ho hn hs fun x x1 x2 x3 x4 => ?_⟩
  generalize t * 10000 + b = key at *
  refine ⟨fun q => h0 fun j j1 j2 => ?_, fun q => ⟨by omega, fun q3 => h1 ⟨x, x1, by omega, q3⟩, fun q3 => h0 fun j j1 j2 => ?_⟩⟩
  · have := x3 j j1 (by omega); omega
  · rcases Int.lt_trichotomy j x with c | c | c
    · have := x3 j j1 c; omega
    · rw [c]; exact q3
    · have a1 := hs x j x1 c j2
      have a2 := x4 x (by omega) (by omega)
      omega
theorem o_wasAt {X Y : z_X} {N K : Nat} {σ τ gx gm : z_G} (hx : z_lay X N σ 0 z_SF z_RF) (hm : z_lay Y K τ 0 z_SM z_RM) (I : Inv gx gm) {a1 a2 : Int} (r1 : -2147483648 ≤ a1 ∧ a1 ≤ 2147483647) (r2 : -2147483648 ≤ a2 ∧ a2 ≤ 2147483647) : z_O X 4 m_F_wasAt [(2, 0), (0, a1), (0, a2)] N σ gx (fun r gx' => z_O Y 2 m_M_wasAt [(2, 0), (0, a1), (0, a2)] K τ gm (fun r' gm' => r' = r ∧ Inv gx' gm')) := by
  refine b_F_wasAt_0 hx (s_Ch_take (ky_F_18 hx) (fun q => ?_) (fun q g' hc hf => ?_))
  · refine fun _ => ⟨fun _ => b_M_wasAt_0 hm ?_, fun e => absurd rfl e⟩
    repeat' (first | refine And.intro (by omega) ?_ | refine And.intro (fun _ => ?_) (fun q => absurd (by omega) q) | refine And.intro (fun q => absurd q (by omega)) (fun _ => ?_) | refine And.intro (fun _ => ?_) (fun _ => ?_) | refine And.intro (fun q => absurd q (by omega)) ?_ | refine And.intro (fun _ => ?_) ?_ | with_reducible intro _)
    all_goals first | exact I.fin xA.rf yA.rf I.2.2.2.2 1 | (exfalso; omega)
  · refine fun _ => ⟨fun e => absurd e (by omega), fun _ => ?_⟩
    have e3 : g' 18 3 = a1 / Int.gcd a1 a2 := hc.2.2.2.2.1
    have e4 : g' 18 4 = a2 / Int.gcd a1 a2 := hc.2.2.2.2.2.1
    have hp : 0 < Int.gcd a1 a2 := Int.gcd_pos_of_ne_zero_right a1 (by omega)
    have l1 := Int.ediv_le_self (a := a1) (Int.gcd a1 a2 : Int) (by omega)
    have l2 := Int.ediv_le_self (a := a2) (Int.gcd a1 a2 : Int) (by omega)
    have l3 : 0 ≤ a1 / (Int.gcd a1 a2 : Int) := Int.ediv_nonneg (by omega) (by omega)
    have l4 : 0 ≤ a2 / (Int.gcd a1 a2 : Int) := Int.ediv_nonneg (by omega) (by omega)
    have hV := I.2.2.2.1.2.2.2.2.2.2.1.2.2.2.1
    have v1 : gx 29 1 = gm 1 5 := hV.1
    have v2 : 0 ≤ gm 1 5 := hV.2.1
    have v3 : gm 1 5 ≤ 200 := hV.2.2.1
    have v4 : vS (gx 30) (gm 1 5) := hV.2.2.2.1
    have v5 : ∀ i : Int, 0 ≤ i → i < gm 1 5 → ∃ j : Int, 0 ≤ j ∧ j < gm 1 5 ∧ gx 30 j = gm 1 (0 + (46 + i)) := hV.2.2.2.2.1
    have v6 : ∀ i : Int, 0 ≤ i → i < gm 1 5 → ∃ j : Int, 0 ≤ j ∧ j < gm 1 5 ∧ gm 1 (0 + (46 + j)) = gx 30 i := hV.2.2.2.2.2.1
    have v7 : ∀ i j : Int, 0 ≤ i → i < j → j < gm 1 5 → gm 1 (0 + (46 + i)) ≠ gm 1 (0 + (46 + j)) := hV.2.2.2.2.2.2
    simp only [Int.zero_add] at v5 v6 v7
    have f1 : g' 29 1 = gm 1 5 := by rw [hf 29 1 (by omega) (by omega)]; exact v1
    have f2 : g' 30 = gx 30 := funext fun i => hf _ _ (by omega) (by omega)
    rw [e3, e4]
    have mloop : ∀ (key r : Int) (Q : z_P), (∀ c : Int, ((c = 0 ∧ ∀ j : Int, 0 ≤ j → j < gm 1 5 → gm 1 (46 + j) ≠ key) ∨ (c = 1 ∧ ∃ j : Int, 0 ≤ j ∧ j < gm 1 5 ∧ gm 1 (46 + j) = key)) → Q c (z_up gm 0 1 0)) → L_M_wasAt_39 Y K τ key 0 0 gm Q := by
      intro key r Q hq
      have loop : ∀ (m : Nat) (c x : Int), gm 1 5 ≤ x + m → 0 ≤ x → x ≤ gm 1 5 → ((c = 0 ∧ ∀ j : Int, 0 ≤ j → j < x → gm 1 (46 + j) ≠ key) ∨ (c = 1 ∧ ∃ j : Int, 0 ≤ j ∧ j < x ∧ gm 1 (46 + j) = key)) → L_M_wasAt_39 Y K τ key c x gm Q := by
        intro m
        induction m with
        | zero =>
          intro c x k1 k2 k3 k4
          have ex : x = gm 1 5 := by omega
          subst ex
          exact b_M_wasAt_39 hm ⟨fun _ => hq c k4, fun p => absurd (by omega) p⟩
        | succ m ih =>
          intro c x k1 k2 k3 k4
          by_cases ex : gm 1 5 ≤ x
          · exact ih c x (by omega) k2 k3 k4
          · refine b_M_wasAt_39 hm ⟨fun p => absurd p ex, fun _ => ⟨by omega, by omega, fun q => ?_, fun q => ?_⟩⟩
            · rcases k4 with ⟨c0, k4⟩ | ⟨c0, j, j1, j2, j3⟩
              · exact ⟨by omega, by omega, ih _ _ (by omega) (by omega) (by omega) (Or.inr ⟨by omega, x, k2, by omega, q⟩)⟩
              · exact absurd (j3.trans q.symm) (v7 j x j1 j2 (by omega))
            · refine ⟨by rcases k4 with k4 | k4 <;> omega, by omega, ih _ _ (by omega) (by omega) (by omega) ?_⟩
              rcases k4 with ⟨c0, k4⟩ | ⟨c0, j, j1, j2, j3⟩
              · refine Or.inl ⟨by omega, fun j j1 j2 => ?_⟩
                by_cases e : j = x
                · rw [e]; exact q
                · exact k4 j j1 (by omega)
              · exact Or.inr ⟨by omega, j, j1, by omega, j3⟩
      exact loop (gm 1 5).toNat 0 0 (by omega) (by omega) v2 (Or.inl ⟨rfl, fun j _ _ => by omega⟩)
    have mrun : ∀ (r : Int), ((r = 0 ∧ ∀ j : Int, 0 ≤ j → j < gm 1 5 → gx 30 j ≠ a1 / (Int.gcd a1 a2 : Int) * 10000 + a2 / (Int.gcd a1 a2 : Int)) ∨ (r = 1 ∧ ∃ j : Int, 0 ≤ j ∧ j < gm 1 5 ∧ gx 30 j = a1 / (Int.gcd a1 a2 : Int) * 10000 + a2 / (Int.gcd a1 a2 : Int))) → z_O Y 2 m_M_wasAt [(2, 0), (0, a1), (0, a2)] K τ gm (fun r' gm' => r' = r ∧ Inv (z_up g' 0 0 0) gm') := by
      intro r hr
      refine b_M_wasAt_0 hm ?_
      repeat' (first | refine And.intro (by omega) ?_ | refine And.intro (fun _ => ?_) (fun q => absurd (by omega) q) | refine And.intro (fun q => absurd q (by omega)) (fun _ => ?_) | refine And.intro (fun _ => ?_) (fun _ => ?_) | refine And.intro (fun q => absurd q (by omega)) ?_ | refine And.intro (fun _ => ?_) ?_ | with_reducible intro _)
      refine s_M_common (by omega) (by omega) ?_
      rw [n_td (by omega), n_td (by omega), Int.mul_comm 10000]
      refine ⟨by omega, by omega, by omega, mloop _ 0 _ fun c hc => ⟨?_, I.fin (xA.ch hf) yA.rf I.2.2.2.2 0⟩⟩
      rcases hc with ⟨c0, hc⟩ | ⟨c0, j, j1, j2, j3⟩
      · rcases hr with ⟨r0, hr⟩ | ⟨r0, i, i1, i2, i3⟩
        · omega
        · obtain ⟨k, q1, q2, q3⟩ := v6 i i1 i2
          exact absurd (q3.trans i3) (hc k q1 q2)
      · rcases hr with ⟨r0, hr⟩ | ⟨r0, i, i1, i2, i3⟩
        · obtain ⟨k, q1, q2, q3⟩ := v5 j j1 j2
          exact absurd (q3.trans j3) (hr k q1 q2)
        · omega
    refine s_Vi_holds (o := 29) (ky_F_29 hx) (by omega) (by omega) (by omega) (by rw [f1]; show vS (g' 30) _; rw [f2]; exact v4) (fun h => ?_) (fun h => ?_)
    · refine fun _ => ⟨fun e => absurd e (by omega), fun _ => mrun 1 (Or.inr ⟨rfl, ?_⟩)⟩
      obtain ⟨j, j1, j2, j3⟩ := h
      exact ⟨j, j1, by omega, by rw [← f2]; exact j3⟩
    · refine fun _ => ⟨fun _ => mrun 0 (Or.inl ⟨rfl, fun j j1 j2 => ?_⟩), fun e => absurd rfl e⟩
      rw [← f2]; exact h j j1 (by omega)

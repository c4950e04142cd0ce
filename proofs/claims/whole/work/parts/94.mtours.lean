/-! ## TOURS as a text: the reference's step -/
section Lock
variable {X Y : z_X} {N K : Nat} {σ τ gx gm : z_G} {P Q : z_P}
theorem m_ts (hm : z_lay Y K τ 0 z_SM z_RM) (hSY : z_St Y K τ) (hA : kA gx) (hk : kS gx gm) (h0 : 0 ≤ gm 1 2446 ∧ gm 1 2446 ≤ 60) (h21 : 0 ≤ gm 0 21 ∧ gm 0 21 ≤ 30) {w : Nat} (hw : gx 10 4 = 1 ∧ kMt (gx 11) (gx 10 6) (gx 10 3) w) (hs : w = 1 ∨ w = 3 ∨ (6 ≤ w ∧ w ≤ 13) ∨ w = 15)
    (h6 : gm 0 21 = 30 → z_O Y 1 m_M_fails [(2, 0), (0, 6)] K τ gm (fun r2 g2 => (r2 = 0 ∨ r2 = 1) → Q r2 g2))
    (h7 : w = 12 ∨ w = 13 → ¬ gm 0 21 = 30 → gm 0 20 = 3 → z_O Y 1 m_M_fails [(2, 0), (0, 7)] K τ gm (fun r2 g2 => (r2 = 0 ∨ r2 = 1) → Q r2 g2))
    (h1 : w = 12 ∨ w = 13 → ¬ gm 0 21 = 30 → ¬ gm 0 20 = 3 → L_M_tourStep_142 Y K τ (w : Int) (gm 1 2446) (2686 + 6 * gm 1 2446) 1 1 (z_up (z_up gm 0 21 (gm 0 21 + 1)) 1 (2686 + 6 * gm 1 2446) (w : Int)) Q)
    (h2 : ¬ (w = 12 ∨ w = 13) → ¬ gm 0 21 = 30 → L_M_tourStep_142 Y K τ (w : Int) (gm 1 2446) (2686 + 6 * gm 1 2446) 0 1 (z_up (z_up gm 0 21 (gm 0 21 + 1)) 1 (2686 + 6 * gm 1 2446) (w : Int)) Q) : z_O Y 12 m_M_tourStep [(2, 0)] K τ gm Q := by
  refine b_M_tourStep_0 hm (m_word hm hSY hk hA fun r hr => ?_)
  have er : r = (w : Int) := by
    rcases hr with ⟨-, r2⟩ | ⟨v, w1, w2, w3⟩
    · exact absurd hw (r2 w (by omega))
    · rw [w2, kMt_u w1 (by omega) w3.2 hw.2]
  subst er
  clear hr
  repeat' (first | refine And.intro (by omega) ?_ | refine And.intro (fun _ => ?_) (fun _ => ?_) | with_reducible intro _)
  all_goals first | (exfalso; omega) | exact h6 (by omega) | exact h7 (by omega) (by omega) (by omega) | exact h1 (by omega) (by omega) (by omega) | exact h2 (by omega) (by omega)
theorem m_te (hm : z_lay Y K τ 0 z_SM z_RM) (hSY : z_St Y K τ) (hA : kA gx) (hk : kS gx gm) (h0 : 0 ≤ gm 1 2446 ∧ gm 1 2446 ≤ 60) (h21 : 0 ≤ gm 0 21 ∧ gm 0 21 ≤ 30) (hw : gx 10 4 = 1 ∧ kMt (gx 11) (gx 10 6) (gx 10 3) 14)
    (h1 : gm 0 20 = 0 → z_O Y 1 m_M_fails [(2, 0), (0, 2)] K τ gm (fun r2 g2 => (r2 = 0 ∨ r2 = 1) → Q r2 g2))
    (h2 : ¬ gm 0 20 = 0 → L_M_tourStep_142 Y K τ 14 (gm 1 2446) (2686 + 6 * gm 1 2446) 0 1 (z_up (z_up gm 0 21 (gm 0 21 + 0)) 1 (2686 + 6 * gm 1 2446) 14) Q) : z_O Y 12 m_M_tourStep [(2, 0)] K τ gm Q := by
  refine b_M_tourStep_0 hm (m_word hm hSY hk hA fun r hr => ?_)
  have er : r = 14 := by
    rcases hr with ⟨-, r2⟩ | ⟨v, w1, w2, w3⟩
    · exact absurd hw (r2 14 (by omega))
    · rw [w2, kMt_u w1 (by omega) w3.2 hw.2]; rfl
  subst er
  clear hr
  repeat' (first | refine And.intro (by omega) ?_ | refine And.intro (fun _ => ?_) (fun _ => ?_) | with_reducible intro _)
  all_goals first | (exfalso; omega) | exact h1 (by omega) | exact h2 (by omega)
theorem m_tx (hm : z_lay Y K τ 0 z_SM z_RM) (hSY : z_St Y K τ) (hA : kA gx) (hk : kS gx gm) (h0 : 0 ≤ gm 1 2446 ∧ gm 1 2446 ≤ 60) (h21 : 0 ≤ gm 0 21 ∧ gm 0 21 ≤ 30) (hw : ∀ w : Nat, (w = 1 ∨ w = 3 ∨ (6 ≤ w ∧ w ≤ 13) ∨ w = 15) → ¬ (gx 10 4 = 1 ∧ kMt (gx 11) (gx 10 6) (gx 10 3) w)) (hw' : (gx 10 4 = 1 ∧ kMt (gx 11) (gx 10 6) (gx 10 3) 14) → gm 0 20 = 0)
    (h1 : z_O Y 1 m_M_fails [(2, 0), (0, 2)] K τ gm (fun r2 g2 => (r2 = 0 ∨ r2 = 1) → Q r2 g2)) : z_O Y 12 m_M_tourStep [(2, 0)] K τ gm Q := by
  refine b_M_tourStep_0 hm (m_word hm hSY hk hA fun r hr => ?_)
  have er : (r = -1 ∨ r = 0 ∨ r = 2 ∨ r = 4 ∨ r = 5 ∨ (16 ≤ r ∧ r < 20)) ∨ (r = 14 ∧ gm 0 20 = 0) := by
    rcases hr with ⟨r1, -⟩ | ⟨v, w1, w2, w3⟩
    · exact Or.inl (Or.inl r1)
    · by_cases c : v = 1 ∨ v = 3 ∨ (6 ≤ v ∧ v ≤ 13) ∨ v = 15
      · exact absurd w3 (hw v c)
      · by_cases c2 : v = 14
        · rw [c2] at w3; exact Or.inr ⟨by omega, hw' w3⟩
        · exact Or.inl (by omega)
  repeat' (first | refine And.intro (by omega) ?_ | refine And.intro (fun _ => ?_) (fun _ => ?_) | with_reducible intro _)
  all_goals first | (exfalso; omega) | exact h1
/-- the row is laid, the next TOKEN stands -/
theorem m_row (hm : z_lay Y K τ 0 z_SM z_RM) {w n t o : Int} (ht : t = 2686 + 6 * n) (hn : 0 ≤ n ∧ n < 60) {g : z_G} (h46 : g 1 2446 = n) (hq : ∀ g', (∀ i, t + 1 ≤ i → i ≤ t + 5 → g' 1 i = 0) → g' 1 2446 = n + 1 → (∀ c i, ¬ (c = 1 ∧ (i = 2446 ∨ (t + 1 ≤ i ∧ i ≤ t + 5))) → g' c i = g c i) → z_O Y 2 m_M_nextToken [(2, 0)] K τ g' (fun r0 g0 => z_O Y 11 m_M_tourOrder [(2, 0), (0, w), (0, t)] K τ g0 (fun r1 g1 => (r1 = 0 ∨ r1 = 1) → ((r1 = 0 → Q 0 g1) ∧ (¬ r1 = 0 → (o = 0 → ((w = 14 → (0 ≤ g1 0 20 - 1 ∧ g1 0 20 - 1 < 3) ∧ (0 ≤ g1 7 (g1 0 20 - 1) ∧ g1 7 (g1 0 20 - 1) < 60) ∧ z_O Y 3 m_M_wantSign [(2, 0), (0, 59)] K τ (z_up (z_up (z_up g1 0 20 (g1 0 20 - 1)) 1 (t + 4) (g1 7 (g1 0 20 - 1))) 1 (2686 + 6 * g1 7 (g1 0 20 - 1) + 4) n) (fun r3 g3 => (r3 = 0 ∨ r3 = 1) → Q r3 g3)) ∧ (¬ w = 14 → z_O Y 3 m_M_wantSign [(2, 0), (0, 59)] K τ g1 (fun r3 g3 => (r3 = 0 ∨ r3 = 1) → Q r3 g3)))) ∧ (¬ o = 0 → ¬ w = 14 ∧ (0 ≤ g1 0 20 ∧ g1 0 20 < 3) ∧ z_O Y 3 m_M_wantSign [(2, 0), (0, 59)] K τ (z_up (z_up g1 7 (g1 0 20) n) 0 20 (g1 0 20 + 1)) (fun r3 g3 => (r3 = 0 ∨ r3 = 1) → Q r3 g3)))))) ) : L_M_tourStep_142 Y K τ w n t o 1 g Q := by
  have L : ∀ (m : Nat) (x : Int) (g1 : z_G), x + m = 6 → 1 ≤ x → (∀ i, t + 1 ≤ i → i < t + x → g1 1 i = 0) → (∀ c i, ¬ (c = 1 ∧ t + 1 ≤ i ∧ i ≤ t + 5) → g1 c i = g c i) → L_M_tourStep_142 Y K τ w n t o x g1 Q := by
    intro m
    induction m with
    | zero =>
      intro x g1 e1 e2 h1 hf
      have e46 : g1 1 2446 = n := by rw [hf 1 2446 (by omega)]; exact h46
      refine b_M_tourStep_142 hm ⟨fun _ => ⟨by omega, z_Omono (hq _ (fun i i1 i2 => ?_) ?_ (fun c i hc => ?_)) fun r0 g0 _ hh => z_Omono hh fun r1 g1 _ hh1 => fun h01 => ⟨(hh1 h01).1, fun z => ⟨fun o0 => ⟨fun w14 => ?_, fun w14 => (((hh1 h01).2 z).1 o0).2 w14⟩, fun o0 => ?_⟩⟩⟩, fun z => by exfalso; omega⟩
      · rw [z_u2 (by omega)]; exact h1 i i1 (by omega)
      · rw [z_u1, e46]
      · rw [z_u2 (by omega)]; exact hf c i (by omega)
      · obtain ⟨q1, q2, q3⟩ := (((hh1 h01).2 z).1 o0).1 w14
        exact ⟨by omega, by omega, by omega, by omega, by omega, by omega, by omega, by omega, q3⟩
      · obtain ⟨q1, q2, q3⟩ := ((hh1 h01).2 z).2 o0
        exact ⟨q2, by omega, fun y => absurd y q1, fun _ => q3⟩
    | succ m ih =>
      intro x g1 e1 e2 h1 hf
      refine b_M_tourStep_142 hm ⟨fun z => by exfalso; omega, fun _ => ⟨by omega, by omega, by omega, ih (x + 1) _ (by omega) (by omega) (fun i i1 i2 => ?_) (fun c i hc => by rw [z_u2 (by omega)]; exact hf c i hc)⟩⟩
      by_cases e : i = t + x
      · rw [e]; exact z_u1
      · rw [z_u2 (by omega)]; exact h1 i i1 (by omega)
  exact L 5 1 g (by omega) (by omega) (fun i i1 i2 => by exfalso; omega) (fun _ _ _ => rfl)
end Lock

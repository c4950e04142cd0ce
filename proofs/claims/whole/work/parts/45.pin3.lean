/-! ## pin: both -/
theorem o_pin {X Y : z_X} {N K : Nat} {σ τ gx gm : z_G} (hx : z_lay X N σ 0 z_SF z_RF) (hm : z_lay Y K τ 0 z_SM z_RM) (I : Inv gx gm) {a1 a2 a3 : Int} (r1 : -2147483648 ≤ a1 ∧ a1 ≤ 2147483647) (r2 : -2147483648 ≤ a2 ∧ a2 ≤ 2147483647) (r3 : -2147483648 ≤ a3 ∧ a3 ≤ 2147483647) : z_O X 4 m_F_pin [(2, 0), (0, a1), (0, a2), (0, a3)] N σ gx (fun r gx' => z_O Y 4 m_M_pin [(2, 0), (0, a1), (0, a2), (0, a3)] K τ gm (fun r' gm' => r' = r ∧ Inv gx' gm')) := by
  have bad : ¬ (1 ≤ a3 ∧ a3 ≤ 99 ∧ 1 ≤ a2 ∧ a2 ≤ 9999 ∧ 0 ≤ a1 ∧ a1 ≤ a2) → z_O Y 4 m_M_pin [(2, 0), (0, a1), (0, a2), (0, a3)] K τ gm (fun r' gm' => r' = -1 ∧ Inv (z_up gx 0 0 1) gm') := by
    intro hb
    refine b_M_pin_0 hm ?_
    repeat' (first | refine And.intro (by omega) ?_ | refine And.intro (fun _ => ?_) (fun q => absurd (by omega) q) | refine And.intro (fun q => absurd q (by omega)) (fun _ => ?_) | refine And.intro (fun _ => ?_) (fun _ => ?_) | refine And.intro (fun q => absurd q (by omega)) ?_ | refine And.intro (fun _ => ?_) ?_ | with_reducible intro _)
    all_goals first | exact I.fin xA.rf yA.rf I.2.2.2.2 1 | (exfalso; omega)
  refine b_F_pin_0 hx ⟨fun c => bad (by omega), fun c => ⟨fun c2 => bad (by omega), fun c2 => s_Ch_take (ky_F_18 hx) (fun q => ?_) (fun q g' hc hf => ?_)⟩⟩
  · exact fun _ => ⟨fun _ => bad (by omega), fun e => absurd rfl e⟩
  · refine fun _ => ⟨fun e => absurd e (by omega), fun _ => ?_⟩
    have e3 : g' 18 3 = a1 / Int.gcd a1 a2 := hc.2.2.2.2.1
    have e4 : g' 18 4 = a2 / Int.gcd a1 a2 := hc.2.2.2.2.2.1
    have hn := I.pI.2.2.1
    have hn0 := I.pI.2.1
    have e25 : g' 25 3 = gm 1 4 := by rw [hf 25 3 (by omega) (by omega)]; exact I.pI.1
    have hmC := I.2.2.2.2
    -- the reference, up to its pins
    have mrun : ∀ (r : Int) (gx' : z_G), z_O Y 3 m_M_pins [(2, 0), (0, a1), (0, a2), (0, a3)] K τ gm (fun r0 g0 => (((r0 ≤ 0) → g0 0 28 = r ∧ Inv gx' (z_up g0 0 1 0)) ∧ (¬ (r0 ≤ 0) → (-1 : Int) = r ∧ Inv gx' (z_up g0 0 1 r0)))) → z_O Y 4 m_M_pin [(2, 0), (0, a1), (0, a2), (0, a3)] K τ gm (fun r' gm' => r' = r ∧ Inv gx' gm') := by
      intro r gx' h
      refine b_M_pin_0 hm ?_
      repeat' (first | refine And.intro (by omega) ?_ | refine And.intro (fun _ => ?_) (fun q => absurd (by omega) q) | refine And.intro (fun q => absurd q (by omega)) (fun _ => ?_) | refine And.intro (fun _ => ?_) (fun _ => ?_) | refine And.intro (fun q => absurd q (by omega)) ?_ | refine And.intro (fun _ => ?_) ?_ | with_reducible intro _)
      exact h
    rw [e3, e4]
    refine b_Pi_whyNotMore_0 (o := 25) (ky_F_25 hx) (s_F_findPin hx I.pI hf fun r hr => ⟨fun r0 => ?_, fun r0 => ?_⟩)
    · have hr0 : r < gm 1 4 := by
        rcases hr with ⟨a, -⟩ | ⟨-, a, -, -⟩ <;> omega
      have hw := I.pI.2.2.2.1 r r0 hr0
      have e28 : g' (25 + 3) r = gm 1 (10 + 3 * r + 2) := by rw [hf _ _ (by omega) (by omega)]; exact hw.2.2.1
      refine ⟨by omega, by omega, fun q9 => ⟨fun _ => ?_, fun e => absurd rfl e⟩, fun q9 => ⟨fun e => absurd e (by omega), fun _ => mrun _ _ ?_⟩⟩
      · rw [e3, e4]
        refine b_Pi_add_0 (o := 25) (ky_F_25 hx) (s_F_findPin hx I.pI hf fun r2 hr2 => ?_)
        have e := pAt.eq I.pI hr hr2
        subst e
        refine ⟨fun p => absurd p (by omega), fun _ => ⟨by omega, by omega, mrun _ _ ?_⟩⟩
        refine s_M_pins hm I.pI (by omega) (by omega) (by omega) (fun hr' _ => ?_) (fun k k1 k2 hr' k3 => ?_) (fun hr' _ => ?_) (fun k k1 k2 hr' k3 gm2 m1 m2 m3 => ?_)
        · have := pAt.eq I.pI hr hr'; omega
        · have := pAt.eq I.pI hr hr'; subst this; omega
        · have := pAt.eq I.pI hr hr'; omega
        · have := pAt.eq I.pI hr hr'
          subst this
          refine ⟨fun _ => ⟨by rw [m1, e28], Inv_pins I (fun c i hk hn => ?_) (fun c i hk hn => m3 c i (by omega) (by unfold yK at hk; omega)) ?_ ?_ 0⟩, fun p => absurd (by omega) p⟩
          · rw [z_u2 (Or.inl (by omega)), xA.ch hf c i hk]
          · exact hmC.congr (fun i => m3 8 i (by omega) (by omega)) (fun i => m3 9 i (by omega) (by omega)) (m3 0 24 (by omega) (by omega)) (m3 0 25 (by omega) (by omega))
          · refine I.pI.more (k := r) (w := gm 1 (10 + 3 * r + 2) + a3) ⟨r0, hr0⟩ (by omega) ?_ (fun i => ?_) (fun i => ?_) (fun i => ?_) m2
            · rw [z_u2 (Or.inl (by omega)), hf _ _ (by omega) (by omega)]
            · rw [z_u2 (Or.inl (by omega)), hf _ _ (by omega) (by omega)]
            · rw [z_u2 (Or.inl (by omega)), hf _ _ (by omega) (by omega)]
            · by_cases ci : i = r
              · rw [if_pos ci, ci, e28]; exact z_u1
              · rw [if_neg ci, z_u2 (Or.inr ci), hf _ _ (by omega) (by omega)]
      · refine s_M_pins hm I.pI (by omega) (by omega) (by omega) (fun hr' _ => ?_) (fun k k1 k2 hr' k3 => ?_) (fun hr' _ => ?_) (fun k k1 k2 hr' k3 gm2 m1 m2 m3 => ?_)
        · have := pAt.eq I.pI hr hr'; omega
        · exact ⟨fun e => absurd e (by omega), fun _ => ⟨rfl, I.fin (xA.ch hf) yA.rf hmC 7⟩⟩
        · have := pAt.eq I.pI hr hr'; omega
        · have := pAt.eq I.pI hr hr'; subst this; omega
    · have hr0 : r = -1 := by
        rcases hr with ⟨a, -⟩ | ⟨a, -, -, -⟩ <;> omega
      subst hr0
      refine ⟨fun q9 => ⟨fun _ => ?_, fun e => absurd rfl e⟩, fun q9 => ⟨fun e => absurd e (by omega), fun _ => mrun _ _ ?_⟩⟩
      · rw [e3, e4]
        refine b_Pi_add_0 (o := 25) (ky_F_25 hx) (s_F_findPin hx I.pI hf fun r2 hr2 => ?_)
        have e := pAt.eq I.pI hr hr2
        subst e
        refine ⟨fun _ => ⟨fun p => absurd p (by omega), fun _ => ⟨by omega, by omega, mrun _ _ ?_⟩⟩, fun p => absurd (by omega) p⟩
        refine s_M_pins hm I.pI (by omega) (by omega) (by omega) (fun hr' _ => ?_) (fun k k1 k2 hr' k3 => ?_) (fun hr' h12 gm2 m1 m2 m3 m4 m5 m6 m7 => ?_) (fun k k1 k2 hr' k3 gm2 m1 m2 m3 => ?_)
        · omega
        · have := pAt.eq I.pI hr hr'; omega
        · refine ⟨fun _ => ⟨m1, Inv_pins I (fun c i hk hn => ?_) (fun c i hk hn => m7 c i hn (by unfold yK at hk; omega)) ?_ ?_ 0⟩, fun p => absurd (by omega) p⟩
          · rw [z_u2 (Or.inl (by omega)), z_u2 (Or.inl (by omega)), z_u2 (Or.inl (by omega)), z_u2 (Or.inl (by omega)), xA.ch hf c i hk]
          · exact hmC.congr (fun i => m7 8 i (by omega) (by omega)) (fun i => m7 9 i (by omega) (by omega)) (m7 0 24 (by omega) (by omega)) (m7 0 25 (by omega) (by omega))
          · refine I.pI.add (w := a3) (n_red q) (by omega) h12 hr ?_ (fun i => ?_) (fun i => ?_) (fun i => ?_) m2 m3 m4 m5 m6
            · rw [z_u1, e25]
            · rw [z_u2 (Or.inl (by omega)), z_u2 (Or.inl (by omega)), z_u2 (Or.inl (by omega))]
              by_cases ci : i = gm 1 4
              · rw [if_pos ci, ci, e25]; exact z_u1
              · rw [if_neg ci, z_u2 (Or.inr (by omega)), hf _ _ (by omega) (by omega)]
            · rw [z_u2 (Or.inl (by omega)), z_u2 (Or.inl (by omega))]
              by_cases ci : i = gm 1 4
              · rw [if_pos ci, ci, e25]; exact z_u1
              · rw [if_neg ci, z_u2 (Or.inr (by omega)), z_u2 (Or.inl (by omega)), hf _ _ (by omega) (by omega)]
            · rw [z_u2 (Or.inl (by omega))]
              by_cases ci : i = gm 1 4
              · rw [if_pos ci, ci, e25]; exact z_u1
              · rw [if_neg ci, z_u2 (Or.inr (by omega)), z_u2 (Or.inl (by omega)), z_u2 (Or.inl (by omega)), hf _ _ (by omega) (by omega)]
        · have := pAt.eq I.pI hr hr'; omega
      · refine s_M_pins hm I.pI (by omega) (by omega) (by omega) (fun hr' _ => ?_) (fun k k1 k2 hr' k3 => ?_) (fun hr' _ => ?_) (fun k k1 k2 hr' k3 gm2 m1 m2 m3 => ?_)
        · exact ⟨fun e => absurd e (by omega), fun _ => ⟨rfl, I.fin (xA.ch hf) yA.rf hmC 4⟩⟩
        · have := pAt.eq I.pI hr hr'; omega
        · omega
        · have := pAt.eq I.pI hr hr'; omega

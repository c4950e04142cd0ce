/-! TRAYS: write, pour -/
/-- one number of a tray is new -/
theorem Inv.put {gx gm : z_G} (I : Inv gx gm) {t i v : Int} (ht : 0 ≤ t ∧ t < 4) (hi : 0 ≤ i ∧ i < 60) (s : Int) : Inv (z_up (z_up gx (3 + t.toNat) i v) 0 0 s) (z_up (z_up gm 4 (60 * t + i) v) 0 1 s) := by
  obtain ⟨h1, h2, h3, h4, h5⟩ := I
  refine ⟨by rw [z_u1, z_u1], ?_, ?_, iT.one h4 (fun u u0 u1 => ?_) (fun c j hk hn => ?_) (fun c j hk hn => ?_), (h5.up (by omega) (by omega) (by omega)).up (by omega) (by omega) (by omega)⟩
  · rw [z_u2 (by omega), z_u2 (by omega), z_u2 (by omega), z_u2 (by omega)]; exact h2
  · rw [z_u2 (by omega), z_u2 (by omega), z_u2 (by omega), z_u2 (by omega)]; exact h3
  · rw [z_u2 (by omega), z_u2 (by omega), z_u2 (by omega), z_u2 (by omega), z_u2 (by omega), z_u2 (by omega), z_u2 (by omega), z_u2 (by omega)]
    obtain ⟨q1, q2, q3, q4, q5, q6, q7⟩ := h4.1 u u0 u1
    refine ⟨q1, q2, q3, q4, q5, q6, fun j j0 j1 => ?_⟩
    rw [z_u2 (g := z_up gx (3 + t.toNat) i v) (by omega), z_u2 (g := z_up gm 4 (60 * t + i) v) (by omega)]
    by_cases e : u = t ∧ j = i
    · rw [e.1, e.2, z_u1, z_u1]
    · rw [z_u2 (by omega), z_u2 (by omega)]; exact q7 j j0 j1
  · unfold xK at hk
    rw [z_u2 (by omega), z_u2 (by omega)]
  · unfold yK at hk
    rw [z_u2 (by omega), z_u2 (by omega)]
theorem o_write {X Y : z_X} {N K : Nat} {σ τ gx gm : z_G} (hx : z_lay X N σ 0 z_SF z_RF) (hm : z_lay Y K τ 0 z_SM z_RM) (I : Inv gx gm) {a1 a2 a3 : Int} (r1 : -2147483648 ≤ a1 ∧ a1 ≤ 2147483647) (r2 : -2147483648 ≤ a2 ∧ a2 ≤ 2147483647) (r3 : -9223372036854775808 ≤ a3 ∧ a3 ≤ 9223372036854775807) : z_O X 5 m_F_write [(2, 0), (0, a1), (0, a2), (1, a3)] N σ gx (fun r gx' => z_O Y 3 m_M_write [(2, 0), (0, a1), (0, a2), (1, a3)] K τ gm (fun r' gm' => r' = r ∧ Inv gx' gm')) := by
  have hT := I.2.2.2.1.1
  refine b_F_write_0 hx ?_
  refine s_F_whyNoPlace hx r2 (fun h => ?_) (fun h q => ?_) (fun h q q2 => ?_) (fun h q q2 => ?_)
  · repeat' (first | refine And.intro (by omega) ?_ | refine And.intro (fun _ => ?_) (fun q => absurd (by omega) q) | refine And.intro (fun q => absurd q (by omega)) (fun _ => ?_) | refine And.intro (fun _ => ?_) (fun _ => ?_) | refine And.intro (fun q => absurd q (by omega)) ?_ | refine And.intro (fun _ => ?_) ?_ | with_reducible intro _)
    refine b_M_write_0 hm ?_
    repeat' (first | refine And.intro (by omega) ?_ | refine And.intro (fun _ => ?_) (fun q => absurd (by omega) q) | refine And.intro (fun q => absurd q (by omega)) (fun _ => ?_) | refine And.intro (fun _ => ?_) (fun _ => ?_) | refine And.intro (fun q => absurd q (by omega)) ?_ | refine And.intro (fun _ => ?_) ?_ | with_reducible intro _)
    all_goals exact I.fin xA.rf yA.rf I.2.2.2.2 1
  · obtain ⟨e1, e2, e3, e4, e5, e6, e7⟩ := hT a1 h.1 h.2
    repeat' (first | refine And.intro (by omega) ?_ | refine And.intro (fun _ => ?_) (fun q => absurd (by omega) q) | refine And.intro (fun q => absurd q (by omega)) (fun _ => ?_) | refine And.intro (fun _ => ?_) (fun _ => ?_) | refine And.intro (fun q => absurd q (by omega)) ?_ | refine And.intro (fun _ => ?_) ?_ | with_reducible intro _)
    refine b_M_write_0 hm ?_
    repeat' (first | refine And.intro (by omega) ?_ | refine And.intro (fun _ => ?_) (fun q => absurd (by omega) q) | refine And.intro (fun q => absurd q (by omega)) (fun _ => ?_) | refine And.intro (fun _ => ?_) (fun _ => ?_) | refine And.intro (fun q => absurd q (by omega)) ?_ | refine And.intro (fun _ => ?_) ?_ | with_reducible intro _)
    exact I.fin xA.rf yA.rf I.2.2.2.2 2
  · obtain ⟨e1, e2, e3, e4, e5, e6, e7⟩ := hT a1 h.1 h.2
    repeat' (first | refine And.intro (by omega) ?_ | refine And.intro (fun _ => ?_) (fun q => absurd (by omega) q) | refine And.intro (fun q => absurd q (by omega)) (fun _ => ?_) | refine And.intro (fun _ => ?_) (fun _ => ?_) | refine And.intro (fun q => absurd q (by omega)) ?_ | refine And.intro (fun _ => ?_) ?_ | with_reducible intro _)
    refine b_M_write_0 hm ?_
    repeat' (first | refine And.intro (by omega) ?_ | refine And.intro (fun _ => ?_) (fun q => absurd (by omega) q) | refine And.intro (fun q => absurd q (by omega)) (fun _ => ?_) | refine And.intro (fun _ => ?_) (fun _ => ?_) | refine And.intro (fun q => absurd q (by omega)) ?_ | refine And.intro (fun _ => ?_) ?_ | with_reducible intro _)
    all_goals exact I.fin xA.rf yA.rf I.2.2.2.2 3
  · obtain ⟨e1, e2, e3, e4, e5, e6, e7⟩ := hT a1 h.1 h.2
    repeat' (first | refine And.intro (by omega) ?_ | refine And.intro (fun _ => ?_) (fun q => absurd (by omega) q) | refine And.intro (fun q => absurd q (by omega)) (fun _ => ?_) | refine And.intro (fun _ => ?_) (fun _ => ?_) | refine And.intro (fun q => absurd q (by omega)) ?_ | refine And.intro (fun _ => ?_) ?_ | with_reducible intro _)
    refine b_Tr_put_0 hx ?_
    refine s_Tr_hasRoom hx h (by omega) (by omega) (by omega) (fun q3 => ?_) (fun q3 => absurd (by omega) q3)
    obtain ⟨k1, k2, k3⟩ := k_rows hx h
    refine fun _ => ⟨fun q => absurd q (by omega), fun _ => ⟨h, _, k1, k2, k3, ?_⟩⟩
    repeat' (first | refine And.intro (by omega) ?_ | refine And.intro (fun _ => ?_) (fun q => absurd (by omega) q) | refine And.intro (fun q => absurd q (by omega)) (fun _ => ?_) | refine And.intro (fun _ => ?_) (fun _ => ?_) | refine And.intro (fun q => absurd q (by omega)) ?_ | refine And.intro (fun _ => ?_) ?_ | with_reducible intro _)
    all_goals refine b_M_write_0 hm ?_
    repeat' (first | refine And.intro (by omega) ?_ | refine And.intro (fun _ => ?_) (fun q => absurd (by omega) q) | refine And.intro (fun q => absurd q (by omega)) (fun _ => ?_) | refine And.intro (fun _ => ?_) (fun _ => ?_) | refine And.intro (fun q => absurd q (by omega)) ?_ | refine And.intro (fun _ => ?_) ?_ | with_reducible intro _)
    all_goals exact I.put h (by omega) 0
theorem s_Tr_move {X : z_X} {N : Nat} {σ g : z_G} {Q : z_P} (hx : z_lay X N σ 0 z_SF z_RF) {t p u q m : Int} (ht : 0 ≤ t ∧ t < 4) (hu : 0 ≤ u ∧ u < 4) (hl : g 8 t ≤ 60 ∧ g 8 u ≤ 60 ∧ ¬ g 8 t = -1 ∧ ¬ g 8 u = -1) (hp : 0 ≤ p ∧ 0 ≤ q ∧ 0 ≤ m ∧ p + m ≤ g 8 t ∧ q + m ≤ g 8 u) (hq : Q 0 (z_cp g (3 + t.toNat) (3 + u.toNat) p q m)) : z_O X 4 m_Tr_move [(2, 1), (0, t), (0, p), (0, u), (0, q), (0, m)] N σ g Q := by
  refine b_Tr_move_0 hx ?_
  refine s_Tr_hasRoom hx ht (by omega) (by omega) (by omega) (fun q3 => ?_) (fun q3 => absurd (by omega) q3)
  refine fun _ => ⟨fun e => absurd e (by omega), fun _ => ?_⟩
  refine s_Tr_hasRoom hx hu (by omega) (by omega) (by omega) (fun q3 => ?_) (fun q3 => absurd (by omega) q3)
  obtain ⟨k1, k2, k3⟩ := k_rows hx ht
  obtain ⟨k4, k5, k6⟩ := k_rows hx hu
  exact fun _ => ⟨fun e => absurd e (by omega), fun _ => ⟨ht, _, k1, k2, k3, hu, _, k4, k5, k6, by omega, hq⟩⟩
theorem o_pour {X Y : z_X} {N K : Nat} {σ τ gx gm : z_G} (hx : z_lay X N σ 0 z_SF z_RF) (hm : z_lay Y K τ 0 z_SM z_RM) (I : Inv gx gm) {a1 a2 a3 a4 a5 : Int} (r1 : -2147483648 ≤ a1 ∧ a1 ≤ 2147483647) (r2 : -2147483648 ≤ a2 ∧ a2 ≤ 2147483647) (r3 : -2147483648 ≤ a3 ∧ a3 ≤ 2147483647) (r4 : -2147483648 ≤ a4 ∧ a4 ≤ 2147483647) (r5 : -2147483648 ≤ a5 ∧ a5 ≤ 2147483647) : z_O X 5 m_F_pour [(2, 0), (0, a1), (0, a2), (0, a3), (0, a4), (0, a5)] N σ gx (fun r gx' => z_O Y 2 m_M_pour [(2, 0), (0, a1), (0, a2), (0, a3), (0, a4), (0, a5)] K τ gm (fun r' gm' => r' = r ∧ Inv gx' gm')) := by
  have hT := I.2.2.2.1.1
  refine b_F_pour_0 hx ?_
  have bad : ¬ (0 ≤ a1 ∧ a1 < 4 ∧ 0 ≤ a3 ∧ a3 < 4 ∧ 0 ≤ a2 ∧ 0 ≤ a4 ∧ 0 ≤ a5) → z_O Y 2 m_M_pour [(2, 0), (0, a1), (0, a2), (0, a3), (0, a4), (0, a5)] K τ gm (fun r' gm' => r' = 0 ∧ Inv (z_up gx 0 0 1) gm') := by
    intro hb
    refine b_M_pour_0 hm ?_
    repeat' (first | refine And.intro (by omega) ?_ | refine And.intro (fun _ => ?_) (fun q => absurd (by omega) q) | refine And.intro (fun q => absurd q (by omega)) (fun _ => ?_) | refine And.intro (fun _ => ?_) (fun _ => ?_) | refine And.intro (fun q => absurd q (by omega)) ?_ | refine And.intro (fun _ => ?_) ?_ | with_reducible intro _)
    all_goals first | exact I.fin xA.rf yA.rf I.2.2.2.2 1 | (exfalso; omega)
  refine ⟨fun _ => bad (by omega), fun _ => ⟨fun _ => bad (by omega), fun _ => ⟨fun _ => bad (by omega), fun _ => ⟨fun _ => bad (by omega), fun _ => ⟨fun _ => bad (by omega), fun _ => ⟨fun _ => bad (by omega), fun _ => ⟨fun _ => ?_, fun _ => bad (by omega)⟩⟩⟩⟩⟩⟩⟩
  obtain ⟨e1, e2, e3, e4, e5, e6, e7⟩ := hT a1 (by omega) (by omega)
  obtain ⟨f1, f2, f3, f4, f5, f6, f7⟩ := hT a3 (by omega) (by omega)
  refine ⟨by omega, fun c => ?_, fun c => ⟨by omega, fun c2 => ?_, fun c2 => ⟨fun c3 => ?_, fun c3 => ?_⟩⟩⟩
  · refine b_M_pour_0 hm ?_
    repeat' (first | refine And.intro (by omega) ?_ | refine And.intro (fun _ => ?_) (fun q => absurd (by omega) q) | refine And.intro (fun q => absurd q (by omega)) (fun _ => ?_) | refine And.intro (fun _ => ?_) (fun _ => ?_) | refine And.intro (fun q => absurd q (by omega)) ?_ | refine And.intro (fun _ => ?_) ?_ | with_reducible intro _)
    exact I.fin xA.rf yA.rf I.2.2.2.2 2
  · refine b_M_pour_0 hm ?_
    repeat' (first | refine And.intro (by omega) ?_ | refine And.intro (fun _ => ?_) (fun q => absurd (by omega) q) | refine And.intro (fun q => absurd q (by omega)) (fun _ => ?_) | refine And.intro (fun _ => ?_) (fun _ => ?_) | refine And.intro (fun q => absurd q (by omega)) ?_ | refine And.intro (fun _ => ?_) ?_ | with_reducible intro _)
    exact I.fin xA.rf yA.rf I.2.2.2.2 2
  · have three : ¬ (a2 + a5 ≤ gm 3 a1 ∧ a4 + a5 ≤ gm 3 a3) → z_O Y 2 m_M_pour [(2, 0), (0, a1), (0, a2), (0, a3), (0, a4), (0, a5)] K τ gm (fun r' gm' => r' = 0 ∧ Inv (z_up gx 0 0 3) gm') := by
      intro hb
      refine b_M_pour_0 hm ?_
      repeat' (first | refine And.intro (by omega) ?_ | refine And.intro (fun _ => ?_) (fun q => absurd (by omega) q) | refine And.intro (fun q => absurd q (by omega)) (fun _ => ?_) | refine And.intro (fun _ => ?_) (fun _ => ?_) | refine And.intro (fun q => absurd q (by omega)) ?_ | refine And.intro (fun _ => ?_) ?_ | with_reducible intro _)
      all_goals first | exact I.fin xA.rf yA.rf I.2.2.2.2 3 | (exfalso; omega)
    refine s_Tr_hasRoom hx (by omega) c (by omega) (by omega) (fun q3 => ?_) (fun q3 => ?_)
    · refine fun _ => ⟨fun e => absurd e (by omega), fun _ => ?_⟩
      refine s_Tr_hasRoom hx (by omega) c2 (by omega) (by omega) (fun q4 => ?_) (fun q4 => ?_)
      · refine fun _ => ⟨fun e => absurd e (by omega), fun _ => ?_⟩
        refine s_Tr_move hx (by omega) (by omega) (by omega) (by omega) ?_
        refine b_M_pour_0 hm ?_
        repeat' (first | refine And.intro (by omega) ?_ | refine And.intro (fun _ => ?_) (fun q => absurd (by omega) q) | refine And.intro (fun q => absurd q (by omega)) (fun _ => ?_) | refine And.intro (fun _ => ?_) (fun _ => ?_) | refine And.intro (fun q => absurd q (by omega)) ?_ | refine And.intro (fun _ => ?_) ?_ | with_reducible intro _)
        have key : ∀ (n : Nat) (j : Int) (gm' : z_G), (a5 - j).toNat ≤ n → 0 ≤ j → j ≤ a5 → (∀ c i, ¬ (c = 4 ∧ 60 * a3 + a4 ≤ i ∧ i < 60 * a3 + a4 + a5) → gm' c i = gm c i) → (∀ i : Int, 0 ≤ i → i < a5 → (if a4 ≤ a2 then i < j else a5 - 1 - j < i) → gm' 4 (60 * a3 + a4 + i) = gm 4 (60 * a1 + a2 + i)) → (∀ i : Int, 0 ≤ i → i < a5 → ¬ (if a4 ≤ a2 then i < j else a5 - 1 - j < i) → gm' 4 (60 * a3 + a4 + i) = gm 4 (60 * a3 + a4 + i)) → L_M_pour_118 Y K τ a1 a2 a3 a4 a5 j gm' (fun r' gm' => r' = 1 ∧ Inv (z_up (z_cp gx (3 + a1.toNat) (3 + a3.toNat) a2 a4 a5) 0 0 0) gm') := by
          intro n
          have fin : ∀ gm' : z_G, (∀ c i, ¬ (c = 4 ∧ 60 * a3 + a4 ≤ i ∧ i < 60 * a3 + a4 + a5) → gm' c i = gm c i) → (∀ i : Int, 0 ≤ i → i < a5 → gm' 4 (60 * a3 + a4 + i) = gm 4 (60 * a1 + a2 + i)) → Inv (z_up (z_cp gx (3 + a1.toNat) (3 + a3.toNat) a2 a4 a5) 0 0 0) (z_up gm' 0 1 0) := by
            intro gm' b1 b2
            obtain ⟨h1, h2, h3, h4, h5⟩ := I
            have cpn : ∀ (c : Nat) (i : Int), ¬ (c = 3 + a3.toNat ∧ a4 ≤ i ∧ i < a4 + a5) → z_cp gx (3 + a1.toNat) (3 + a3.toNat) a2 a4 a5 c i = gx c i := fun c i hn => by unfold z_cp; rw [if_neg hn]
            refine ⟨by rw [z_u1, z_u1], ?_, ?_, iT.one h4 (fun t t0 t1 => ?_) (fun c i hk hn => ?_) (fun c i hk hn => ?_), ?_⟩
            · rw [z_u2 (by omega), z_u2 (by omega), cpn _ _ (by omega), b1 _ _ (by omega)]; exact h2
            · rw [z_u2 (by omega), z_u2 (by omega), cpn _ _ (by omega), b1 _ _ (by omega)]; exact h3
            · rw [z_u2 (by omega), z_u2 (by omega), z_u2 (by omega), z_u2 (by omega), cpn _ _ (by omega), cpn _ _ (by omega), b1 _ _ (by omega), b1 _ _ (by omega)]
              obtain ⟨q1, q2, q3, q4, q5, q6, q7⟩ := h4.1 t t0 t1
              refine ⟨q1, q2, q3, q4, q5, q6, fun i i0 i1 => ?_⟩
              rw [z_u2 (by omega), z_u2 (by omega)]
              by_cases e : t = a3 ∧ a4 ≤ i ∧ i < a4 + a5
              · obtain ⟨e, e8, e9⟩ := e
                subst e
                have w1 := b2 (i - a4) (by omega) (by omega)
                rw [show 60 * t + a4 + (i - a4) = 60 * t + i by omega] at w1
                have w2 := e7 (a2 + (i - a4)) (by omega) (by omega)
                rw [w1]
                unfold z_cp
                rw [if_pos ⟨rfl, e8, e9⟩, w2]
                congr 1; omega
              · rw [cpn _ _ (by omega), b1 _ _ (by omega)]; exact q7 i i0 i1
            · unfold xK at hk
              rw [z_u2 (by omega), cpn _ _ (by omega)]
            · unfold yK at hk
              rw [z_u2 (by omega), b1 _ _ (by omega)]
            · exact (h5.congr (fun i => b1 _ _ (by omega)) (fun i => b1 _ _ (by omega)) (b1 _ _ (by omega)) (b1 _ _ (by omega))).up (by omega) (by omega) (by omega)
          induction n with
          | zero =>
            intro j gm' hn j0 j1 b1 b2 b3
            exact b_M_pour_118 hm ⟨fun _ => ⟨rfl, fin gm' b1 (fun i i0 i1 => b2 i i0 i1 (by split <;> omega))⟩, fun q => absurd (by omega) q⟩
          | succ n ih =>
            intro j gm' hn j0 j1 b1 b2 b3
            refine b_M_pour_118 hm ⟨fun _ => ⟨rfl, fin gm' b1 (fun i i0 i1 => b2 i i0 i1 (by split <;> omega))⟩, fun q => ?_⟩
            have src : ∀ k : Int, 0 ≤ k → k < a5 → k = (if a4 ≤ a2 then j else a5 - 1 - j) → gm' 4 (60 * a1 + a2 + k) = gm 4 (60 * a1 + a2 + k) := by
              intro k k0 k1 kk
              by_cases o : 60 * a3 + a4 ≤ 60 * a1 + a2 + k ∧ 60 * a1 + a2 + k < 60 * a3 + a4 + a5
              · have w := b3 (60 * a1 + a2 + k - (60 * a3 + a4)) (by omega) (by omega) (by
                  by_cases d : a4 ≤ a2
                  · rw [if_pos d] at kk ⊢
                    rcases (show a1 < a3 ∨ a1 = a3 ∨ a3 < a1 by omega) with z | z | z
                    · omega
                    · omega
                    · omega
                  · rw [if_neg d] at kk ⊢
                    rcases (show a1 < a3 ∨ a1 = a3 ∨ a3 < a1 by omega) with z | z | z
                    · omega
                    · omega
                    · omega)
                rw [show 60 * a3 + a4 + (60 * a1 + a2 + k - (60 * a3 + a4)) = 60 * a1 + a2 + k by omega] at w
                exact w
              · exact b1 _ _ (by omega)
            refine ⟨fun d => ⟨by omega, by omega, by omega, by omega, by omega, by omega, by omega, by omega, by omega, ?_⟩, fun d => ⟨by omega, by omega, by omega, by omega, by omega, by omega, by omega, by omega, by omega, by omega, by omega, ?_⟩⟩
            · simp only [if_pos d] at b2 b3 src
              refine ih (j + 1) _ (by omega) (by omega) (by omega) (fun c i hc => by rw [z_u2 (by omega)]; exact b1 c i hc) (fun i i0 i1 i2 => ?_) (fun i i0 i1 i2 => ?_)
              · rw [if_pos d] at i2
                by_cases e : i = j
                · rw [e, z_u1]; exact src j (by omega) (by omega) rfl
                · rw [z_u2 (by omega)]; exact b2 i i0 i1 (by omega)
              · rw [if_pos d] at i2
                rw [z_u2 (by omega)]; exact b3 i i0 i1 (by omega)
            · simp only [if_neg d] at b2 b3 src
              refine ih (j + 1) _ (by omega) (by omega) (by omega) (fun c i hc => by rw [z_u2 (by omega)]; exact b1 c i hc) (fun i i0 i1 i2 => ?_) (fun i i0 i1 i2 => ?_)
              · rw [if_neg d] at i2
                by_cases e : i = a5 - 1 - j
                · rw [e, z_u1]; exact src (a5 - 1 - j) (by omega) (by omega) rfl
                · rw [z_u2 (by omega)]; exact b2 i i0 i1 (by omega)
              · rw [if_neg d] at i2
                rw [z_u2 (by omega)]; exact b3 i i0 i1 (by omega)
        exact key 60 0 gm (by omega) (by omega) (by omega) (fun c i _ => rfl) (fun i i0 i1 i2 => by exfalso; revert i2; split <;> omega) (fun i i0 i1 i2 => rfl)
      · exact fun _ => ⟨fun _ => three (by omega), fun e => absurd rfl e⟩
    · exact fun _ => ⟨fun _ => three (by omega), fun e => absurd rfl e⟩
  · refine b_M_pour_0 hm ?_
    repeat' (first | refine And.intro (by omega) ?_ | refine And.intro (fun _ => ?_) (fun q => absurd (by omega) q) | refine And.intro (fun q => absurd q (by omega)) (fun _ => ?_) | refine And.intro (fun _ => ?_) (fun _ => ?_) | refine And.intro (fun q => absurd q (by omega)) ?_ | refine And.intro (fun _ => ?_) ?_ | with_reducible intro _)
    exact I.fin xA.rf yA.rf I.2.2.2.2 8

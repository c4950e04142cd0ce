/-! ## TOURS: pins, lifts, draws -/
section Tour
variable {X Y : z_X} {N K : Nat} {σ τ gx0 gm0 gx gm : z_G} {o p : Nat} {b bm : Int} {P : z_P}
theorem pAt.tr {G gm gw : z_G} {T B r : Int} (h : pI G gm) (h' : pI G gw) (hr : pAt gm T B r) : pAt gw T B r := by
  obtain ⟨p1, p2, p3, p4, p5⟩ := h
  obtain ⟨q1, q2, q3, q4, q5⟩ := h'
  rcases hr with ⟨a1, a2⟩ | ⟨a1, a2, a3, a4⟩
  · refine Or.inl ⟨a1, fun k k1 k2 => ?_⟩
    have := a2 k k1 (by omega)
    have u := p4 k k1 (by omega)
    have v := q4 k k1 k2
    omega
  · have u := p4 r a1 a2
    have v := q4 r a1 (by omega)
    exact Or.inr ⟨a1, by omega, by omega, by omega⟩
theorem t_pins (ho : z_lay X N σ o z_SWk z_RWk) (hp : z_lay X N σ p z_SBd z_RBd) (hm : z_lay Y K τ 0 z_SM z_RM) (hop : p + 13 < o) (h : tR gx0 gm0 gx gm o p b bm) (hb : b ≤ 300) {w : Int} (hw : 1 ≤ w ∧ w ≤ 99) (hP : ∀ r gx', (r = 0 ∨ r = 1) → gx' o 1 = gx o 1 → (∃ gm', tR gx0 gm0 gx' gm' o p (b + 1) bm ∧ tF gx gx' gm gm' o) → (∀ gw, tR gx0 gm0 gx gw o p b bm → ∀ Q : z_P, (∀ gm', tR gx0 gm0 gx' gm' o p (b + 1) bm → tF gx gx' gw gm' o → Q r gm') → z_O Y 3 m_M_pins [(2, 0), (0, gw 1 2), (0, gw 1 3), (0, w)] K τ gw (fun r0 g0 => (((r0 = 0) → ((-2147483648 ≤ ((g0 16 2) + 1) ∧ ((g0 16 2) + 1) ≤ 2147483647) ∧ Q 1 (z_up g0 16 2 ((g0 16 2) + 1)))) ∧ (¬ (r0 = 0) → Q 0 g0)))) → P r gx') : z_O X 3 m_Wk_pins [(2, ((o : Nat) : Int)), (2, ((p : Nat) : Int)), (0, w)] N σ gx P := by
  obtain ⟨w0, w1, w2, w3, w4⟩ := h.1.bW
  have hl := n_sp_lt w0
  have hg : Int.gcd (gm 1 2) (gm 1 3) = 1 := n_sp_gcd w0 w1 w2
  have e1 : gm 1 2 / (Int.gcd (gm 1 2) (gm 1 3) : Int) = gm 1 2 := by rw [hg]; simp
  have e2 : gm 1 3 / (Int.gcd (gm 1 2) (gm 1 3) : Int) = gm 1 3 := by rw [hg]; simp
  have hpI : pI (sh p gx) gm := pI_sh.mp h.1.2.2.1
  have q3 : gx (p + 2) 3 = gm 1 4 := hpI.1
  have q4 := hpI.2.1
  have q5 := hpI.2.2.1
  have c16 := h.2.2.2.2.1
  have hv : iVal (gm 1 2) (gm 1 3) := ⟨by omega, by omega, by omega, w3, hg⟩
  -- all states beside gx
  have sm : ∀ gw, tR gx0 gm0 gx gw o p b bm → gw 1 2 = gm 1 2 ∧ gw 1 3 = gm 1 3 ∧ pI (sh p gx) gw ∧ gw 1 4 = gm 1 4 := fun gw hgw => by
    obtain ⟨v0, v1, v2, v3, v4⟩ := hgw.1.bW
    have hpw : pI (sh p gx) gw := pI_sh.mp hgw.1.2.2.1
    have z : gx (p + 2) 3 = gw 1 4 := hpw.1
    exact ⟨v1.symm.trans w1, v2.symm.trans w2, hpw, by omega⟩
  refine b_Wk_pins_0 ho hp ?_
  rw [w1, w2]
  refine ⟨by omega, by omega, b_Pi_whyNotMore_0 (o := p + 2) (ky_Bd_2 hp) (s_findB hp hpI fun r hr => ⟨fun r0 => ?_, fun r0 => ?_⟩)⟩
  · have hr0 : r < gm 1 4 := by
      rcases hr with ⟨a, -⟩ | ⟨-, a, -, -⟩ <;> omega
    have hwt := hpI.2.2.2.1 r r0 hr0
    have e28 : gx (p + 2 + 3) r = gm 1 (10 + 3 * r + 2) := hwt.2.2.1
    rw [e28]
    refine ⟨by omega, by omega, fun q9 => ⟨fun _ => b_Pi_add_0 (o := p + 2) (ky_Bd_2 hp) (s_findB hp hpI fun r2 hr2 => ?_), fun e => absurd rfl e⟩, fun q9 => ⟨fun e => absurd e (by omega), fun _ => hP 0 gx (Or.inl rfl) rfl ⟨gm, h.le (by omega) (by omega), fun _ => rfl, fun _ => rfl, rfl⟩ fun gw hgw Q hq => ?_⟩⟩
    · have e := pAt.eq hpI hr hr2
      subst e
      rw [e28]
      have z3 : z_up gx (p + 2 + 3) r (gm 1 (10 + 3 * r + 2) + w) o 3 = gx o 3 := z_u2 (by omega)
      -- the pins, for any state beside gx
      have step : ∀ gw gm2 : z_G, tR gx0 gm0 gx gw o p b bm → (∀ i : Int, gm2 1 i = if i = 10 + 3 * r + 2 then gm 1 (10 + 3 * r + 2) + w else gw 1 i) → (∀ c i, ¬ (c = 1 ∧ i = 10 + 3 * r + 2) → ¬ (c = 0 ∧ i = 28) → gm2 c i = gw c i) → tR gx0 gm0 (z_up gx (p + 2 + 3) r (gm 1 (10 + 3 * r + 2) + w)) gm2 o p b bm ∧ tF gx (z_up gx (p + 2 + 3) r (gm 1 (10 + 3 * r + 2) + w)) gw gm2 o := by
        intro gw gm2 hgw m2 m3
        obtain ⟨s1, s2, s3, s4⟩ := sm gw hgw
        refine hgw.pins hop (fun c i hc => z_u2 (by omega)) (fun c i c1 c2 => m3 c i (by omega) (by omega)) (s3.more (k := r) (w := gm 1 (10 + 3 * r + 2) + w) ⟨r0, by omega⟩ (by omega) ?_ (fun i => ?_) (fun i => ?_) (fun i => ?_) m2)
        · show z_up gx (p + 2 + 3) r _ (p + 2) 3 = gx (p + 2) 3; exact z_u2 (by omega)
        · show z_up gx (p + 2 + 3) r _ (p + 3) i = gx (p + 3) i; exact z_u2 (by omega)
        · show z_up gx (p + 2 + 3) r _ (p + 4) i = gx (p + 4) i; exact z_u2 (by omega)
        · show z_up gx (p + 2 + 3) r _ (p + 5) i = _
          by_cases ci : i = r
          · rw [if_pos ci, ci]; exact z_u1
          · rw [if_neg ci]; exact z_u2 (Or.inr ci)
      refine ⟨fun z => absurd z (by omega), fun _ => ⟨by omega, by omega, by rw [z3]; omega, hP 1 _ (Or.inr rfl) (by rw [z_u2 (by omega), z_u2 (by omega)]) ?_ fun gw hgw Q hq => ?_⟩⟩
      · obtain ⟨a1, a2⟩ := step gm (z_up gm 1 (10 + 3 * r + 2) (gm 1 (10 + 3 * r + 2) + w)) h (fun i => by
          by_cases ci : i = 10 + 3 * r + 2
          · rw [if_pos ci, ci, z_u1]
          · rw [if_neg ci, z_u2 (Or.inr ci)]) (fun c i c1 c2 => z_u2 (by omega))
        obtain ⟨f1, f2⟩ := a1.cnt hop a2 (k := 2) (by omega)
        exact ⟨_, f1, f2⟩
      · obtain ⟨s1, s2, s3, s4⟩ := sm gw hgw
        have hrw : pAt gw (gm 1 2) (gm 1 3) r := hr.tr hpI s3
        have ww : gw 1 (10 + 3 * r + 2) = gm 1 (10 + 3 * r + 2) := (s3.2.2.2.1 r r0 (by omega)).2.2.1.symm.trans hwt.2.2.1
        rw [s1, s2]
        refine s_M_pins hm s3 (by omega) (by omega) hw (fun hr' _ => ?_) (fun k k1 k2 hr' k3 => ?_) (fun hr' _ => ?_) (fun k k1 k2 hr' k3 gm2 m1 m2 m3 => ?_)
        · rw [e1, e2] at hr'
          have := pAt.eq s3 hrw hr'; omega
        · rw [e1, e2] at hr'
          have := pAt.eq s3 hrw hr'; subst this; omega
        · rw [e1, e2] at hr'
          have := pAt.eq s3 hrw hr'; omega
        · rw [e1, e2] at hr'
          have := pAt.eq s3 hrw hr'
          subst this
          rw [ww] at m2
          obtain ⟨a1, a2⟩ := step gw gm2 hgw m2 m3
          obtain ⟨f1, f2⟩ := a1.cnt hop a2 (k := 2) (by omega)
          have c2 := a1.2.2.2.2.1
          exact ⟨fun _ => ⟨by omega, hq _ f1 f2⟩, fun z => absurd rfl z⟩
    · obtain ⟨s1, s2, s3, s4⟩ := sm gw hgw
      have hrw : pAt gw (gm 1 2) (gm 1 3) r := hr.tr hpI s3
      have ww : gw 1 (10 + 3 * r + 2) = gm 1 (10 + 3 * r + 2) := (s3.2.2.2.1 r r0 (by omega)).2.2.1.symm.trans hwt.2.2.1
      rw [s1, s2]
      refine s_M_pins hm s3 (by omega) (by omega) hw (fun hr' _ => ?_) (fun k k1 k2 hr' k3 => ?_) (fun hr' _ => ?_) (fun k k1 k2 hr' k3 gm2 m1 m2 m3 => ?_)
      · rw [e1, e2] at hr'
        have := pAt.eq s3 hrw hr'; omega
      · exact ⟨fun z => absurd z (by omega), fun _ => hq gw (hgw.le (by omega) (by omega)) ⟨fun _ => rfl, fun _ => rfl, rfl⟩⟩
      · rw [e1, e2] at hr'
        have := pAt.eq s3 hrw hr'; omega
      · rw [e1, e2] at hr'
        have := pAt.eq s3 hrw hr'; subst this; omega
  · have hr0 : r = -1 := by
      rcases hr with ⟨a, -⟩ | ⟨a, -, -, -⟩ <;> omega
    subst hr0
    refine ⟨fun q9 => ⟨fun _ => b_Pi_add_0 (o := p + 2) (ky_Bd_2 hp) (s_findB hp hpI fun r2 hr2 => ?_), fun e => absurd rfl e⟩, fun q9 => ⟨fun e => absurd e (by omega), fun _ => hP 0 gx (Or.inl rfl) rfl ⟨gm, h.le (by omega) (by omega), fun _ => rfl, fun _ => rfl, rfl⟩ fun gw hgw Q hq => ?_⟩⟩
    · have e := pAt.eq hpI hr hr2
      subst e
      have z3 : ∀ a b c d : Int, z_up (z_up (z_up (z_up gx (p + 2 + 1) (gx (p + 2) 3) a) (p + 2 + 2) (gx (p + 2) 3) b) (p + 2 + 3) (gx (p + 2) 3) c) (p + 2) 3 d o 3 = gx o 3 := fun a b c d => by rw [z_u2 (by omega), z_u2 (by omega), z_u2 (by omega), z_u2 (by omega)]
      refine ⟨fun _ => ⟨fun z => absurd z (by omega), fun h12 => ?_⟩, fun z => absurd (by omega) z⟩
      have step : ∀ gw gm2 : z_G, tR gx0 gm0 gx gw o p b bm → gm2 1 4 = gm 1 4 + 1 → gm2 1 (10 + 3 * gm 1 4) = gm 1 2 → gm2 1 (10 + 3 * gm 1 4 + 1) = gm 1 3 → gm2 1 (10 + 3 * gm 1 4 + 2) = w → (∀ i : Int, 10 ≤ i → i < 10 + 3 * gm 1 4 → gm2 1 i = gw 1 i) → (∀ c i, ¬ (c = 1 ∧ (i = 4 ∨ (10 ≤ i ∧ i < 46))) → ¬ (c = 0 ∧ i = 28) → gm2 c i = gw c i) → tR gx0 gm0 (z_up (z_up (z_up (z_up gx (p + 2 + 1) (gx (p + 2) 3) (gm 1 2)) (p + 2 + 2) (gx (p + 2) 3) (gm 1 3)) (p + 2 + 3) (gx (p + 2) 3) w) (p + 2) 3 (gx (p + 2) 3 + 1)) gm2 o p b bm ∧ tF gx (z_up (z_up (z_up (z_up gx (p + 2 + 1) (gx (p + 2) 3) (gm 1 2)) (p + 2 + 2) (gx (p + 2) 3) (gm 1 3)) (p + 2 + 3) (gx (p + 2) 3) w) (p + 2) 3 (gx (p + 2) 3 + 1)) gw gm2 o := by
        intro gw gm2 hgw m2 m3 m4 m5 m6 m7
        obtain ⟨s1, s2, s3, s4⟩ := sm gw hgw
        rw [← s4] at m2 m3 m4 m5 m6
        refine hgw.pins hop (fun c i hc => by rw [z_u2 (by omega), z_u2 (by omega), z_u2 (by omega), z_u2 (by omega)]) (fun c i c1 c2 => m7 c i c1 c2) (s3.add (w := w) hv (by omega) (by omega) (hr.tr hpI s3) ?_ (fun i => ?_) (fun i => ?_) (fun i => ?_) m2 m3 m4 m5 m6)
        · show z_up _ (p + 2) 3 _ (p + 2) 3 = _
          rw [z_u1, q3, s4]
        · show z_up (z_up (z_up (z_up gx (p + 3) (gx (p + 2) 3) (gm 1 2)) (p + 4) (gx (p + 2) 3) (gm 1 3)) (p + 5) (gx (p + 2) 3) w) (p + 2) 3 (gx (p + 2) 3 + 1) (p + 3) i = if i = gw 1 4 then gm 1 2 else gx (p + 3) i
          rw [z_u2 (by omega), z_u2 (by omega), z_u2 (by omega), q3, s4]
          by_cases ci : i = gm 1 4
          · rw [if_pos ci, ci]; exact z_u1
          · rw [if_neg ci]; exact z_u2 (Or.inr ci)
        · show z_up (z_up (z_up (z_up gx (p + 3) (gx (p + 2) 3) (gm 1 2)) (p + 4) (gx (p + 2) 3) (gm 1 3)) (p + 5) (gx (p + 2) 3) w) (p + 2) 3 (gx (p + 2) 3 + 1) (p + 4) i = if i = gw 1 4 then gm 1 3 else gx (p + 4) i
          rw [z_u2 (by omega), z_u2 (by omega), q3, s4]
          by_cases ci : i = gm 1 4
          · rw [if_pos ci, ci]; exact z_u1
          · rw [if_neg ci, z_u2 (Or.inr ci)]; exact z_u2 (by omega)
        · show z_up (z_up (z_up (z_up gx (p + 3) (gx (p + 2) 3) (gm 1 2)) (p + 4) (gx (p + 2) 3) (gm 1 3)) (p + 5) (gx (p + 2) 3) w) (p + 2) 3 (gx (p + 2) 3 + 1) (p + 5) i = if i = gw 1 4 then w else gx (p + 5) i
          rw [z_u2 (by omega), q3, s4]
          by_cases ci : i = gm 1 4
          · rw [if_pos ci, ci]; exact z_u1
          · rw [if_neg ci, z_u2 (Or.inr ci), z_u2 (by omega)]; exact z_u2 (by omega)
      refine ⟨by omega, by omega, by rw [z3]; omega, hP 1 _ (Or.inr rfl) (by rw [z_u2 (by omega), z_u2 (by omega), z_u2 (by omega), z_u2 (by omega), z_u2 (by omega)]) ?_ fun gw hgw Q hq => ?_⟩
      · obtain ⟨a1, a2⟩ := step gm (z_up (z_up (z_up (z_up gm 1 4 (gm 1 4 + 1)) 1 (10 + 3 * gm 1 4) (gm 1 2)) 1 (10 + 3 * gm 1 4 + 1) (gm 1 3)) 1 (10 + 3 * gm 1 4 + 2) w) h (by rw [z_u2 (by omega), z_u2 (by omega), z_u2 (by omega), z_u1]) (by rw [z_u2 (by omega), z_u2 (by omega), z_u1]) (by rw [z_u2 (by omega), z_u1]) z_u1 (fun i i1 i2 => by rw [z_u2 (by omega), z_u2 (by omega), z_u2 (by omega), z_u2 (by omega)]) (fun c i c1 c2 => by rw [z_u2 (by omega), z_u2 (by omega), z_u2 (by omega), z_u2 (by omega)])
        obtain ⟨f1, f2⟩ := a1.cnt hop a2 (k := 2) (by omega)
        exact ⟨_, f1, f2⟩
      · obtain ⟨s1, s2, s3, s4⟩ := sm gw hgw
        have hrw : pAt gw (gm 1 2) (gm 1 3) (-1) := hr.tr hpI s3
        rw [s1, s2]
        refine s_M_pins hm s3 (by omega) (by omega) hw (fun hr' _ => ?_) (fun k k1 k2 hr' k3 => ?_) (fun hr' h12 gm2 m1 m2 m3 m4 m5 m6 m7 => ?_) (fun k k1 k2 hr' k3 gm2 m1 m2 m3 => ?_)
        · omega
        · rw [e1, e2] at hr'
          have := pAt.eq s3 hrw hr'; omega
        · rw [e1] at m3
          rw [e2] at m4
          rw [s4] at m2 m3 m4 m5 m6
          obtain ⟨a1, a2⟩ := step gw gm2 hgw m2 m3 m4 m5 m6 m7
          obtain ⟨f1, f2⟩ := a1.cnt hop a2 (k := 2) (by omega)
          have c2 := a1.2.2.2.2.1
          exact ⟨fun _ => ⟨by omega, hq _ f1 f2⟩, fun z => absurd rfl z⟩
        · rw [e1, e2] at hr'
          have := pAt.eq s3 hrw hr'; omega
    · obtain ⟨s1, s2, s3, s4⟩ := sm gw hgw
      have hrw : pAt gw (gm 1 2) (gm 1 3) (-1) := hr.tr hpI s3
      rw [s1, s2]
      refine s_M_pins hm s3 (by omega) (by omega) hw (fun hr' _ => ?_) (fun k k1 k2 hr' k3 => ?_) (fun hr' _ => ?_) (fun k k1 k2 hr' k3 gm2 m1 m2 m3 => ?_)
      · exact ⟨fun z => absurd z (by omega), fun _ => hq gw (hgw.le (by omega) (by omega)) ⟨fun _ => rfl, fun _ => rfl, rfl⟩⟩
      · rw [e1, e2] at hr'
        have := pAt.eq s3 hrw hr'; omega
      · omega
      · rw [e1, e2] at hr'
        have := pAt.eq s3 hrw hr'; omega
theorem t_lifts (ho : z_lay X N σ o z_SWk z_RWk) (hp : z_lay X N σ p z_SBd z_RBd) (hm : z_lay Y K τ 0 z_SM z_RM) (hop : p + 13 < o) (h : tR gx0 gm0 gx gm o p b bm) (hb : b ≤ 300) (hP : ∀ r gx', (r = 0 ∨ r = 1) → gx' o 1 = gx o 1 → (∃ gm', tR gx0 gm0 gx' gm' o p (b + 1) bm ∧ tF gx gx' gm gm' o) → (∀ gw, tR gx0 gm0 gx gw o p b bm → ∀ Q : z_P, (∀ gm', tR gx0 gm0 gx' gm' o p (b + 1) bm → tF gx gx' gw gm' o → Q r gm') → z_O Y 3 m_M_lifts [(2, 0), (0, gw 1 2), (0, gw 1 3)] K τ gw (fun r11 g11 => (((r11 = (-1)) → Q 0 g11) ∧ (¬ (r11 = (-1)) → ((-2147483648 ≤ ((g11 16 3) + 1) ∧ ((g11 16 3) + 1) ≤ 2147483647) ∧ Q 1 (z_up g11 16 3 ((g11 16 3) + 1))))))) → P r gx') : z_O X 3 m_Wk_lifts [(2, ((o : Nat) : Int)), (2, ((p : Nat) : Int))] N σ gx P := by
  obtain ⟨w0, w1, w2, w3, w4⟩ := h.1.bW
  have hl := n_sp_lt w0
  have hg : Int.gcd (gm 1 2) (gm 1 3) = 1 := n_sp_gcd w0 w1 w2
  have e1 : gm 1 2 / (Int.gcd (gm 1 2) (gm 1 3) : Int) = gm 1 2 := by rw [hg]; simp
  have e2 : gm 1 3 / (Int.gcd (gm 1 2) (gm 1 3) : Int) = gm 1 3 := by rw [hg]; simp
  have hpI : pI (sh p gx) gm := pI_sh.mp h.1.2.2.1
  have q3 : gx (p + 2) 3 = gm 1 4 := hpI.1
  have q5 := hpI.2.2.1
  have c16 := h.2.2.2.2.2.1
  have sm : ∀ gw, tR gx0 gm0 gx gw o p b bm → gw 1 2 = gm 1 2 ∧ gw 1 3 = gm 1 3 ∧ pI (sh p gx) gw ∧ gw 1 4 = gm 1 4 := fun gw hgw => by
    obtain ⟨v0, v1, v2, v3, v4⟩ := hgw.1.bW
    have hpw : pI (sh p gx) gw := pI_sh.mp hgw.1.2.2.1
    have z : gx (p + 2) 3 = gw 1 4 := hpw.1
    exact ⟨v1.symm.trans w1, v2.symm.trans w2, hpw, by omega⟩
  refine b_Wk_lifts_0 ho hp (b_Bd_pinHere_0 hp ?_)
  rw [w1, w2]
  refine ⟨by omega, by omega, s_findB hp hpI fun r hr => ⟨fun r0 => ?_, fun r0 => ?_⟩⟩
  · have hr0 : r < gm 1 4 := by
      rcases hr with ⟨a, -⟩ | ⟨-, a, -, -⟩ <;> omega
    refine s_Pi_drop (o := p + 2) (ky_Bd_2 hp) (by omega) ⟨r0, by omega⟩ fun g1 d1 d2 d3 => ?_
    have z4 : g1 o 4 = gx o 4 := d3 _ _ (by omega) (by omega)
    have step : ∀ gw gm2 : z_G, tR gx0 gm0 gx gw o p b bm → gm2 1 4 = gw 1 4 - 1 → (∀ i : Int, 10 ≤ i → i < 10 + 3 * (gw 1 4 - 1) → gm2 1 i = gw 1 (if i < 10 + 3 * r then i else i + 3)) → (∀ c i, ¬ (c = 1 ∧ (i = 4 ∨ (10 ≤ i ∧ i < 46))) → gm2 c i = gw c i) → tR gx0 gm0 g1 gm2 o p b bm ∧ tF gx g1 gw gm2 o := by
      intro gw gm2 hgw m0 m1 m2
      obtain ⟨s1, s2, s3, s4⟩ := sm gw hgw
      refine hgw.pins hop (fun c i hc => d3 c i (by omega) (by omega)) (fun c i c1 c2 => m2 c i c1) (s3.lift (k := r) ⟨r0, by omega⟩ ?_ (fun j j1 j2 i hi => ?_) m0 m1)
      · show g1 (p + 2) 3 = _
        rw [d1, q3, s4]
      · unfold sh
        rw [show p + (25 + j - 23) = p + 2 + j by omega]
        exact d2 j j1 j2 i (by omega)
    refine ⟨by omega, hP 1 _ (Or.inr rfl) (by rw [z_u2 (by omega), d3 _ _ (by omega) (by omega)]) ?_ fun gw hgw Q hq => ?_⟩
    · obtain ⟨a1, a2⟩ := step gm (fun c i => if c = 1 ∧ i = 4 then gm 1 4 - 1 else if c = 1 ∧ 10 + 3 * r ≤ i ∧ i < 10 + 3 * (gm 1 4 - 1) then gm 1 (i + 3) else gm c i) h (if_pos ⟨rfl, rfl⟩) (fun i i1 i2 => by
          rw [if_neg (by omega)]
          by_cases ci : i < 10 + 3 * r
          · rw [if_neg (by omega), if_pos ci]
          · rw [if_pos (by omega), if_neg ci]) (fun c i hc => by
          rw [if_neg (by omega), if_neg (by omega)])
      obtain ⟨f1, f2⟩ := a1.cnt hop a2 (k := 3) (by omega)
      exact ⟨_, f1, f2⟩
    · obtain ⟨s1, s2, s3, s4⟩ := sm gw hgw
      have hrw : pAt gw (gm 1 2) (gm 1 3) r := hr.tr hpI s3
      rw [s1, s2]
      refine s_M_lifts hm s3 (by omega) (by omega) (fun hr' => ?_) (fun k k1 k2 hr' gm2 m0 m1 m2 => ?_)
      · rw [e1, e2] at hr'
        have := pAt.eq s3 hrw hr'; omega
      · rw [e1, e2] at hr'
        have := pAt.eq s3 hrw hr'
        subst this
        have hwt := s3.2.2.2.1 r r0 (by omega)
        obtain ⟨a1, a2⟩ := step gw gm2 hgw m0 m1 m2
        obtain ⟨f1, f2⟩ := a1.cnt hop a2 (k := 3) (by omega)
        have c2 := a1.2.2.2.2.2.1
        exact ⟨fun z => by exfalso; omega, fun _ => ⟨by omega, hq _ f1 f2⟩⟩
  · have hr0 : r = -1 := by
      rcases hr with ⟨a, -⟩ | ⟨a, -, -, -⟩ <;> omega
    subst hr0
    refine hP 0 gx (Or.inl rfl) rfl ⟨gm, h.le (by omega) (by omega), fun _ => rfl, fun _ => rfl, rfl⟩ fun gw hgw Q hq => ?_
    obtain ⟨s1, s2, s3, s4⟩ := sm gw hgw
    have hrw : pAt gw (gm 1 2) (gm 1 3) (-1) := hr.tr hpI s3
    rw [s1, s2]
    refine s_M_lifts hm s3 (by omega) (by omega) (fun hr' => ⟨fun _ => hq gw (hgw.le (by omega) (by omega)) ⟨fun _ => rfl, fun _ => rfl, rfl⟩, fun z => absurd rfl z⟩) (fun k k1 k2 hr' gm2 m0 m1 m2 => ?_)
    rw [e1, e2] at hr'
    have := pAt.eq s3 hrw hr'; omega
theorem t_draw (ho : z_lay X N σ o z_SWk z_RWk) (hm : z_lay Y K τ 0 z_SM z_RM) (hop : p + 13 < o) (h : tR gx0 gm0 gx gm o p b bm) {a : Int} (ha : 1 ≤ a) (hP : ∀ r gx', 0 ≤ r → r < a → gx' o 1 = gx o 1 → (∀ gw, tR gx0 gm0 gx gw o p b bm → ∃ gm', tR gx0 gm0 gx' gm' o p b bm ∧ tF gx gx' gw gm' o ∧ ∀ Q : z_P, Q r gm' → z_O Y 1 m_M_draw [(2, 0), (0, a)] K τ gw Q) → P r gx') : z_O X 1 m_Wk_draw [(2, ((o : Nat) : Int)), (0, a)] N σ gx P := by
  obtain ⟨-, -, -, -, -, -, -, h8, -, -⟩ := id h
  refine b_Wk_draw_0 ho ?_
  have e : Int.tmod (gx o 6 * 3301 + 11533) 65536 = (gx o 6 * 3301 + 11533) % 65536 := n_tm (by omega)
  have s0 : 0 ≤ (gx o 6 * 3301 + 11533) % 65536 := by omega
  have s1 : (gx o 6 * 3301 + 11533) % 65536 < 65536 := by omega
  rw [e]
  refine ⟨by omega, by omega, fun _ => ⟨by omega, ?_⟩, fun z => absurd ha z⟩
  refine hP _ _ ?_ ?_ (z_u2 (by omega)) fun gw hgw => ?_
  · rw [n_td s0, n_tm (by omega)]; exact Int.emod_nonneg _ (by omega)
  · rw [n_td s0, n_tm (by omega)]; exact Int.emod_lt_of_pos _ (by omega)
  obtain ⟨h1, h2, h3, h4, h5, h6, h7, h8, h9, h10⟩ := id hgw
  refine ⟨z_up gw 0 35 ((gx o 6 * 3301 + 11533) % 65536), hgw.wk hop (fun c i c1 c2 => z_u2 (by omega)) (fun c i c1 c2 c3 => z_u2 (by omega)) ?_ ?_ ?_ ?_ ?_ ?_ ?_, ⟨fun i => z_u2 (by omega), fun i => z_u2 (by omega), z_u2 (by omega)⟩, fun Q hq => b_M_draw_0 hm ?_⟩
  · rw [z_u2 (by omega), z_u2 (by omega)]; exact h2
  · rw [z_u2 (by omega), z_u2 (by omega)]; exact h3
  · rw [z_u2 (by omega), z_u2 (by omega)]; exact h4
  · rw [z_u2 (by omega), z_u2 (by omega)]; exact h5
  · rw [z_u2 (by omega), z_u2 (by omega)]; exact h6
  · rw [z_u2 (by omega), z_u2 (by omega)]; exact h7
  · rw [z_u1, z_u1]; exact ⟨rfl, s0, s1⟩
  · rw [← h8.1, e]; exact ⟨by omega, by omega, by omega, hq⟩
end Tour

/-! ## lift, pin -/
theorem iV.c {fx fx' : Nat → Int → Int} {fm fm' : Int → Int} (hV : iV fx fm) (hx : ∀ j i, 6 ≤ j → j ≤ 7 → fx' j i = fx j i) (hm : ∀ i, i = 5 ∨ (46 ≤ i ∧ i < 246) → fm' i = fm i) : iV fx' fm' := by
  unfold iV at hV ⊢
  rw [hx 6 1 (by omega) (by omega), hm 5 (by omega)]
  obtain ⟨p1, p2, p3, p4, p5, p6, p7⟩ := hV
  refine ⟨p1, p2, p3, fun i j h1 h2 h3 => ?_, fun i h1 h2 => ?_, fun i h1 h2 => ?_, fun i j h1 h2 h3 => ?_⟩
  · rw [hx 7 i (by omega) (by omega), hx 7 j (by omega) (by omega)]; exact p4 i j h1 h2 h3
  · obtain ⟨j, q1, q2, q3⟩ := p5 i h1 h2
    exact ⟨j, q1, q2, by rw [hx 7 j (by omega) (by omega), hm _ (by omega)]; exact q3⟩
  · obtain ⟨j, q1, q2, q3⟩ := p6 i h1 h2
    exact ⟨j, q1, q2, by rw [hx 7 i (by omega) (by omega), hm _ (by omega)]; exact q3⟩
  · rw [hm _ (by omega), hm _ (by omega)]; exact p7 i j h1 h2 h3
theorem Inv_pins {gx gm gx' gm' : z_G} (I : Inv gx gm) (hx : ∀ c i, xK c i → ¬ (25 ≤ c ∧ c ≤ 28) → gx' c i = gx c i) (hm : ∀ c i, yK c i → ¬ (c = 1 ∧ (i = 4 ∨ (10 ≤ i ∧ i < 46))) → gm' c i = gm c i) (hc : mC gm') (hp : pI gx' gm') (s : Int) : Inv (z_up gx' 0 0 s) (z_up gm' 0 1 s) := by
  obtain ⟨hO, hW, hP, hV, hG⟩ := I.2.2.2.1.2.2.2.2.2.2.1
  refine I.board (fun c i hk hn => hx c i hk (by omega)) (fun c i hk hn => hm c i hk (by omega)) hc ⟨?_, ?_, pI_iff.mpr hp, ?_, ?_⟩ s
  · exact hO.c (fun i => hx _ _ (by unfold xK; omega) (by omega)) (fun i i1 i2 => hm _ _ (by unfold yK; omega) (by omega))
  · exact hW.c (fun i => hx _ _ (by unfold xK; omega) (by omega)) (fun i i1 i2 => hm _ _ (by unfold yK; omega) (by omega))
  · exact hV.c (fun j i j1 j2 => hx _ _ (by unfold xK; omega) (by omega)) (fun i i1 => hm _ _ (by unfold yK; omega) (by omega))
  · exact hG.c (fun j i j1 j2 => hx _ _ (by unfold xK; omega) (by omega)) (fun i i1 => hm _ _ (by unfold yK; omega) (by omega))
theorem pI.lift {gx gm gx' gm' : z_G} {k : Int} (h : pI gx gm) (hk : 0 ≤ k ∧ k < gm 1 4) (hx0 : gx' 25 3 = gm 1 4 - 1) (hx : ∀ j : Nat, 1 ≤ j → j ≤ 3 → ∀ i : Int, i < gm 1 4 - 1 → gx' (25 + j) i = gx (25 + j) (if i < k then i else i + 1)) (hm0 : gm' 1 4 = gm 1 4 - 1) (hm : ∀ i : Int, 10 ≤ i → i < 10 + 3 * (gm 1 4 - 1) → gm' 1 i = gm 1 (if i < 10 + 3 * k then i else i + 3)) : pI gx' gm' := by
  obtain ⟨p1, p2, p3, p4, p5⟩ := h
  have f : ∀ q : Int, 0 ≤ q → q < gm 1 4 - 1 → ∃ q' : Int, q' = (if q < k then q else q + 1) ∧ 0 ≤ q' ∧ q' < gm 1 4 ∧ gx' 26 q = gx 26 q' ∧ gx' 27 q = gx 27 q' ∧ gx' 28 q = gx 28 q' ∧ gm' 1 (10 + 3 * q) = gm 1 (10 + 3 * q') ∧ gm' 1 (10 + 3 * q + 1) = gm 1 (10 + 3 * q' + 1) ∧ gm' 1 (10 + 3 * q + 2) = gm 1 (10 + 3 * q' + 2) := by
    intro q q1 q2
    refine ⟨_, rfl, ?_⟩
    have x1 := hx 1 (by omega) (by omega) q q2
    have x2 := hx 2 (by omega) (by omega) q q2
    have x3 := hx 3 (by omega) (by omega) q q2
    have y1 := hm (10 + 3 * q) (by omega) (by omega)
    have y2 := hm (10 + 3 * q + 1) (by omega) (by omega)
    have y3 := hm (10 + 3 * q + 2) (by omega) (by omega)
    by_cases c : q < k
    · rw [if_pos c] at x1 x2 x3
      rw [if_pos (by omega)] at y1 y2 y3
      rw [if_pos c]
      exact ⟨q1, by omega, x1, x2, x3, y1, y2, y3⟩
    · rw [if_neg c] at x1 x2 x3
      rw [if_neg (by omega)] at y1 y2 y3
      rw [if_neg c]
      refine ⟨by omega, by omega, x1, x2, x3, ?_, ?_, ?_⟩
      · rw [y1]; congr 1; omega
      · rw [y2]; congr 1; omega
      · rw [y3]; congr 1; omega
  refine ⟨by rw [hx0, hm0], by omega, by omega, fun q q1 q2 => ?_, fun j q j1 j2 j3 => ?_⟩
  · obtain ⟨q', e, e1, e2, e3, e4, e5, e6, e7, e8⟩ := f q q1 (by omega)
    rw [e3, e4, e5, e6, e7, e8]; exact p4 q' e1 e2
  · obtain ⟨q', e, e1, e2, e3, e4, e5, e6, e7, e8⟩ := f q (by omega) (by omega)
    obtain ⟨j', u, u1, u2, u3, u4, u5, u6, u7, u8⟩ := f j j1 (by omega)
    rw [e6, e7, u6, u7]
    refine p5 j' q' u1 ?_ e2
    rw [u, e]
    split <;> split <;> omega
theorem o_lift {X Y : z_X} {N K : Nat} {σ τ gx gm : z_G} (hx : z_lay X N σ 0 z_SF z_RF) (hm : z_lay Y K τ 0 z_SM z_RM) (I : Inv gx gm) {a1 a2 : Int} (r1 : -2147483648 ≤ a1 ∧ a1 ≤ 2147483647) (r2 : -2147483648 ≤ a2 ∧ a2 ≤ 2147483647) : z_O X 4 m_F_lift [(2, 0), (0, a1), (0, a2)] N σ gx (fun r gx' => z_O Y 4 m_M_lift [(2, 0), (0, a1), (0, a2)] K τ gm (fun r' gm' => r' = r ∧ Inv gx' gm')) := by
  refine b_F_lift_0 hx (s_Ch_take (ky_F_18 hx) (fun q => ?_) (fun q g' hc hf => ?_))
  · refine fun _ => ⟨fun _ => b_M_lift_0 hm ?_, fun e => absurd rfl e⟩
    repeat' (first | refine And.intro (by omega) ?_ | refine And.intro (fun _ => ?_) (fun q => absurd (by omega) q) | refine And.intro (fun q => absurd q (by omega)) (fun _ => ?_) | refine And.intro (fun _ => ?_) (fun _ => ?_) | refine And.intro (fun q => absurd q (by omega)) ?_ | refine And.intro (fun _ => ?_) ?_ | with_reducible intro _)
    all_goals first | exact I.fin xA.rf yA.rf I.2.2.2.2 1 | (exfalso; omega)
  · refine fun _ => ⟨fun e => absurd e (by omega), fun _ => ?_⟩
    rw [show g' 18 3 = a1 / Int.gcd a1 a2 from hc.2.2.2.2.1, show g' 18 4 = a2 / Int.gcd a1 a2 from hc.2.2.2.2.2.1]
    have hn := I.pI.2.2.1
    have e25 : g' 25 3 = gm 1 4 := by rw [hf 25 3 (by omega) (by omega)]; exact I.pI.1
    refine s_F_findPin hx I.pI hf fun r hr => ⟨fun r0 => ?_, fun r0 => b_M_lift_0 hm ?_⟩
    · have hr0 : r < gm 1 4 := by
        rcases hr with ⟨a, -⟩ | ⟨-, a, -, -⟩ <;> omega
      refine s_Pi_drop (o := 25) (ky_F_25 hx) (by omega) (by omega) fun g2 d1 d2 d3 => b_M_lift_0 hm ?_
      repeat' (first | refine And.intro (by omega) ?_ | refine And.intro (fun _ => ?_) (fun q => absurd (by omega) q) | refine And.intro (fun q => absurd q (by omega)) (fun _ => ?_) | refine And.intro (fun _ => ?_) (fun _ => ?_) | refine And.intro (fun q => absurd q (by omega)) ?_ | refine And.intro (fun _ => ?_) ?_ | with_reducible intro _)
      refine s_M_lifts hm I.pI (by omega) (by omega) (fun hr' => ?_) (fun k k1 k2 hr' gm2 m1 m2 m3 => ?_)
      · have := pAt.eq I.pI hr hr'; omega
      · have e := pAt.eq I.pI hr hr'
        subst e
        have hw := I.pI.2.2.2.1 r r0 hr0
        have e28 : g' (25 + 3) r = gm 1 (10 + 3 * r + 2) := by rw [hf _ _ (by omega) (by omega)]; exact hw.2.2.1
        refine ⟨fun e => absurd e (by omega), fun _ => ⟨e28.symm, Inv_pins I (fun c i hk hn => ?_) (fun c i hk hn => m3 c i hn) ?_ ?_ 0⟩⟩
        · rw [d3 c i (by omega) (by omega), xA.ch hf c i hk]
        · exact (I.2.2.2.2).congr (fun i => m3 8 i (by omega)) (fun i => m3 9 i (by omega)) (m3 0 24 (by omega)) (m3 0 25 (by omega))
        · refine I.pI.lift (k := r) ⟨r0, hr0⟩ (by rw [d1, e25]) (fun j j1 j2 i i1 => ?_) m1 m2
          rw [d2 j j1 j2 i (by omega), hf _ _ (by omega) (by omega)]
    · repeat' (first | refine And.intro (by omega) ?_ | refine And.intro (fun _ => ?_) (fun q => absurd (by omega) q) | refine And.intro (fun q => absurd q (by omega)) (fun _ => ?_) | refine And.intro (fun _ => ?_) (fun _ => ?_) | refine And.intro (fun q => absurd q (by omega)) ?_ | refine And.intro (fun _ => ?_) ?_ | with_reducible intro _)
      have hr0 : r = -1 := by
        rcases hr with ⟨a, -⟩ | ⟨a, -, -, -⟩ <;> omega
      refine s_M_lifts hm I.pI (by omega) (by omega) (fun hr' => ?_) (fun k k1 k2 hr' gm2 m1 m2 m3 => ?_)
      · exact ⟨fun _ => ⟨rfl, I.fin (xA.ch hf) yA.rf I.2.2.2.2 6⟩, fun p => absurd rfl p⟩
      · have := pAt.eq I.pI hr hr'; omega

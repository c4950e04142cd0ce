/-! ## TOURS: a step -/
section Tour
variable {X Y : z_X} {N K : Nat} {σ τ gx0 gm0 gx gm : z_G} {o p : Nat} {b bm : Int} {P : z_P}
/-- what moves() makes of a move -/
theorem t_mv (hop : p + 13 < o) (hb : b ≤ 300) {r : Int} {gx' : z_G} {run : z_G → z_P → Prop} (hr : r = 0 ∨ r = 1) (hex : ∃ gm', tR gx0 gm0 gx' gm' o p b bm ∧ tF gx gx' gm gm' o) (hM : ∀ gw, tR gx0 gm0 gx gw o p b bm → ∀ Q : z_P, (∀ gm', tR gx0 gm0 gx' gm' o p b bm → tF gx gx' gw gm' o → Q r gm') → run gw Q) (c1 : gx' o 1 = gx o 1)
    (hP : ∀ gx'', gx'' o 1 = gx o 1 → (∃ gm', tR gx0 gm0 gx'' gm' o p (b + 1) bm ∧ tF gx gx'' gm gm' o) → (∀ gw, tR gx0 gm0 gx gw o p b bm → ∀ Q : z_P, (∀ gm', tR gx0 gm0 gx'' gm' o p (b + 1) bm → tF gx gx'' gw gm' o → Q r gm') → run gw (fun r1 g1 => (r1 = 0 ∨ r1 = 1) → (((r1 = 0) → ((r1 = 0 ∨ r1 = 1) ∧ Q r1 g1)) ∧ (¬ (r1 = 0) → ((-2147483648 ≤ ((g1 16 1) + 1) ∧ ((g1 16 1) + 1) ≤ 2147483647) ∧ ((r1 = 0 ∨ r1 = 1) ∧ Q r1 (z_up g1 16 1 ((g1 16 1) + 1)))))))) → P r gx'') : (r = 0 ∨ r = 1) → (((r = 0) → ((r = 0 ∨ r = 1) ∧ P r gx')) ∧ (¬ (r = 0) → ((-2147483648 ≤ ((gx' o 2) + 1) ∧ ((gx' o 2) + 1) ≤ 2147483647) ∧ ((r = 0 ∨ r = 1) ∧ P r (z_up gx' o 2 ((gx' o 2) + 1)))))) := by
  intro _
  obtain ⟨ge, he1, he2⟩ := hex
  have c2 := he1.2.2.2.1
  refine ⟨fun e => ⟨hr, hP gx' c1 ⟨ge, he1.le (by omega) (by omega), he2⟩ fun gw hgw Q hq => hM gw hgw _ fun gm' h1 h2 _ => ⟨fun _ => ⟨hr, hq gm' (h1.le (by omega) (by omega)) h2⟩, fun z => absurd e z⟩⟩, fun e => ⟨by omega, hr, hP _ (by rw [z_u2 (by omega)]; exact c1) ?_ fun gw hgw Q hq => hM gw hgw _ fun gm' h1 h2 _ => ⟨fun z => absurd z e, fun _ => ?_⟩⟩⟩
  · obtain ⟨f1, f2⟩ := he1.cnt hop he2 (k := 1) (by omega)
    exact ⟨_, f1, f2⟩
  · obtain ⟨f1, f2⟩ := h1.cnt hop h2 (k := 1) (by omega)
    have c := h1.2.2.2.1
    exact ⟨by omega, hr, hq _ f1 f2⟩
theorem t_any (ho : z_lay X N σ o z_SWk z_RWk) (hp : z_lay X N σ p z_SBd z_RBd) (hm : z_lay Y K τ 0 z_SM z_RM) (hop : p + 13 < o) (h : tR gx0 gm0 gx gm o p b bm) (hb : b ≤ 300) (hP : ∀ r gx', (r = 0 ∨ r = 1) → gx' o 1 = gx o 1 → (∃ gm', tR gx0 gm0 gx' gm' o p (b + 1) bm ∧ tF gx gx' gm gm' o) → (∀ gw, tR gx0 gm0 gx gw o p b bm → ∀ Q : z_P, (∀ gm', tR gx0 gm0 gx' gm' o p (b + 1) bm → tF gx gx' gw gm' o → Q r gm') → z_O Y 4 m_M_doesAny [(2, 0)] K τ gw Q) → P r gx') : z_O X 4 m_Wk_wanders [(2, ((o : Nat) : Int)), (2, ((p : Nat) : Int))] N σ gx P := by
  refine b_Wk_wanders_0 ho hp (t_draw ho hm hop h (by omega) fun r0 gx1 r00 r01 x1 hD1 => ?_)
  obtain ⟨gm1, h1, hF1, -⟩ := hD1 gm h
  refine t_draw ho hm hop h1 (by omega) fun r1 gx2 r10 r11 x2 hD2 => ?_
  obtain ⟨gm2, h2, hF2, -⟩ := hD2 gm1 h1
  have e1 : gx2 p 1 = gm2 1 0 := h2.1.1.2.2.2.1
  have hF := hF1.tr hF2
  have both : ∀ gw, tR gx0 gm0 gx gw o p b bm → ∃ gw2, tR gx0 gm0 gx2 gw2 o p b bm ∧ tF gx gx2 gw gw2 o ∧ gw2 1 0 = gx2 p 1 ∧ ∀ Q : z_P, ((((gw2 1 0) ≤ r1) → z_O Y 3 m_M_goes [(2, 0), (0, r0)] K τ gw2 (fun r2 g2 => (r2 = 0 ∨ r2 = 1) → (((r2 = 0) → ((r2 = 0 ∨ r2 = 1) ∧ Q r2 g2)) ∧ (¬ (r2 = 0) → ((-2147483648 ≤ ((g2 16 1) + 1) ∧ ((g2 16 1) + 1) ≤ 2147483647) ∧ ((r2 = 0 ∨ r2 = 1) ∧ Q r2 (z_up g2 16 1 ((g2 16 1) + 1)))))))) ∧ (¬ ((gw2 1 0) ≤ r1) → z_O Y 3 m_M_goesUp [(2, 0)] K τ gw2 (fun r5 g5 => (r5 = 0 ∨ r5 = 1) → (((r5 = 0) → ((r5 = 0 ∨ r5 = 1) ∧ Q r5 g5)) ∧ (¬ (r5 = 0) → ((-2147483648 ≤ ((g5 16 1) + 1) ∧ ((g5 16 1) + 1) ≤ 2147483647) ∧ ((r5 = 0 ∨ r5 = 1) ∧ Q r5 (z_up g5 16 1 ((g5 16 1) + 1))))))))) → z_O Y 4 m_M_doesAny [(2, 0)] K τ gw Q := by
    intro gw hgw
    obtain ⟨ga, a1, a2, a3⟩ := hD1 gw hgw
    obtain ⟨gb, b1, b2, b3⟩ := hD2 ga a1
    exact ⟨gb, b1, a2.tr b2, (b1.1.1.2.2.2.1 : gx2 p 1 = gb 1 0).symm, fun Q hq => b_M_doesAny_0 hm (a3 _ (b3 _ hq))⟩
  rw [e1]
  refine ⟨fun c => t_goes hp hm hop h2 (by omega) fun r gx' hr hf hex hM => t_mv (run := fun gw Q => z_O Y 3 m_M_goes [(2, 0), (0, r0)] K τ gw Q) hop hb hr hex hM (hf _ _ (by omega)) fun gx'' e hex2 hQ => hP r gx'' hr (by rw [e, x2, x1]) ?_ fun gw hgw Q hq => ?_, fun c => t_up hp hm hop h2 fun r gx' hr hf hex hM => t_mv (run := fun gw Q => z_O Y 3 m_M_goesUp [(2, 0)] K τ gw Q) hop hb hr hex hM (hf _ _ (by omega)) fun gx'' e hex2 hQ => hP r gx'' hr (by rw [e, x2, x1]) ?_ fun gw hgw Q hq => ?_⟩
  · obtain ⟨ge, t1, t2⟩ := hex2
    exact ⟨ge, t1, hF.tr t2⟩
  · obtain ⟨g2, t1, t2, t3, t4⟩ := both gw hgw
    exact t4 Q ⟨fun _ => hQ g2 t1 Q fun gm' u1 u2 => hq gm' u1 (t2.tr u2), fun z => absurd (by omega) z⟩
  · obtain ⟨ge, t1, t2⟩ := hex2
    exact ⟨ge, t1, hF.tr t2⟩
  · obtain ⟨g2, t1, t2, t3, t4⟩ := both gw hgw
    exact t4 Q ⟨fun z => absurd z (by omega), fun _ => hQ g2 t1 Q fun gm' u1 u2 => hq gm' u1 (t2.tr u2)⟩
theorem tR.ord (h : tR gx0 gm0 gx gm o p b bm) (hop : p + 13 < o) {v : Int} (hv : 1 ≤ v ∧ v ≤ 200) : tR gx0 gm0 (z_up gx p 0 v) (z_up gm 1 1 v) o p b bm ∧ tF gx (z_up gx p 0 v) gm (z_up gm 1 1 v) o := by
  obtain ⟨hO, hW, hP, hV, hG⟩ := h.1
  refine h.bd hop (fun c i hc => z_u2 (by omega)) (fun c i hk => z_u2 (by unfold tN at hk; omega)) ⟨?_, ?_, ?_, ?_, ?_⟩
  · obtain ⟨o1, o2, o3, o4, o5, o6⟩ := hO
    have e0 : z_up gx p 0 v (p + 0) 0 = v := z_u1
    have e1 : z_up gx p 0 v (p + 0) 1 = gx p 1 := z_u2 (by omega)
    have m1 : z_up gm 1 1 v 1 (0 + 1) = v := z_u1
    have m0 : z_up gm 1 1 v 1 (0 + 0) = gm 1 0 := z_u2 (by omega)
    refine ⟨?_, ?_, ?_, ?_, ?_, ?_⟩
    · show z_up gx p 0 v (p + 0) 0 = z_up gm 1 1 v 1 (0 + 1); rw [e0, m1]
    · show 1 ≤ z_up gm 1 1 v 1 (0 + 1); rw [m1]; exact hv.1
    · show z_up gm 1 1 v 1 (0 + 1) ≤ 200; rw [m1]; exact hv.2
    · show z_up gx p 0 v (p + 0) 1 = z_up gm 1 1 v 1 (0 + 0); rw [e1, m0]; exact o4
    · show 0 ≤ z_up gm 1 1 v 1 (0 + 0); rw [m0]; exact o5
    · show z_up gm 1 1 v 1 (0 + 0) ≤ 16; rw [m0]; exact o6
  · exact hW.c (fun i => z_u2 (by omega)) (fun i i1 i2 => z_u2 (by omega))
  · exact hP.c (fun j i j1 j2 => z_u2 (by omega)) (fun i i1 => z_u2 (by omega))
  · exact hV.c (fun j i j1 j2 => z_u2 (by omega)) (fun i i1 => z_u2 (by omega))
  · exact hG.c (fun j i j1 j2 => z_u2 (by omega)) (fun i i1 => z_u2 (by omega))
theorem ln_kind {n len : Int} (hl : iLn (fX gx p) (fM gm 0) n len) : (gx (p + 9) n = 0 → gm 1 (246 + 6 * n) = 6) ∧ (gx (p + 9) n = 1 → gm 1 (246 + 6 * n) = 7) ∧ (gx (p + 9) n = 2 → gm 1 (246 + 6 * n) = 8) ∧ (gx (p + 9) n = 3 → gm 1 (246 + 6 * n) = 9) ∧ (gx (p + 9) n = 4 → gm 1 (246 + 6 * n) = 3 ∧ gx (p + 11) n = gm 1 (246 + 6 * n + 1) ∧ 1 ≤ gm 1 (246 + 6 * n + 1) ∧ gm 1 (246 + 6 * n + 1) ≤ 99) ∧ (gx (p + 9) n = 5 → gm 1 (246 + 6 * n) = 10) ∧ (gx (p + 9) n = 6 → gm 1 (246 + 6 * n) = 1 ∧ gx (p + 11) n = gm 1 (246 + 6 * n + 1) ∧ 1 ≤ gm 1 (246 + 6 * n + 1) ∧ gm 1 (246 + 6 * n + 1) ≤ 200) ∧ (gx (p + 9) n = 7 → gm 1 (246 + 6 * n) = 11) ∧ 0 ≤ gx (p + 9) n ∧ gx (p + 9) n ≤ 11 := by
  unfold iLn fX fM at hl
  simp only [Int.zero_add] at hl
  rcases hl with ⟨k1, k2⟩ | ⟨k1, k2⟩ | ⟨k1, k2⟩ | ⟨k1, k2⟩ | ⟨k1, k2, k3, k4, k5⟩ | ⟨k1, k2⟩ | ⟨k1, k2, k3, k4, k5⟩ | ⟨k1, k2⟩ | ⟨k1, -⟩ | ⟨k1, -⟩ | ⟨k1, -⟩ | ⟨k1, -⟩ <;> omega
theorem t_act (ho : z_lay X N σ o z_SWk z_RWk) (hp : z_lay X N σ p z_SBd z_RBd) (hm : z_lay Y K τ 0 z_SM z_RM) (hop : p + 13 < o) (h : tR gx0 gm0 gx gm o p b bm) (hb : b ≤ 300) {n len : Int} (hn : 0 ≤ n ∧ n < 60) (hl : ∀ gw, tR gx0 gm0 gx gw o p b bm → iLn (fX gx p) (fM gw 0) n len) (hk : ¬ (gx (p + 9) n = 8) ∧ ¬ (gx (p + 9) n = 9) ∧ ¬ (gx (p + 9) n = 10) ∧ ¬ (gx (p + 9) n = 11)) (hP : ∀ r gx', (r = 0 ∨ r = 1) → gx' o 1 = gx o 1 → (∃ gm', tR gx0 gm0 gx' gm' o p (b + 1) bm ∧ tF gx gx' gm gm' o) → (∀ gw, tR gx0 gm0 gx gw o p b bm → ∀ Q : z_P, (∀ gm', tR gx0 gm0 gx' gm' o p (b + 1) bm → tF gx gx' gw gm' o → Q r gm') → z_O Y 5 m_M_does [(2, 0), (0, 246 + 6 * n)] K τ gw Q) → P r gx') : z_O X 5 m_Wk_act [(2, ((o : Nat) : Int)), (2, ((p : Nat) : Int)), (0, gx (p + 9) n), (0, gx (p + 11) n)] N σ gx P := by
  obtain ⟨c0, c1, c2, c3, c4, c5, c6, c7, ca, cb⟩ := ln_kind (hl gm h)
  refine b_Wk_act_0 ho hp ⟨fun e => ?_, fun e => ?_, fun e => ?_, fun e => ?_, fun e => ?_, fun e => ?_, fun e => ?_, fun e => ?_⟩
  · refine t_goes hp hm hop h (by omega) fun r gx' hr hf hex hM => t_mv (run := fun gw Q => z_O Y 3 m_M_goes [(2, 0), (0, 0)] K τ gw Q) hop hb hr hex hM (hf _ _ (by omega)) fun gx'' e1 hex2 hQ => hP r gx'' hr e1 hex2 fun gw hgw Q hq => ?_
    have kk := (ln_kind (hl gw hgw)).1 e
    refine b_M_does_0 hm ⟨by omega, ?_, ?_, ?_, ?_, ?_, ?_, ?_, ?_, ?_, ?_, ?_, ?_⟩
    all_goals first | (intro e; exfalso; omega) | exact fun _ => hQ gw hgw Q hq
  · refine t_goes hp hm hop h (by omega) fun r gx' hr hf hex hM => t_mv (run := fun gw Q => z_O Y 3 m_M_goes [(2, 0), (0, 1)] K τ gw Q) hop hb hr hex hM (hf _ _ (by omega)) fun gx'' e1 hex2 hQ => hP r gx'' hr e1 hex2 fun gw hgw Q hq => ?_
    have kk := (ln_kind (hl gw hgw)).2.1 e
    refine b_M_does_0 hm ⟨by omega, ?_, ?_, ?_, ?_, ?_, ?_, ?_, ?_, ?_, ?_, ?_, ?_⟩
    all_goals first | (intro e; exfalso; omega) | exact fun _ => hQ gw hgw Q hq
  · refine t_up hp hm hop h fun r gx' hr hf hex hM => t_mv (run := fun gw Q => z_O Y 3 m_M_goesUp [(2, 0)] K τ gw Q) hop hb hr hex hM (hf _ _ (by omega)) fun gx'' e1 hex2 hQ => hP r gx'' hr e1 hex2 fun gw hgw Q hq => ?_
    have kk := (ln_kind (hl gw hgw)).2.2.1 e
    refine b_M_does_0 hm ⟨by omega, ?_, ?_, ?_, ?_, ?_, ?_, ?_, ?_, ?_, ?_, ?_, ?_⟩
    all_goals first | (intro e; exfalso; omega) | exact fun _ => hQ gw hgw Q hq
  · refine t_flip hp hm hop h fun gx' hf hex hM => hP 1 gx' (Or.inr rfl) (hf _ _ (by omega)) ?_ fun gw hgw Q hq => ?_
    · obtain ⟨ge, t1, t2⟩ := hex
      exact ⟨ge, t1.le (by omega) (by omega), t2⟩
    have kk := (ln_kind (hl gw hgw)).2.2.2.1 e
    refine b_M_does_0 hm ⟨by omega, ?_, ?_, ?_, ?_, ?_, ?_, ?_, ?_, ?_, ?_, ?_, ?_⟩
    all_goals first | (intro e; exfalso; omega) | exact fun _ => hM gw hgw _ fun gm' t1 t2 => hq gm' (t1.le (by omega) (by omega)) t2
  · obtain ⟨-, u1, u2, u3⟩ := c4 e
    rw [u1]
    refine t_pins ho hp hm hop h hb ⟨u2, u3⟩ fun r gx' hr e1 hex hM => fun _ => hP r gx' hr e1 hex fun gw hgw Q hq => ?_
    obtain ⟨kk, v1, v2, v3⟩ := (ln_kind (hl gw hgw)).2.2.2.2.1 e
    have ev : gw 1 (246 + 6 * n + 1) = gm 1 (246 + 6 * n + 1) := v1.symm.trans u1
    refine b_M_does_0 hm ⟨by omega, ?_, ?_, ?_, ?_, ?_, ?_, ?_, ?_, ?_, ?_, ?_, ?_⟩
    all_goals first | (intro e; exfalso; omega) | exact fun _ => ⟨by omega, by omega, by rw [ev]; exact hM gw hgw _ hq⟩
  · refine t_lifts ho hp hm hop h hb fun r gx' hr e1 hex hM => fun _ => hP r gx' hr e1 hex fun gw hgw Q hq => ?_
    have kk := (ln_kind (hl gw hgw)).2.2.2.2.2.1 e
    refine b_M_does_0 hm ⟨by omega, ?_, ?_, ?_, ?_, ?_, ?_, ?_, ?_, ?_, ?_, ?_, ?_⟩
    all_goals first | (intro e; exfalso; omega) | exact fun _ => hM gw hgw _ hq
  · obtain ⟨-, u1, u2, u3⟩ := c6 e
    rw [u1]
    have e0 : gx p 0 = gm 1 1 := h.1.1.1
    refine ⟨fun z => hP 0 gx (Or.inl rfl) rfl ⟨gm, h.le (by omega) (by omega), fun _ => rfl, fun _ => rfl, rfl⟩ fun gw hgw Q hq => ?_, fun z => hP 1 _ (Or.inr rfl) (z_u2 (by omega)) ⟨_, (h.ord hop ⟨u2, u3⟩).1.le (by omega) (by omega), (h.ord hop ⟨u2, u3⟩).2⟩ fun gw hgw Q hq => ?_⟩
    · obtain ⟨kk, v1, v2, v3⟩ := (ln_kind (hl gw hgw)).2.2.2.2.2.2.1 e
      have ev : gw 1 (246 + 6 * n + 1) = gm 1 (246 + 6 * n + 1) := v1.symm.trans u1
      have e0' : gx p 0 = gw 1 1 := hgw.1.1.1
      refine b_M_does_0 hm ⟨by omega, ?_, ?_, ?_, ?_, ?_, ?_, ?_, ?_, ?_, ?_, ?_, ?_⟩
      all_goals first | (intro e; exfalso; omega) | exact fun _ => ⟨by omega, by omega, fun _ => hq gw (hgw.le (by omega) (by omega)) ⟨fun _ => rfl, fun _ => rfl, rfl⟩, fun y => absurd (by omega) y⟩
    · obtain ⟨kk, v1, v2, v3⟩ := (ln_kind (hl gw hgw)).2.2.2.2.2.2.1 e
      have ev : gw 1 (246 + 6 * n + 1) = gm 1 (246 + 6 * n + 1) := v1.symm.trans u1
      have e0' : gx p 0 = gw 1 1 := hgw.1.1.1
      refine b_M_does_0 hm ⟨by omega, ?_, ?_, ?_, ?_, ?_, ?_, ?_, ?_, ?_, ?_, ?_, ?_⟩
      all_goals first | (intro e; exfalso; omega) | exact fun _ => ⟨by omega, by omega, fun y => absurd y (by omega), fun _ => by rw [ev]; exact hq _ ((hgw.ord hop ⟨u2, u3⟩).1.le (by omega) (by omega)) (hgw.ord hop ⟨u2, u3⟩).2⟩
  · refine t_any ho hp hm hop h hb fun r gx' hr e1 hex hM => fun _ => hP r gx' hr e1 hex fun gw hgw Q hq => ?_
    have kk := (ln_kind (hl gw hgw)).2.2.2.2.2.2.2.1 (by omega)
    refine b_M_does_0 hm ⟨by omega, ?_, ?_, ?_, ?_, ?_, ?_, ?_, ?_, ?_, ?_, ?_, ?_⟩
    all_goals first | (intro e; exfalso; omega) | exact fun _ => hM gw hgw _ fun gm' t1 t2 _ => hq gm' t1 t2
theorem ln_when {n len : Int} (hl : iLn (fX gx p) (fM gm 0) n len) (hk : gx (p + 9) n = 8) : gm 1 (246 + 6 * n) = 1216 ∧ gx (p + 10) n = 0 ∧ gx (p + 11) n = gm 1 (246 + 6 * n + 1) ∧ gx (p + 12) n = gm 1 (246 + 6 * n + 2) ∨ gm 1 (246 + 6 * n) = 1217 ∧ gx (p + 10) n = 1 ∨ ((gm 1 (246 + 6 * n) = 1218 ∧ gx (p + 10) n = 2 ∨ gm 1 (246 + 6 * n) = 1219 ∧ gx (p + 10) n = 3) ∧ gx (p + 11) n = gm 1 (246 + 6 * n + 5) ∧ (gm 1 (246 + 6 * n + 5) = 60 ∨ gm 1 (246 + 6 * n + 5) = 61 ∨ gm 1 (246 + 6 * n + 5) = 62) ∧ gx (p + 12) n = gm 1 (246 + 6 * n + 1) ∧ 0 ≤ gm 1 (246 + 6 * n + 1) ∧ gm 1 (246 + 6 * n + 1) ≤ 9999) := by
  unfold iLn fX fM at hl
  simp only [Int.zero_add] at hl
  rcases hl with ⟨k1, -⟩ | ⟨k1, -⟩ | ⟨k1, -⟩ | ⟨k1, -⟩ | ⟨k1, -⟩ | ⟨k1, -⟩ | ⟨k1, -⟩ | ⟨k1, -⟩ | ⟨-, -, -, -, -, -, k⟩ | ⟨k1, -⟩ | ⟨k1, -⟩ | ⟨k1, -⟩
  all_goals first | exact k | (exfalso; omega)
theorem t_holds (hp : z_lay X N σ p z_SBd z_RBd) (hm : z_lay Y K τ 0 z_SM z_RM) (hop : p + 13 < o) (h : tR gx0 gm0 gx gm o p b bm) {n len : Int} (hn : 0 ≤ n ∧ n < 60) (hl : ∀ gw, tR gx0 gm0 gx gw o p b bm → iLn (fX gx p) (fM gw 0) n len) (hk : gx (p + 9) n = 8) (hP : ∀ r, (r = 0 ∨ r = 1) → (∀ gw, tR gx0 gm0 gx gw o p b bm → ∀ Q : z_P, (∀ gm', tR gx0 gm0 gx gm' o p b bm → tF gx gx gw gm' o → mS gw gm' → Q r gm') → z_O Y 4 m_M_holds [(2, 0), (0, 246 + 6 * n)] K τ gw Q) → P r gx) : z_O X 3 m_Wk_holds [(2, ((p : Nat) : Int)), (0, n)] N σ gx P := by
  -- the reference, whichever state stands beside gx: what it answers
  have bW := h.1.bW
  obtain ⟨w0, w1, w2, w3, w4⟩ := bW
  have hlt := n_sp_lt w0
  have hg : Int.gcd (gm 1 2) (gm 1 3) = 1 := n_sp_gcd w0 w1 w2
  have sm : ∀ gw, tR gx0 gm0 gx gw o p b bm → gw 1 2 = gm 1 2 ∧ gw 1 3 = gm 1 3 ∧ pI (sh p gx) gw := fun gw hgw => by
    obtain ⟨v0, v1, v2, v3, v4⟩ := hgw.1.bW
    exact ⟨v1.symm.trans w1, v2.symm.trans w2, pI_sh.mp hgw.1.2.2.1⟩
  have same : ∀ gw, tR gx0 gm0 gx gw o p b bm → ∀ (r : Int) (Q : z_P), (∀ gm', tR gx0 gm0 gx gm' o p b bm → tF gx gx gw gm' o → mS gw gm' → Q r gm') → Q r gw := fun gw hgw r Q hq => hq gw hgw ⟨fun _ => rfl, fun _ => rfl, rfl⟩ mS.rf
  have scr : ∀ gw, tR gx0 gm0 gx gw o p b bm → ∀ gm', mS gw gm' → tR gx0 gm0 gx gm' o p b bm ∧ tF gx gx gw gm' o := fun gw hgw gm' hs => hgw.bd hop (fun c i hc => rfl) (fun c i hk => hs c i hk.1) (hgw.1.congr (fun a i ha => rfl) (fun i i1 i2 => hs _ _ (by unfold mP mK; omega)))
  have hpI : pI (sh p gx) gm := pI_sh.mp h.1.2.2.1
  rcases ln_when (hl gm h) hk with ⟨k1, k2, k3, k4⟩ | ⟨k1, k2⟩ | ⟨k1, k3, k4, k5, k6, k7⟩
  · -- at
    refine b_Wk_holds_0 hp ⟨by omega, ?_, ?_, ?_, ?_⟩ <;> (intro e; first | (exfalso; omega) | skip)
    rw [w1, w2]
    have M : ∀ gw, tR gx0 gm0 gx gw o p b bm → ∀ {Q : z_P}, ((gm 1 2 = gx (p + 11) n ∧ gm 1 3 = gx (p + 12) n) → Q 1 gw) → (¬ (gm 1 2 = gx (p + 11) n ∧ gm 1 3 = gx (p + 12) n) → Q 0 gw) → z_O Y 4 m_M_holds [(2, 0), (0, 246 + 6 * n)] K τ gw Q := fun gw hgw Q h1 h0 => by
      obtain ⟨s1, s2, s3⟩ := sm gw hgw
      have kw : gw 1 (246 + 6 * n) = 1216 ∧ gx (p + 11) n = gw 1 (246 + 6 * n + 1) ∧ gx (p + 12) n = gw 1 (246 + 6 * n + 2) := by
        rcases ln_when (hl gw hgw) hk with ⟨a1, a2, a3, a4⟩ | ⟨a1, a2⟩ | ⟨a1, a3, a4, a5, a6, a7⟩
        · exact ⟨a1, a3, a4⟩
        · omega
        · omega
      obtain ⟨a1, a3, a4⟩ := kw
      rw [a3, a4, ← s1, ← s2] at h1 h0
      exact b_M_holds_0 hm ⟨by omega, by omega, fun z => by exfalso; omega, fun _ => ⟨fun _ => ⟨by omega, by omega, fun z1 => ⟨by omega, by omega, fun z2 => h1 ⟨z1, z2⟩, fun z2 => h0 (fun y => z2 y.2)⟩, fun z1 => h0 (fun y => z1 y.1)⟩, fun z => by exfalso; omega⟩⟩
    refine ⟨by omega, fun z1 => ⟨by omega, fun z2 => hP 1 (Or.inr rfl) fun gw hgw Q hq => M gw hgw (fun _ => same gw hgw 1 Q hq) (fun y => absurd ⟨z1, z2⟩ y), fun z2 => hP 0 (Or.inl rfl) fun gw hgw Q hq => M gw hgw (fun y => absurd y.2 z2) (fun _ => same gw hgw 0 Q hq)⟩, fun z1 => hP 0 (Or.inl rfl) fun gw hgw Q hq => M gw hgw (fun y => absurd y.1 z1) (fun _ => same gw hgw 0 Q hq)⟩
  · -- pinned
    refine b_Wk_holds_0 hp ⟨by omega, ?_, ?_, ?_, ?_⟩ <;> (intro e; first | (exfalso; omega) | skip)
    refine b_Bd_pinHere_0 hp ?_
    rw [w1, w2]
    have M : ∀ gw, tR gx0 gm0 gx gw o p b bm → ∀ {Q : z_P}, (∀ r, pAt gw (gm 1 2) (gm 1 3) r → ((r = -1) → Q 0 gw) ∧ (¬ (r = -1) → Q 1 gw)) → z_O Y 4 m_M_holds [(2, 0), (0, 246 + 6 * n)] K τ gw Q := fun gw hgw Q hq => by
      obtain ⟨s1, s2, s3⟩ := sm gw hgw
      have kw : gw 1 (246 + 6 * n) = 1217 := by
        rcases ln_when (hl gw hgw) hk with ⟨a1, a2, a3, a4⟩ | ⟨a1, a2⟩ | ⟨a1, a3, a4, a5, a6, a7⟩ <;> omega
      have e1 : gm 1 2 / (Int.gcd (gm 1 2) (gm 1 3) : Int) = gm 1 2 := by rw [hg]; simp
      have e2 : gm 1 3 / (Int.gcd (gm 1 2) (gm 1 3) : Int) = gm 1 3 := by rw [hg]; simp
      refine b_M_holds_0 hm ⟨by omega, by omega, fun _ => ?_, fun z => by exfalso; omega⟩
      rw [s1, s2]
      refine s_M_pinOf hm s3 (by omega) (by omega) fun r hr => ?_
      rw [e1, e2] at hr
      exact hq r hr
    refine ⟨by omega, by omega, s_findB hp hpI fun r hr => ⟨fun r0 => hP 0 (Or.inl rfl) fun gw hgw Q hq => M gw hgw fun r' hr' => ?_, fun r0 => hP 1 (Or.inr rfl) fun gw hgw Q hq => M gw hgw fun r' hr' => ?_⟩⟩
    · have := pAt.eq (sm gw hgw).2.2 (hr.tr hpI (sm gw hgw).2.2) hr'
      have hr1 : r = -1 := by rcases hr with ⟨a, -⟩ | ⟨a, -, -, -⟩ <;> omega
      exact ⟨fun _ => same gw hgw 0 Q hq, fun z => absurd (by omega) z⟩
    · have := pAt.eq (sm gw hgw).2.2 (hr.tr hpI (sm gw hgw).2.2) hr'
      exact ⟨fun z => by exfalso; omega, fun _ => same gw hgw 1 Q hq⟩
  · -- depth, bottom
    have cmp : ∀ (v : Int) (M : ∀ gw, tR gx0 gm0 gx gw o p b bm → ∀ {Q : z_P}, (∀ gm', mS gw gm' → (((gx (p + 11) n) = 60) → ((((gx (p + 12) n) ≤ v) → Q 0 gm') ∧ (¬ ((gx (p + 12) n) ≤ v) → Q 1 gm'))) ∧ (¬ ((gx (p + 11) n) = 60) → ((((gx (p + 11) n) = 62) → (((v ≤ (gx (p + 12) n)) → Q 0 gm') ∧ (¬ (v ≤ (gx (p + 12) n)) → Q 1 gm'))) ∧ (¬ ((gx (p + 11) n) = 62) → (((v = (gx (p + 12) n)) → Q 1 gm') ∧ (¬ (v = (gx (p + 12) n)) → Q 0 gm')))))) → z_O Y 4 m_M_holds [(2, 0), (0, 246 + 6 * n)] K τ gw Q), ((((gx (p + 11) n) = 60) → ((((gx (p + 12) n) ≤ v) → P 0 gx) ∧ (¬ ((gx (p + 12) n) ≤ v) → P 1 gx))) ∧ (¬ ((gx (p + 11) n) = 60) → ((((gx (p + 11) n) = 62) → (((v ≤ (gx (p + 12) n)) → P 0 gx) ∧ (¬ (v ≤ (gx (p + 12) n)) → P 1 gx))) ∧ (¬ ((gx (p + 11) n) = 62) → (((v = (gx (p + 12) n)) → P 1 gx) ∧ (¬ (v = (gx (p + 12) n)) → P 0 gx)))))) := by
      intro v M
      have q0 : ∀ gw, tR gx0 gm0 gx gw o p b bm → ∀ (r : Int) {Q : z_P}, (∀ gm', tR gx0 gm0 gx gm' o p b bm → tF gx gx gw gm' o → mS gw gm' → Q r gm') → ∀ gm', mS gw gm' → Q r gm' := fun gw hgw r Q hq gm' hs => hq gm' (scr gw hgw gm' hs).1 (scr gw hgw gm' hs).2 hs
      refine ⟨fun a => ⟨fun c => hP 0 (Or.inl rfl) fun gw hgw Q hq => M gw hgw fun gm' hs => ⟨fun _ => ⟨fun _ => q0 gw hgw 0 hq gm' hs, fun z => absurd c z⟩, fun z => absurd a z⟩, fun c => hP 1 (Or.inr rfl) fun gw hgw Q hq => M gw hgw fun gm' hs => ⟨fun _ => ⟨fun z => absurd z c, fun _ => q0 gw hgw 1 hq gm' hs⟩, fun z => absurd a z⟩⟩, fun a => ⟨fun a2 => ⟨fun c => hP 0 (Or.inl rfl) fun gw hgw Q hq => M gw hgw fun gm' hs => ⟨fun z => absurd z a, fun _ => ⟨fun _ => ⟨fun _ => q0 gw hgw 0 hq gm' hs, fun z => absurd c z⟩, fun z => absurd a2 z⟩⟩, fun c => hP 1 (Or.inr rfl) fun gw hgw Q hq => M gw hgw fun gm' hs => ⟨fun z => absurd z a, fun _ => ⟨fun _ => ⟨fun z => absurd z c, fun _ => q0 gw hgw 1 hq gm' hs⟩, fun z => absurd a2 z⟩⟩⟩, fun a2 => ⟨fun c => hP 1 (Or.inr rfl) fun gw hgw Q hq => M gw hgw fun gm' hs => ⟨fun z => absurd z a, fun _ => ⟨fun z => absurd z a2, fun _ => ⟨fun _ => q0 gw hgw 1 hq gm' hs, fun z => absurd c z⟩⟩⟩, fun c => hP 0 (Or.inl rfl) fun gw hgw Q hq => M gw hgw fun gm' hs => ⟨fun z => absurd z a, fun _ => ⟨fun z => absurd z a2, fun _ => ⟨fun z => absurd z c, fun _ => q0 gw hgw 0 hq gm' hs⟩⟩⟩⟩⟩⟩
    have kw : ∀ gw, tR gx0 gm0 gx gw o p b bm → (gw 1 (246 + 6 * n) = gm 1 (246 + 6 * n)) ∧ gx (p + 11) n = gw 1 (246 + 6 * n + 5) ∧ gx (p + 12) n = gw 1 (246 + 6 * n + 1) := fun gw hgw => by
      rcases ln_when (hl gw hgw) hk with ⟨a1, a2, a3, a4⟩ | ⟨a1, a2⟩ | ⟨a1, a3, a4, a5, a6, a7⟩
      · omega
      · omega
      · exact ⟨by omega, a3, a5⟩
    rcases k1 with ⟨k1, k2⟩ | ⟨k1, k2⟩
    · refine b_Wk_holds_0 hp ⟨by omega, ?_, ?_, ?_, ?_⟩ <;> (intro e; first | (exfalso; omega) | skip)
      rw [w4]
      refine cmp _ fun gw hgw {Q} hq => ?_
      obtain ⟨s1, s2, s3⟩ := sm gw hgw
      obtain ⟨a1, a3, a4⟩ := kw gw hgw
      refine b_M_holds_0 hm ⟨by omega, by omega, fun z => by exfalso; omega, fun _ => ⟨fun z => by exfalso; omega, fun _ => ⟨fun _ => ?_, fun z => by exfalso; omega⟩⟩⟩
      rw [s1, s2]
      refine s_M_depthOf hm (by omega) (by omega) w3 fun gm' hs _ => ?_
      have y5 : gm' 1 (246 + 6 * n + 5) = gw 1 (246 + 6 * n + 5) := hs _ _ (by unfold mP mK; omega)
      have y1 : gm' 1 (246 + 6 * n + 1) = gw 1 (246 + 6 * n + 1) := hs _ _ (by unfold mP mK; omega)
      rw [y5, y1, ← a3, ← a4]
      obtain ⟨u1, u2⟩ := hq gm' hs
      exact ⟨by omega, by omega, fun a => ⟨by omega, by omega, (u1 a).1, (u1 a).2⟩, fun a => ⟨fun a2 => ⟨by omega, by omega, ((u2 a).1 a2).1, ((u2 a).1 a2).2⟩, fun a2 => ⟨by omega, by omega, ((u2 a).2 a2).1, ((u2 a).2 a2).2⟩⟩⟩
    · refine b_Wk_holds_0 hp ⟨by omega, ?_, ?_, ?_, ?_⟩ <;> (intro e; first | (exfalso; omega) | skip)
      rw [w2]
      refine ⟨by omega, cmp _ fun gw hgw {Q} hq => ?_⟩
      obtain ⟨s1, s2, s3⟩ := sm gw hgw
      obtain ⟨a1, a3, a4⟩ := kw gw hgw
      refine b_M_holds_0 hm ⟨by omega, by omega, fun z => by exfalso; omega, fun _ => ⟨fun z => by exfalso; omega, fun _ => ⟨fun z => by exfalso; omega, fun _ => ?_⟩⟩⟩
      rw [s2, ← a3, ← a4]
      obtain ⟨u1, u2⟩ := hq gw mS.rf
      exact ⟨by omega, by omega, fun a => ⟨by omega, by omega, (u1 a).1, (u1 a).2⟩, fun a => ⟨fun a2 => ⟨by omega, by omega, ((u2 a).1 a2).1, ((u2 a).1 a2).2⟩, fun a2 => ⟨by omega, by omega, ((u2 a).2 a2).1, ((u2 a).2 a2).2⟩⟩⟩
end Tour

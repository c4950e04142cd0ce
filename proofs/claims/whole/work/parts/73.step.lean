/-! ## TOURS: a step -/
section Tour
variable {X Y : z_X} {N K : Nat} {σ τ gx0 gm0 gx gm : z_G} {o p : Nat} {b bm : Int} {P : z_P}
/-- what moves() makes of a move -/
theorem t_mv (hop : p + 13 < o) (hb : b ≤ 300) {r : Int} {gx' gmM : z_G} {M : z_M} {d : Nat} {as : List z_t} (hr : r = 0 ∨ r = 1) (hM : ∀ Q : z_P, (∀ gm', tR gx0 gm0 gx' gm' o p b bm → tF gx gx' gm gm' o → Q r gm') → z_O Y d M as K τ gmM Q) (c2 : 0 ≤ gx' o 2 ∧ gx' o 2 ≤ 300) (c1 : gx' o 1 = gx o 1)
    (hP : ∀ gx'', gx'' o 1 = gx o 1 → (∀ Q : z_P, (∀ gm', tR gx0 gm0 gx'' gm' o p (b + 1) bm → tF gx gx'' gm gm' o → Q r gm') → z_O Y d M as K τ gmM (fun r1 g1 => (r1 = 0 ∨ r1 = 1) → (((r1 = 0) → ((r1 = 0 ∨ r1 = 1) ∧ Q r1 g1)) ∧ (¬ (r1 = 0) → ((-2147483648 ≤ ((g1 16 1) + 1) ∧ ((g1 16 1) + 1) ≤ 2147483647) ∧ ((r1 = 0 ∨ r1 = 1) ∧ Q r1 (z_up g1 16 1 ((g1 16 1) + 1)))))))) → P r gx'') : (r = 0 ∨ r = 1) → (((r = 0) → ((r = 0 ∨ r = 1) ∧ P r gx')) ∧ (¬ (r = 0) → ((-2147483648 ≤ ((gx' o 2) + 1) ∧ ((gx' o 2) + 1) ≤ 2147483647) ∧ ((r = 0 ∨ r = 1) ∧ P r (z_up gx' o 2 ((gx' o 2) + 1)))))) := by
  intro _
  refine ⟨fun e => ⟨hr, hP gx' c1 fun Q hq => hM _ fun gm' h1 h2 _ => ⟨fun _ => ⟨hr, hq gm' (h1.le (by omega) (by omega)) h2⟩, fun z => absurd e z⟩⟩, fun e => ⟨by omega, hr, hP _ (by rw [z_u2 (by omega)]; exact c1) fun Q hq => hM _ fun gm' h1 h2 _ => ⟨fun z => absurd z e, fun _ => ?_⟩⟩⟩
  obtain ⟨f1, f2⟩ := h1.cnt hop h2 (k := 1) (by omega)
  have c := h1.2.2.2.1
  exact ⟨by omega, hr, hq _ f1 f2⟩
theorem t_any (ho : z_lay X N σ o z_SWk z_RWk) (hp : z_lay X N σ p z_SBd z_RBd) (hm : z_lay Y K τ 0 z_SM z_RM) (hop : p + 13 < o) (h : tR gx0 gm0 gx gm o p b bm) (hb : b ≤ 300) (hP : ∀ r gx', (r = 0 ∨ r = 1) → gx' o 1 = gx o 1 → (∀ Q : z_P, (∀ gm', tR gx0 gm0 gx' gm' o p (b + 1) bm → tF gx gx' gm gm' o → Q r gm') → z_O Y 4 m_M_doesAny [(2, 0)] K τ gm Q) → P r gx') : z_O X 4 m_Wk_wanders [(2, ((o : Nat) : Int)), (2, ((p : Nat) : Int))] N σ gx P := by
  refine b_Wk_wanders_0 ho hp (t_draw ho hm hop h (by omega) fun r0 gx1 gm1 r00 r01 h1 hF1 x1 hD1 => t_draw ho hm hop h1 (by omega) fun r1 gx2 gm2 r10 r11 h2 hF2 x2 hD2 => ?_)
  have e1 : gx2 p 1 = gm2 1 0 := h2.1.1.2.2.2.1
  have hF := hF1.tr hF2
  have c2 := h2.2.2.2.1
  rw [e1]
  refine ⟨fun c => t_goes hp hm hop h2 (by omega) fun r gx' hr hf hM => ?_, fun c => t_up hp hm hop h2 fun r gx' hr hf hM => ?_⟩
  · have hM' : ∀ Q : z_P, (∀ gm', tR gx0 gm0 gx' gm' o p b bm → tF gx gx' gm gm' o → Q r gm') → z_O Y 3 m_M_goes [(2, 0), (0, r0)] K τ gm2 Q := fun Q hq => hM Q fun gm' t1 t2 => hq gm' t1 (hF.tr t2)
    exact t_mv hop hb hr hM' (by rw [hf _ _ (by omega)]; omega) (by rw [hf _ _ (by omega), x2, x1]) fun gx'' e hQ => hP r gx'' hr e fun Q hq => b_M_doesAny_0 hm (hD1 _ (hD2 _ ⟨fun _ => hQ Q hq, fun z => absurd c z⟩))
  · have hM' : ∀ Q : z_P, (∀ gm', tR gx0 gm0 gx' gm' o p b bm → tF gx gx' gm gm' o → Q r gm') → z_O Y 3 m_M_goesUp [(2, 0)] K τ gm2 Q := fun Q hq => hM Q fun gm' t1 t2 => hq gm' t1 (hF.tr t2)
    exact t_mv hop hb hr hM' (by rw [hf _ _ (by omega)]; omega) (by rw [hf _ _ (by omega), x2, x1]) fun gx'' e hQ => hP r gx'' hr e fun Q hq => b_M_doesAny_0 hm (hD1 _ (hD2 _ ⟨fun z => absurd z c, fun _ => hQ Q hq⟩))
theorem tR.ord (h : tR gx0 gm0 gx gm o p b bm) (hop : p + 13 < o) {v : Int} (hv : 1 ≤ v ∧ v ≤ 200) : tR gx0 gm0 (z_up gx p 0 v) (z_up gm 1 1 v) o p b bm ∧ tF gx (z_up gx p 0 v) gm (z_up gm 1 1 v) o := by
  obtain ⟨hO, hW, hP, hV, hG⟩ := h.1
  refine h.bd hop (fun c i hc => z_u2 (by omega)) (fun c i hk => z_u2 (by unfold tN at hk; omega)) ⟨?_, ?_, ?_, ?_, ?_⟩
  · obtain ⟨o1, o2, o3, o4, o5, o6⟩ := hO
    have e0 : z_up gx p 0 v (p + 0) 0 = v := z_u1
    have e1 : z_up gx p 0 v (p + 0) 1 = gx p 1 := z_u2 (by omega)
    have m1 : z_up gm 1 1 v 1 (0 + 1) = v := z_u1
    have m0 : z_up gm 1 1 v 1 (0 + 0) = gm 1 0 := z_u2 (by omega)
    refine ⟨?_, ?_, ?_, ?_, ?_, ?_⟩
    · show z_up gx p 0 v (p + 0) 0 = z_up gm 1 1 v 1 (0 + 1); rw [e0, m1]
    · show 1 ≤ z_up gm 1 1 v 1 (0 + 1); rw [m1]; exact hv.1
    · show z_up gm 1 1 v 1 (0 + 1) ≤ 200; rw [m1]; exact hv.2
    · show z_up gx p 0 v (p + 0) 1 = z_up gm 1 1 v 1 (0 + 0); rw [e1, m0]; exact o4
    · show 0 ≤ z_up gm 1 1 v 1 (0 + 0); rw [m0]; exact o5
    · show z_up gm 1 1 v 1 (0 + 0) ≤ 16; rw [m0]; exact o6
  · exact hW.c (fun i => z_u2 (by omega)) (fun i i1 i2 => z_u2 (by omega))
  · exact hP.c (fun j i j1 j2 => z_u2 (by omega)) (fun i i1 => z_u2 (by omega))
  · exact hV.c (fun j i j1 j2 => z_u2 (by omega)) (fun i i1 => z_u2 (by omega))
  · exact hG.c (fun j i j1 j2 => z_u2 (by omega)) (fun i i1 => z_u2 (by omega))
theorem t_act (ho : z_lay X N σ o z_SWk z_RWk) (hp : z_lay X N σ p z_SBd z_RBd) (hm : z_lay Y K τ 0 z_SM z_RM) (hop : p + 13 < o) (h : tR gx0 gm0 gx gm o p b bm) (hb : b ≤ 300) {n len : Int} (hn : 0 ≤ n ∧ n < 60) (hl : iLn (fX gx p) (fM gm 0) n len) (hk : ¬ (gx (p + 9) n = 8) ∧ ¬ (gx (p + 9) n = 9) ∧ ¬ (gx (p + 9) n = 10) ∧ ¬ (gx (p + 9) n = 11)) (hP : ∀ r gx', (r = 0 ∨ r = 1) → gx' o 1 = gx o 1 → (∀ Q : z_P, (∀ gm', tR gx0 gm0 gx' gm' o p (b + 1) bm → tF gx gx' gm gm' o → Q r gm') → z_O Y 5 m_M_does [(2, 0), (0, 246 + 6 * n)] K τ gm Q) → P r gx') : z_O X 5 m_Wk_act [(2, ((o : Nat) : Int)), (2, ((p : Nat) : Int)), (0, gx (p + 9) n), (0, gx (p + 11) n)] N σ gx P := by
  unfold iLn fX fM at hl
  simp only [Int.zero_add] at hl
  have c2 := h.2.2.2.1
  rcases hl with ⟨k1, k2⟩ | ⟨k1, k2⟩ | ⟨k1, k2⟩ | ⟨k1, k2⟩ | ⟨k1, k2, k3, k4, k5⟩ | ⟨k1, k2⟩ | ⟨k1, k2, k3, k4, k5⟩ | ⟨k1, k2⟩ | ⟨k1, -⟩ | ⟨k1, -⟩ | ⟨k1, -⟩ | ⟨k1, -⟩
  · refine b_Wk_act_0 ho hp ⟨?_, ?_, ?_, ?_, ?_, ?_, ?_, ?_⟩ <;> (intro e; first | (exfalso; omega) | skip)
    refine t_goes hp hm hop h (by omega) fun r gx' hr hf hM => t_mv hop hb hr hM (by rw [hf _ _ (by omega)]; omega) (hf _ _ (by omega)) fun gx'' e1 hQ => hP r gx'' hr e1 fun Q hq => b_M_does_0 hm ⟨by omega, ?_, ?_, ?_, ?_, ?_, ?_, ?_, ?_, ?_, ?_, ?_, ?_⟩
    all_goals first | (intro e; exfalso; omega) | exact fun _ => hQ Q hq
  · refine b_Wk_act_0 ho hp ⟨?_, ?_, ?_, ?_, ?_, ?_, ?_, ?_⟩ <;> (intro e; first | (exfalso; omega) | skip)
    refine t_goes hp hm hop h (by omega) fun r gx' hr hf hM => t_mv hop hb hr hM (by rw [hf _ _ (by omega)]; omega) (hf _ _ (by omega)) fun gx'' e1 hQ => hP r gx'' hr e1 fun Q hq => b_M_does_0 hm ⟨by omega, ?_, ?_, ?_, ?_, ?_, ?_, ?_, ?_, ?_, ?_, ?_, ?_⟩
    all_goals first | (intro e; exfalso; omega) | exact fun _ => hQ Q hq
  · refine b_Wk_act_0 ho hp ⟨?_, ?_, ?_, ?_, ?_, ?_, ?_, ?_⟩ <;> (intro e; first | (exfalso; omega) | skip)
    refine t_up hp hm hop h fun r gx' hr hf hM => t_mv hop hb hr hM (by rw [hf _ _ (by omega)]; omega) (hf _ _ (by omega)) fun gx'' e1 hQ => hP r gx'' hr e1 fun Q hq => b_M_does_0 hm ⟨by omega, ?_, ?_, ?_, ?_, ?_, ?_, ?_, ?_, ?_, ?_, ?_, ?_⟩
    all_goals first | (intro e; exfalso; omega) | exact fun _ => hQ Q hq
  · refine b_Wk_act_0 ho hp ⟨?_, ?_, ?_, ?_, ?_, ?_, ?_, ?_⟩ <;> (intro e; first | (exfalso; omega) | skip)
    refine t_flip hp hm hop h fun gx' hf hM => hP 1 gx' (Or.inr rfl) (hf _ _ (by omega)) fun Q hq => b_M_does_0 hm ⟨by omega, ?_, ?_, ?_, ?_, ?_, ?_, ?_, ?_, ?_, ?_, ?_, ?_⟩
    all_goals first | (intro e; exfalso; omega) | exact fun _ => hM _ fun gm' t1 t2 => hq gm' (t1.le (by omega) (by omega)) t2
  · refine b_Wk_act_0 ho hp ⟨?_, ?_, ?_, ?_, ?_, ?_, ?_, ?_⟩ <;> (intro e; first | (exfalso; omega) | skip)
    rw [k3]
    refine t_pins ho hp hm hop h hb ⟨k4, k5⟩ fun r gx' hr e1 hM => fun _ => hP r gx' hr e1 fun Q hq => b_M_does_0 hm ⟨by omega, ?_, ?_, ?_, ?_, ?_, ?_, ?_, ?_, ?_, ?_, ?_, ?_⟩
    all_goals first | (intro e; exfalso; omega) | exact fun _ => ⟨by omega, by omega, hM _ hq⟩
  · refine b_Wk_act_0 ho hp ⟨?_, ?_, ?_, ?_, ?_, ?_, ?_, ?_⟩ <;> (intro e; first | (exfalso; omega) | skip)
    refine t_lifts ho hp hm hop h hb fun r gx' hr e1 hM => fun _ => hP r gx' hr e1 fun Q hq => b_M_does_0 hm ⟨by omega, ?_, ?_, ?_, ?_, ?_, ?_, ?_, ?_, ?_, ?_, ?_, ?_⟩
    all_goals first | (intro e; exfalso; omega) | exact fun _ => hM _ hq
  · refine b_Wk_act_0 ho hp ⟨?_, ?_, ?_, ?_, ?_, ?_, ?_, ?_⟩ <;> (intro e; first | (exfalso; omega) | skip)
    rw [k3]
    have e0 : gx p 0 = gm 1 1 := h.1.1.1
    refine ⟨fun z => hP 0 gx (Or.inl rfl) rfl fun Q hq => b_M_does_0 hm ⟨by omega, ?_, ?_, ?_, ?_, ?_, ?_, ?_, ?_, ?_, ?_, ?_, ?_⟩, fun z => hP 1 _ (Or.inr rfl) (z_u2 (by omega)) fun Q hq => b_M_does_0 hm ⟨by omega, ?_, ?_, ?_, ?_, ?_, ?_, ?_, ?_, ?_, ?_, ?_, ?_⟩⟩
    all_goals first | (intro e; exfalso; omega) | exact fun _ => ⟨by omega, by omega, fun _ => hq gm (h.le (by omega) (by omega)) ⟨fun _ => rfl, fun _ => rfl, rfl⟩, fun y => absurd (by omega) y⟩ | exact fun _ => ⟨by omega, by omega, fun y => absurd y (by omega), fun _ => hq _ ((h.ord hop ⟨k4, k5⟩).1.le (by omega) (by omega)) (h.ord hop ⟨k4, k5⟩).2⟩
  · refine b_Wk_act_0 ho hp ⟨?_, ?_, ?_, ?_, ?_, ?_, ?_, ?_⟩ <;> (intro e; first | (exfalso; omega) | skip)
    refine t_any ho hp hm hop h hb fun r gx' hr e1 hM => fun _ => hP r gx' hr e1 fun Q hq => b_M_does_0 hm ⟨by omega, ?_, ?_, ?_, ?_, ?_, ?_, ?_, ?_, ?_, ?_, ?_, ?_⟩
    all_goals first | (intro e; exfalso; omega) | exact fun _ => hM _ fun gm' t1 t2 _ => hq gm' t1 t2
  all_goals (exfalso; omega)
theorem t_holds (hp : z_lay X N σ p z_SBd z_RBd) (hm : z_lay Y K τ 0 z_SM z_RM) (hop : p + 13 < o) (h : tR gx0 gm0 gx gm o p b bm) {n len : Int} (hn : 0 ≤ n ∧ n < 60) (hl : iLn (fX gx p) (fM gm 0) n len) (hk : gx (p + 9) n = 8) (hP : ∀ r, (r = 0 ∨ r = 1) → (∀ Q : z_P, (∀ gm', tR gx0 gm0 gx gm' o p b bm → tF gx gx gm gm' o → mS gm gm' → Q r gm') → z_O Y 4 m_M_holds [(2, 0), (0, 246 + 6 * n)] K τ gm Q) → P r gx) : z_O X 3 m_Wk_holds [(2, ((p : Nat) : Int)), (0, n)] N σ gx P := by
  unfold iLn fX fM at hl
  simp only [Int.zero_add] at hl
  obtain ⟨w0, w1, w2, w3, w4⟩ := h.1.bW
  have hlt := n_sp_lt w0
  have hg : Int.gcd (gm 1 2) (gm 1 3) = 1 := n_sp_gcd w0 w1 w2
  have same : ∀ Q : z_P, (∀ gm', tR gx0 gm0 gx gm' o p b bm → tF gx gx gm gm' o → mS gm gm' → Q 0 gm') → Q 0 gm := fun Q hq => hq gm h ⟨fun _ => rfl, fun _ => rfl, rfl⟩ mS.rf
  have same1 : ∀ Q : z_P, (∀ gm', tR gx0 gm0 gx gm' o p b bm → tF gx gx gm gm' o → mS gm gm' → Q 1 gm') → Q 1 gm := fun Q hq => hq gm h ⟨fun _ => rfl, fun _ => rfl, rfl⟩ mS.rf
  have scr : ∀ gm', mS gm gm' → tR gx0 gm0 gx gm' o p b bm ∧ tF gx gx gm gm' o := fun gm' hs => h.bd hop (fun c i hc => rfl) (fun c i hk => hs c i hk.1) (h.1.congr (fun a i ha => rfl) (fun i i1 i2 => hs _ _ (by unfold mP mK; omega)))
  have hkk : gm 1 (246 + 6 * n) = 1216 ∧ gx (p + 10) n = 0 ∧ gx (p + 11) n = gm 1 (246 + 6 * n + 1) ∧ gx (p + 12) n = gm 1 (246 + 6 * n + 2) ∨ gm 1 (246 + 6 * n) = 1217 ∧ gx (p + 10) n = 1 ∨ ((gm 1 (246 + 6 * n) = 1218 ∧ gx (p + 10) n = 2 ∨ gm 1 (246 + 6 * n) = 1219 ∧ gx (p + 10) n = 3) ∧ gx (p + 11) n = gm 1 (246 + 6 * n + 5) ∧ (gm 1 (246 + 6 * n + 5) = 60 ∨ gm 1 (246 + 6 * n + 5) = 61 ∨ gm 1 (246 + 6 * n + 5) = 62) ∧ gx (p + 12) n = gm 1 (246 + 6 * n + 1) ∧ 0 ≤ gm 1 (246 + 6 * n + 1) ∧ gm 1 (246 + 6 * n + 1) ≤ 9999) := by
    rcases hl with ⟨k1, -⟩ | ⟨k1, -⟩ | ⟨k1, -⟩ | ⟨k1, -⟩ | ⟨k1, -⟩ | ⟨k1, -⟩ | ⟨k1, -⟩ | ⟨k1, -⟩ | ⟨-, -, -, -, -, -, k⟩ | ⟨k1, -⟩ | ⟨k1, -⟩ | ⟨k1, -⟩
    all_goals first | exact k | (exfalso; omega)
  rcases hkk with ⟨k1, k2, k3, k4⟩ | ⟨k1, k2⟩ | ⟨k1, k3, k4, k5, k6, k7⟩
  · -- at
    refine b_Wk_holds_0 hp ⟨by omega, ?_, ?_, ?_, ?_⟩ <;> (intro e; first | (exfalso; omega) | skip)
    rw [w1, w2, k3, k4]
    have M : ∀ {Q : z_P}, ((gm 1 2 = gm 1 (246 + 6 * n + 1) ∧ gm 1 3 = gm 1 (246 + 6 * n + 2)) → Q 1 gm) → (¬ (gm 1 2 = gm 1 (246 + 6 * n + 1) ∧ gm 1 3 = gm 1 (246 + 6 * n + 2)) → Q 0 gm) → z_O Y 4 m_M_holds [(2, 0), (0, 246 + 6 * n)] K τ gm Q := fun h1 h0 => b_M_holds_0 hm ⟨by omega, by omega, fun z => by exfalso; omega, fun _ => ⟨fun _ => ⟨by omega, by omega, fun z1 => ⟨by omega, by omega, fun z2 => h1 ⟨z1, z2⟩, fun z2 => h0 (fun y => z2 y.2)⟩, fun z1 => h0 (fun y => z1 y.1)⟩, fun z => by exfalso; omega⟩⟩
    refine ⟨by omega, fun z1 => ⟨by omega, fun z2 => hP 1 (Or.inr rfl) fun Q hq => M (fun _ => same1 Q hq) (fun y => absurd ⟨z1, z2⟩ y), fun z2 => hP 0 (Or.inl rfl) fun Q hq => M (fun y => absurd y.2 z2) (fun _ => same Q hq)⟩, fun z1 => hP 0 (Or.inl rfl) fun Q hq => M (fun y => absurd y.1 z1) (fun _ => same Q hq)⟩
  · -- pinned
    have e1 : gm 1 2 / (Int.gcd (gm 1 2) (gm 1 3) : Int) = gm 1 2 := by rw [hg]; simp
    have e2 : gm 1 3 / (Int.gcd (gm 1 2) (gm 1 3) : Int) = gm 1 3 := by rw [hg]; simp
    have hpI : pI (sh p gx) gm := pI_sh.mp h.1.2.2.1
    refine b_Wk_holds_0 hp ⟨by omega, ?_, ?_, ?_, ?_⟩ <;> (intro e; first | (exfalso; omega) | skip)
    refine b_Bd_pinHere_0 hp ?_
    rw [w1, w2]
    have M : ∀ {Q : z_P}, (∀ r, pAt gm (gm 1 2) (gm 1 3) r → ((r = -1) → Q 0 gm) ∧ (¬ (r = -1) → Q 1 gm)) → z_O Y 4 m_M_holds [(2, 0), (0, 246 + 6 * n)] K τ gm Q := fun hq => b_M_holds_0 hm ⟨by omega, by omega, fun _ => s_M_pinOf hm hpI (by omega) (by omega) fun r hr => by
      rw [e1, e2] at hr
      exact hq r hr, fun z => by exfalso; omega⟩
    refine ⟨by omega, by omega, s_findB hp hpI fun r hr => ⟨fun r0 => hP 0 (Or.inl rfl) fun Q hq => M fun r' hr' => ?_, fun r0 => hP 1 (Or.inr rfl) fun Q hq => M fun r' hr' => ?_⟩⟩
    · have := pAt.eq hpI hr hr'
      have hr1 : r = -1 := by rcases hr with ⟨a, -⟩ | ⟨a, -, -, -⟩ <;> omega
      exact ⟨fun _ => same Q hq, fun z => absurd (by omega) z⟩
    · have := pAt.eq hpI hr hr'
      exact ⟨fun z => by exfalso; omega, fun _ => same1 Q hq⟩
  · -- depth, bottom
    have cmp : ∀ (v : Int) (M : ∀ {Q : z_P}, (∀ gm', mS gm gm' → (((gm 1 (246 + 6 * n + 5)) = 60) → ((((gm 1 (246 + 6 * n + 1)) ≤ v) → Q 0 gm') ∧ (¬ ((gm 1 (246 + 6 * n + 1)) ≤ v) → Q 1 gm'))) ∧ (¬ ((gm 1 (246 + 6 * n + 5)) = 60) → ((((gm 1 (246 + 6 * n + 5)) = 62) → (((v ≤ (gm 1 (246 + 6 * n + 1))) → Q 0 gm') ∧ (¬ (v ≤ (gm 1 (246 + 6 * n + 1))) → Q 1 gm'))) ∧ (¬ ((gm 1 (246 + 6 * n + 5)) = 62) → (((v = (gm 1 (246 + 6 * n + 1))) → Q 1 gm') ∧ (¬ (v = (gm 1 (246 + 6 * n + 1))) → Q 0 gm')))))) → z_O Y 4 m_M_holds [(2, 0), (0, 246 + 6 * n)] K τ gm Q), ((((gm 1 (246 + 6 * n + 5)) = 60) → ((((gm 1 (246 + 6 * n + 1)) ≤ v) → P 0 gx) ∧ (¬ ((gm 1 (246 + 6 * n + 1)) ≤ v) → P 1 gx))) ∧ (¬ ((gm 1 (246 + 6 * n + 5)) = 60) → ((((gm 1 (246 + 6 * n + 5)) = 62) → (((v ≤ (gm 1 (246 + 6 * n + 1))) → P 0 gx) ∧ (¬ (v ≤ (gm 1 (246 + 6 * n + 1))) → P 1 gx))) ∧ (¬ ((gm 1 (246 + 6 * n + 5)) = 62) → (((v = (gm 1 (246 + 6 * n + 1))) → P 1 gx) ∧ (¬ (v = (gm 1 (246 + 6 * n + 1))) → P 0 gx)))))) := by
      intro v M
      have q0 : ∀ {Q : z_P}, (∀ gm', tR gx0 gm0 gx gm' o p b bm → tF gx gx gm gm' o → mS gm gm' → Q 0 gm') → ∀ gm', mS gm gm' → Q 0 gm' := fun hq gm' hs => hq gm' (scr gm' hs).1 (scr gm' hs).2 hs
      have q1 : ∀ {Q : z_P}, (∀ gm', tR gx0 gm0 gx gm' o p b bm → tF gx gx gm gm' o → mS gm gm' → Q 1 gm') → ∀ gm', mS gm gm' → Q 1 gm' := fun hq gm' hs => hq gm' (scr gm' hs).1 (scr gm' hs).2 hs
      refine ⟨fun a => ⟨fun c => hP 0 (Or.inl rfl) fun Q hq => M fun gm' hs => ⟨fun _ => ⟨fun _ => q0 hq gm' hs, fun z => absurd c z⟩, fun z => absurd a z⟩, fun c => hP 1 (Or.inr rfl) fun Q hq => M fun gm' hs => ⟨fun _ => ⟨fun z => absurd z c, fun _ => q1 hq gm' hs⟩, fun z => absurd a z⟩⟩, fun a => ⟨fun a2 => ⟨fun c => hP 0 (Or.inl rfl) fun Q hq => M fun gm' hs => ⟨fun z => absurd z a, fun _ => ⟨fun _ => ⟨fun _ => q0 hq gm' hs, fun z => absurd c z⟩, fun z => absurd a2 z⟩⟩, fun c => hP 1 (Or.inr rfl) fun Q hq => M fun gm' hs => ⟨fun z => absurd z a, fun _ => ⟨fun _ => ⟨fun z => absurd z c, fun _ => q1 hq gm' hs⟩, fun z => absurd a2 z⟩⟩⟩, fun a2 => ⟨fun c => hP 1 (Or.inr rfl) fun Q hq => M fun gm' hs => ⟨fun z => absurd z a, fun _ => ⟨fun z => absurd z a2, fun _ => ⟨fun _ => q1 hq gm' hs, fun z => absurd c z⟩⟩⟩, fun c => hP 0 (Or.inl rfl) fun Q hq => M fun gm' hs => ⟨fun z => absurd z a, fun _ => ⟨fun z => absurd z a2, fun _ => ⟨fun z => absurd z c, fun _ => q0 hq gm' hs⟩⟩⟩⟩⟩⟩
    rcases k1 with ⟨k1, k2⟩ | ⟨k1, k2⟩
    · refine b_Wk_holds_0 hp ⟨by omega, ?_, ?_, ?_, ?_⟩ <;> (intro e; first | (exfalso; omega) | skip)
      rw [w4, k3, k5]
      refine cmp _ fun {Q} hq => b_M_holds_0 hm ⟨by omega, by omega, fun z => by exfalso; omega, fun _ => ⟨fun z => by exfalso; omega, fun _ => ⟨fun _ => s_M_depthOf hm (by omega) (by omega) w3 fun gm' hs _ => ?_, fun z => by exfalso; omega⟩⟩⟩
      have y5 : gm' 1 (246 + 6 * n + 5) = gm 1 (246 + 6 * n + 5) := hs _ _ (by unfold mP mK; omega)
      have y1 : gm' 1 (246 + 6 * n + 1) = gm 1 (246 + 6 * n + 1) := hs _ _ (by unfold mP mK; omega)
      rw [y5, y1]
      obtain ⟨u1, u2⟩ := hq gm' hs
      exact ⟨by omega, by omega, fun a => ⟨by omega, by omega, (u1 a).1, (u1 a).2⟩, fun a => ⟨fun a2 => ⟨by omega, by omega, ((u2 a).1 a2).1, ((u2 a).1 a2).2⟩, fun a2 => ⟨by omega, by omega, ((u2 a).2 a2).1, ((u2 a).2 a2).2⟩⟩⟩
    · refine b_Wk_holds_0 hp ⟨by omega, ?_, ?_, ?_, ?_⟩ <;> (intro e; first | (exfalso; omega) | skip)
      rw [w2, k3, k5]
      refine ⟨by omega, cmp _ fun {Q} hq => b_M_holds_0 hm ⟨by omega, by omega, fun z => by exfalso; omega, fun _ => ⟨fun z => by exfalso; omega, fun _ => ⟨fun z => by exfalso; omega, fun _ => ?_⟩⟩⟩⟩
      obtain ⟨u1, u2⟩ := hq gm mS.rf
      exact ⟨by omega, by omega, fun a => ⟨by omega, by omega, (u1 a).1, (u1 a).2⟩, fun a => ⟨fun a2 => ⟨by omega, by omega, ((u2 a).1 a2).1, ((u2 a).1 a2).2⟩, fun a2 => ⟨by omega, by omega, ((u2 a).2 a2).1, ((u2 a).2 a2).2⟩⟩⟩
end Tour

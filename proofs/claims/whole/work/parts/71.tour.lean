/-! ## TOURS: one step, class and reference -/
def tN (c : Nat) (i : Int) : Prop := mP c i ∧ ¬ (c = 1 ∧ 0 ≤ i ∧ i < 246)
/-- walk o on board p against the reference; counters at most b, MISSED at most bm -/
def tR (gx0 gm0 gx gm : z_G) (o p : Nat) (b bm : Int) : Prop :=
  iB (fX gx p) (fM gm 0)
  ∧ (gx o 0 = gm 0 36 ∧ 0 ≤ gm 0 36 ∧ gm 0 36 ≤ 300)
  ∧ (gx o 1 = gm 16 0 ∧ 0 ≤ gm 16 0 ∧ gm 16 0 ≤ bm)
  ∧ (gx o 2 = gm 16 1 ∧ 0 ≤ gm 16 1 ∧ gm 16 1 ≤ b)
  ∧ (gx o 3 = gm 16 2 ∧ 0 ≤ gm 16 2 ∧ gm 16 2 ≤ b)
  ∧ (gx o 4 = gm 16 3 ∧ 0 ≤ gm 16 3 ∧ gm 16 3 ≤ b)
  ∧ (gx o 5 = 0 ∧ gm 16 4 = 0)
  ∧ (gx o 6 = gm 0 35 ∧ 0 ≤ gm 0 35 ∧ gm 0 35 < 65536)
  ∧ (∀ c i, c ≠ o → c ≠ o + 1 → ¬ (p ≤ c ∧ c ≤ p + 7) → gx c i = gx0 c i)
  ∧ ∀ c i, tN c i → c ≠ 15 → c ≠ 16 → ¬ (c = 0 ∧ (i = 35 ∨ i = 36)) → gm c i = gm0 c i
/-- loops and the count of steps stay -/
def tF (gx gx' gm gm' : z_G) (o : Nat) : Prop := (∀ i, gx' (o + 1) i = gx (o + 1) i) ∧ (∀ i, gm' 15 i = gm 15 i) ∧ gm' 0 36 = gm 0 36
theorem tF.tr {gx gx' gx'' gm gm' gm'' : z_G} {o : Nat} (h : tF gx gx' gm gm' o) (h' : tF gx' gx'' gm' gm'' o) : tF gx gx'' gm gm'' o := ⟨fun i => (h'.1 i).trans (h.1 i), fun i => (h'.2.1 i).trans (h.2.1 i), h'.2.2.trans h.2.2⟩
theorem tR.bd {gx0 gm0 gx gm gx' gm' : z_G} {o p : Nat} {b bm : Int} (h : tR gx0 gm0 gx gm o p b bm) (hop : p + 13 < o) (hx : ∀ c i, ¬ (p ≤ c ∧ c ≤ p + 7) → gx' c i = gx c i) (hm : ∀ c i, tN c i → gm' c i = gm c i) (hb : iB (fX gx' p) (fM gm' 0)) : tR gx0 gm0 gx' gm' o p b bm ∧ tF gx gx' gm gm' o := by
  obtain ⟨h1, h2, h3, h4, h5, h6, h7, h8, h9, h10⟩ := h
  have e36 : gm' 0 36 = gm 0 36 := hm _ _ (by unfold tN mP mK; omega)
  have e35 : gm' 0 35 = gm 0 35 := hm _ _ (by unfold tN mP mK; omega)
  have e16 : ∀ i, gm' 16 i = gm 16 i := fun i => hm _ _ (by unfold tN mP mK; omega)
  have ex : ∀ i, gx' o i = gx o i := fun i => hx _ _ (by omega)
  refine ⟨⟨hb, ?_, ?_, ?_, ?_, ?_, ?_, ?_, fun c i c1 c2 c3 => by rw [hx c i c3]; exact h9 c i c1 c2 c3, fun c i hk c1 c2 c3 => by rw [hm c i hk]; exact h10 c i hk c1 c2 c3⟩, fun i => hx _ _ (by omega), fun i => hm _ _ (by unfold tN mP mK; omega), e36⟩
  · rw [ex, e36]; exact h2
  · rw [ex, e16]; exact h3
  · rw [ex, e16]; exact h4
  · rw [ex, e16]; exact h5
  · rw [ex, e16]; exact h6
  · rw [ex, e16]; exact h7
  · rw [ex, e35]; exact h8
/-- only the walk's own numbers are new -/
theorem tR.wk {gx0 gm0 gx gm gx' gm' : z_G} {o p : Nat} {b bm b' bm' : Int} (h : tR gx0 gm0 gx gm o p b bm) (hop : p + 13 < o) (hx : ∀ c i, c ≠ o → c ≠ o + 1 → gx' c i = gx c i) (hm : ∀ c i, c ≠ 15 → c ≠ 16 → ¬ (c = 0 ∧ (i = 35 ∨ i = 36)) → gm' c i = gm c i)
    (h2 : gx' o 0 = gm' 0 36 ∧ 0 ≤ gm' 0 36 ∧ gm' 0 36 ≤ 300) (h3 : gx' o 1 = gm' 16 0 ∧ 0 ≤ gm' 16 0 ∧ gm' 16 0 ≤ bm') (h4 : gx' o 2 = gm' 16 1 ∧ 0 ≤ gm' 16 1 ∧ gm' 16 1 ≤ b') (h5 : gx' o 3 = gm' 16 2 ∧ 0 ≤ gm' 16 2 ∧ gm' 16 2 ≤ b') (h6 : gx' o 4 = gm' 16 3 ∧ 0 ≤ gm' 16 3 ∧ gm' 16 3 ≤ b') (h7 : gx' o 5 = 0 ∧ gm' 16 4 = 0) (h8 : gx' o 6 = gm' 0 35 ∧ 0 ≤ gm' 0 35 ∧ gm' 0 35 < 65536) : tR gx0 gm0 gx' gm' o p b' bm' := by
  obtain ⟨g1, -, -, -, -, -, -, -, g9, g10⟩ := h
  refine ⟨g1.congr (fun a i ha => hx _ _ (by omega) (by omega)) (fun i i1 i2 => hm _ _ (by omega) (by omega) (by omega)), h2, h3, h4, h5, h6, h7, h8, fun c i c1 c2 c3 => by rw [hx c i c1 c2]; exact g9 c i c1 c2 c3, fun c i hk c1 c2 c3 => by rw [hm c i c1 c2 c3]; exact g10 c i hk c1 c2 c3⟩
theorem iB.bW {gx gm : z_G} {p : Nat} (h : iB (fX gx p) (fM gm 0)) : bW gx p (gm 1 2) (gm 1 3) := h.2.1
theorem iB.bV {gx gm : z_G} {p : Nat} (h : iB (fX gx p) (fM gm 0)) : bV gx p := by
  have h := h.2.2.2.1
  have h1 : gx (p + 6) 1 = gm 1 5 := h.1
  have h2 : 0 ≤ gm 1 5 := h.2.1
  have h3 : gm 1 5 ≤ 200 := h.2.2.1
  have h4 : vS (gx (p + 7)) (gm 1 5) := h.2.2.2.1
  exact ⟨by omega, by omega, by rw [h1]; exact h4⟩
section Tour
variable {X Y : z_X} {N K : Nat} {σ τ gx0 gm0 gx gm : z_G} {o p : Nat} {b bm : Int} {P : z_P}
theorem t_come (hm : z_lay Y K τ 0 z_SM z_RM) (hop : p + 13 < o) (h : tR gx0 gm0 gx gm o p b bm) {gx' gm1 : z_G} {T B : Int} (hv : bMv gx gx' p T B) (hs : mS gm gm1) {Q : z_P} (hq : ∀ gm2, tR gx0 gm0 gx' gm2 o p b bm → tF gx gx' gm gm2 o → Q 0 gm2) : z_O Y 2 m_M_comes [(2, 0), (0, T), (0, B)] K τ gm1 Q := by
  have hb : iB (fX gx p) (fM gm1 0) := h.1.congr (fun a i ha => rfl) (fun i i1 i2 => hs _ _ (by unfold mP mK; omega))
  refine s_M_comes hm hb hv fun gm2 hb2 hf e2 e3 => ?_
  obtain ⟨a1, a2⟩ := h.bd hop (gx' := gx') (gm' := gm2) (fun c i hc => hv.2.1 c i (by omega) (by omega) (by omega)) (fun c i hk => by rw [hf c i hk.2]; exact hs c i hk.1) hb2
  exact hq gm2 a1 a2
/-- there is a state of the reference beside the moved board -/
theorem t_come_ex (hop : p + 13 < o) (h : tR gx0 gm0 gx gm o p b bm) {gx' : z_G} {T B : Int} (hv : bMv gx gx' p T B) : ∃ gm', tR gx0 gm0 gx' gm' o p b bm ∧ tF gx gx' gm gm' o := by
  obtain ⟨⟨w0, w1, w2, w3, w4⟩, hf, he⟩ := id hv
  have hl := n_sp_lt w0
  obtain ⟨hO, hW, hP, hV, hG⟩ := h.1
  have v1 : 0 ≤ gm 1 5 := hV.2.1
  have v2 : gm 1 5 ≤ 200 := hV.2.2.1
  have fin : ∀ gm' : z_G, gm' 1 2 = T → gm' 1 3 = B → (∀ c i, ¬ (c = 1 ∧ (i = 2 ∨ i = 3 ∨ i = 5 ∨ (46 ≤ i ∧ i < 246))) → gm' c i = gm c i) → eM (fun i => gm 1 (0 + (46 + i))) (gm 1 5) (fun i => gm' 1 (0 + (46 + i))) (gm' 1 5) (T * 10000 + B) → ∃ gm', tR gx0 gm0 gx' gm' o p b bm ∧ tF gx gx' gm gm' o := by
    intro gm' y2 y3 y1 ye
    refine ⟨gm', h.bd hop (fun c i hc => hf c i (by omega) (by omega) (by omega)) (fun c i hk => y1 c i (by unfold tN at hk; omega)) ⟨?_, ?_, ?_, ?_, ?_⟩⟩
    · exact hO.c (fun i => hf _ _ (by omega) (by omega) (by omega)) (fun i i1 i2 => y1 _ _ (by omega))
    · refine ⟨w0, ?_, ?_, ?_, ?_⟩
      · show gx' (p + 1) 0 + gx' (p + 1) 2 = gm' 1 2; rw [w1, y2]
      · show gx' (p + 1) 1 + gx' (p + 1) 3 = gm' 1 3; rw [w2, y3]
      · show gm' 1 3 ≤ 9999; rw [y3]; exact w3
      · show gx' (p + 1) 4 = n_D (gm' 1 2) (gm' 1 3); rw [y2, y3]; exact w4
    · exact hP.c (fun j i j1 j2 => hf _ _ (by omega) (by omega) (by omega)) (fun i i1 => y1 _ _ (by omega))
    · exact hV.step he ye
    · exact hG.c (fun j i j1 j2 => hf _ _ (by omega) (by omega) (by omega)) (fun i i1 => y1 _ _ (by omega))
  by_cases c : gm 1 5 = 200 ∨ ∃ j : Int, 0 ≤ j ∧ j < gm 1 5 ∧ gm 1 (0 + (46 + j)) = T * 10000 + B
  · refine fin (z_up (z_up gm 1 2 T) 1 3 B) (by rw [z_u2 (by omega), z_u1]) z_u1 (fun c i hc => by rw [z_u2 (by omega), z_u2 (by omega)]) (Or.inl ⟨c, ?_, fun i i1 i2 => ?_⟩)
    · rw [z_u2 (by omega), z_u2 (by omega)]
    · dsimp only; rw [z_u2 (by omega), z_u2 (by omega)]
  · have c1 : gm 1 5 < 200 := by
      rcases Int.lt_or_le (gm 1 5) 200 with z | z
      · exact z
      · exact absurd (Or.inl (by omega)) c
    refine fin (z_up (z_up (z_up (z_up gm 1 2 T) 1 3 B) 1 (46 + gm 1 5) (T * 10000 + B)) 1 5 (gm 1 5 + 1)) ?_ ?_ (fun c i hc => by rw [z_u2 (by omega), z_u2 (by omega), z_u2 (by omega), z_u2 (by omega)]) (Or.inr ⟨c1, fun j j1 j2 z => c (Or.inr ⟨j, j1, j2, z⟩), z_u1, ?_, fun i i1 i2 => ?_⟩)
    · rw [z_u2 (by omega), z_u2 (by omega), z_u2 (by omega), z_u1]
    · rw [z_u2 (by omega), z_u2 (by omega), z_u1]
    · dsimp only; rw [z_u2 (by omega), show (0 : Int) + (46 + gm 1 5) = 46 + gm 1 5 by omega, z_u1]
    · dsimp only; rw [z_u2 (by omega), z_u2 (by omega), z_u2 (by omega), z_u2 (by omega)]
theorem t_goes (hp : z_lay X N σ p z_SBd z_RBd) (hm : z_lay Y K τ 0 z_SM z_RM) (hop : p + 13 < o) (h : tR gx0 gm0 gx gm o p b bm) {turn : Int} (ht : turn = 0 ∨ turn = 1) (hP : ∀ r gx', (r = 0 ∨ r = 1) → (∀ c i, ¬ (p ≤ c ∧ c ≤ p + 7) → gx' c i = gx c i) → (∃ gm', tR gx0 gm0 gx' gm' o p b bm ∧ tF gx gx' gm gm' o) → (∀ gw, tR gx0 gm0 gx gw o p b bm → ∀ Q : z_P, (∀ gm', tR gx0 gm0 gx' gm' o p b bm → tF gx gx' gw gm' o → Q r gm') → z_O Y 3 m_M_goes [(2, 0), (0, turn)] K τ gw Q) → P r gx') : z_O X 3 m_Bd_goDown [(2, ((p : Nat) : Int)), (0, turn)] N σ gx P := by
  obtain ⟨w0, w1, w2, w3, w4⟩ := h.1.bW
  have child : ∀ gw, tR gx0 gm0 gx gw o p b bm → ∀ {Q : z_P}, (∀ gm1, mS gw gm1 → gm1 0 28 = gm 1 2 + (if turn = 0 then gx (p + 1) 0 else gx (p + 1) 2) → gm1 0 29 = gm 1 3 + (if turn = 0 then gx (p + 1) 1 else gx (p + 1) 3) → Q 0 gm1) → z_O Y 1 m_M_findsChild [(2, 0), (0, gw 1 2), (0, gw 1 3), (0, turn)] K τ gw Q := by
    intro gw hgw Q hq
    obtain ⟨v0, v1, v2, v3, v4⟩ := hgw.1.bW
    rw [← v1, ← v2]
    refine s_M_findsChild hm w0 (by omega) ht ?_
    split
    · rename_i c
      refine hq _ ((mS.rf.up (by unfold mP mK; omega)).up (by unfold mP mK; omega)) ?_ ?_
      · rw [z_u2 (by omega), z_u1, if_pos c, ← w1]
      · rw [z_u1, if_pos c, ← w2]
    · rename_i c
      refine hq _ ((mS.rf.up (by unfold mP mK; omega)).up (by unfold mP mK; omega)) ?_ ?_
      · rw [z_u2 (by omega), z_u1, if_neg c, ← w1]
      · rw [z_u1, if_neg c, ← w2]
  refine s_Bd_goDown hp h.1.bW h.1.bV (fun q => hP 0 gx (Or.inl rfl) (fun _ _ _ => rfl) ⟨gm, h, fun _ => rfl, fun _ => rfl, rfl⟩ fun gw hgw Q hq => b_M_goes_0 hm (child gw hgw fun gm1 hs f1 f2 => ⟨fun z => absurd (by rw [← f2]; exact z) q, fun _ => ?_⟩)) (fun q gx' hb => hP 1 gx' (Or.inr rfl) (fun c i hc => hb.2.1 c i (by omega) (by omega) (by omega)) (t_come_ex hop h hb) fun gw hgw Q hq => b_M_goes_0 hm (child gw hgw fun gm1 hs f1 f2 => ⟨fun z => ?_, fun z => absurd (by rw [f2]; exact q) z⟩))
  · obtain ⟨a1, a2⟩ := hgw.bd hop (gx' := gx) (gm' := gm1) (fun c i hc => rfl) (fun c i hk => hs c i hk.1) (hgw.1.congr (fun a i ha => rfl) (fun i i1 i2 => hs _ _ (by unfold mP mK; omega)))
    exact hq gm1 a1 a2
  · rw [f1, f2]
    exact t_come hm hop hgw hb hs hq
theorem t_up (hp : z_lay X N σ p z_SBd z_RBd) (hm : z_lay Y K τ 0 z_SM z_RM) (hop : p + 13 < o) (h : tR gx0 gm0 gx gm o p b bm) (hP : ∀ r gx', (r = 0 ∨ r = 1) → (∀ c i, ¬ (p ≤ c ∧ c ≤ p + 7) → gx' c i = gx c i) → (∃ gm', tR gx0 gm0 gx' gm' o p b bm ∧ tF gx gx' gm gm' o) → (∀ gw, tR gx0 gm0 gx gw o p b bm → ∀ Q : z_P, (∀ gm', tR gx0 gm0 gx' gm' o p b bm → tF gx gx' gw gm' o → Q r gm') → z_O Y 3 m_M_goesUp [(2, 0)] K τ gw Q) → P r gx') : z_O X 3 m_Bd_goUp [(2, ((p : Nat) : Int))] N σ gx P := by
  refine s_Bd_goUp hp h.1.bW h.1.bV (fun q => hP 0 gx (Or.inl rfl) (fun _ _ _ => rfl) ⟨gm, h, fun _ => rfl, fun _ => rfl, rfl⟩ fun gw hgw Q hq => b_M_goesUp_0 hm ?_) (fun q gx' hb => hP 1 gx' (Or.inr rfl) (fun c i hc => hb.2.1 c i (by omega) (by omega) (by omega)) (t_come_ex hop h hb) fun gw hgw Q hq => b_M_goesUp_0 hm ?_)
  · obtain ⟨w0, w1, w2, w3, w4⟩ := hgw.1.bW
    have e := n_sp_eq w0 q
    refine ⟨fun _ => hq gw hgw ⟨fun _ => rfl, fun _ => rfl, rfl⟩, fun z => absurd (by omega) z⟩
  · obtain ⟨w0, w1, w2, w3, w4⟩ := hgw.1.bW
    have hl := n_sp_lt w0
    have hg : Int.gcd (gw 1 2) (gw 1 3) = 1 := n_sp_gcd w0 w1 w2
    have hpar := n_parent (t := gw 1 2) (b := gw 1 3) (by omega) w0 (by rw [hg, w1]; simp) (by rw [hg, w2]; simp)
    obtain ⟨k1, k2, k3, k4, k5, k6⟩ := id w0
    refine ⟨fun z => absurd (by omega) q, fun _ => s_M_findsParent hm (by omega) fun gm1 hs f1 f2 => ?_⟩
    have f3 := hpar.2 q
    have f4 : gm1 0 28 = (if gx (p + 1) 3 ≤ gx (p + 1) 1 then gx (p + 1) 0 else gx (p + 1) 2) := by
      rw [f1]; split
      · rename_i c; exact (f3.1 c).2
      · rename_i c; exact (f3.2 c).2
    have f5 : gm1 0 29 = (if gx (p + 1) 3 ≤ gx (p + 1) 1 then gx (p + 1) 1 else gx (p + 1) 3) := by
      rw [f2]; split
      · rename_i c; exact (f3.1 c).1
      · rename_i c; exact (f3.2 c).1
    rw [f4, f5]
    exact t_come hm hop hgw hb hs hq
theorem t_flip (hp : z_lay X N σ p z_SBd z_RBd) (hm : z_lay Y K τ 0 z_SM z_RM) (hop : p + 13 < o) (h : tR gx0 gm0 gx gm o p b bm) (hP : ∀ gx', (∀ c i, ¬ (p ≤ c ∧ c ≤ p + 7) → gx' c i = gx c i) → (∃ gm', tR gx0 gm0 gx' gm' o p b bm ∧ tF gx gx' gm gm' o) → (∀ gw, tR gx0 gm0 gx gw o p b bm → ∀ Q : z_P, (∀ gm', tR gx0 gm0 gx' gm' o p b bm → tF gx gx' gw gm' o → Q 0 gm') → z_O Y 3 m_M_flips [(2, 0)] K τ gw Q) → P 0 gx') : z_O X 3 m_Bd_goAcross [(2, ((p : Nat) : Int))] N σ gx P := by
  obtain ⟨w0, w1, w2, w3, w4⟩ := h.1.bW
  have hl := n_sp_lt w0
  refine s_Bd_goAcross hp h.1.bW h.1.bV fun gx' hb => hP gx' (fun c i hc => hb.2.1 c i (by omega) (by omega) (by omega)) (t_come_ex hop h hb) fun gw hgw Q hq => b_M_flips_0 hm ?_
  obtain ⟨v0, v1, v2, v3, v4⟩ := hgw.1.bW
  have e1 : gw 1 2 = gm 1 2 := v1.symm.trans w1
  have e2 : gw 1 3 = gm 1 3 := v2.symm.trans w2
  rw [e1, e2]
  exact ⟨by omega, t_come hm hop hgw hb mS.rf hq⟩
/-- a heap seen from another board -/
def sh (p : Nat) (g : z_G) : z_G := fun c i => g (p + (c - 23)) i
theorem pI_sh {gx gm : z_G} {p : Nat} : iP (fX gx p) (fM gm 0) ↔ pI (sh p gx) gm := by
  show iP (fX gx p) (fM gm 0) ↔ _
  unfold iP pI fX fM sh
  simp only [Int.zero_add]
theorem s_findB (hp : z_lay X N σ p z_SBd z_RBd) (h : pI (sh p gx) gm) {T B : Int} (hq : ∀ r, pAt gm T B r → P r gx) : z_O X 1 m_Pi_find [(2, ((p + 2 : Nat) : Int)), (0, T), (0, B)] N σ gx P := by
  obtain ⟨p1, p2, p3, p4, p5⟩ := h
  have p1 : gx (p + 2) 3 = gm 1 4 := p1
  refine s_Pi_find (o := p + 2) (ky_Bd_2 hp) (by omega) (fun k k1 k2 k3 k4 => hq k (Or.inr ?_)) (fun k => hq _ (Or.inl ⟨rfl, fun j j1 j2 => ?_⟩))
  · obtain ⟨q1, q2, -⟩ := p4 k k1 (by omega)
    have q1 : gx (p + 3) k = gm 1 (10 + 3 * k) := q1
    have q2 : gx (p + 4) k = gm 1 (10 + 3 * k + 1) := q2
    have k3 : gx (p + 3) k = T := k3
    have k4 : gx (p + 4) k = B := k4
    exact ⟨k1, by omega, by omega, by omega⟩
  · have hk := k j j1 (by omega)
    obtain ⟨q1, q2, -⟩ := p4 j j1 j2
    have q1 : gx (p + 3) j = gm 1 (10 + 3 * j) := q1
    have q2 : gx (p + 4) j = gm 1 (10 + 3 * j + 1) := q2
    have hk : ¬ (gx (p + 3) j = T ∧ gx (p + 4) j = B) := hk
    omega
/-- the pins of the board are new -/
theorem tR.pins {gx' gm' : z_G} (h : tR gx0 gm0 gx gm o p b bm) (hop : p + 13 < o) (hx : ∀ c i, ¬ (p + 2 ≤ c ∧ c ≤ p + 5) → gx' c i = gx c i) (hm : ∀ c i, ¬ (c = 1 ∧ (i = 4 ∨ (10 ≤ i ∧ i < 46))) → ¬ (c = 0 ∧ i = 28) → gm' c i = gm c i) (hp : pI (sh p gx') gm') : tR gx0 gm0 gx' gm' o p b bm ∧ tF gx gx' gm gm' o := by
  obtain ⟨hO, hW, hP, hV, hG⟩ := h.1
  refine h.bd hop (fun c i hc => hx c i (by omega)) (fun c i hk => hm c i (by unfold tN mP mK at hk; omega) (by unfold tN mP mK at hk; omega)) ⟨?_, ?_, pI_sh.mpr hp, ?_, ?_⟩
  · exact hO.c (fun i => hx _ _ (by omega)) (fun i i1 i2 => hm _ _ (by omega) (by omega))
  · exact hW.c (fun i => hx _ _ (by omega)) (fun i i1 i2 => hm _ _ (by omega) (by omega))
  · exact hV.c (fun j i j1 j2 => hx _ _ (by omega)) (fun i i1 => hm _ _ (by omega) (by omega))
  · exact hG.c (fun j i j1 j2 => hx _ _ (by omega)) (fun i i1 => hm _ _ (by omega) (by omega))
/-- a counter is one more -/
theorem tR.cnt {gx1 gm1 : z_G} (h : tR gx0 gm0 gx1 gm1 o p b bm) (hop : p + 13 < o) (hF : tF gx gx1 gm gm1 o) {k : Int} (hk : k = 1 ∨ k = 2 ∨ k = 3) : tR gx0 gm0 (z_up gx1 o (k + 1) (gx1 o (k + 1) + 1)) (z_up gm1 16 k (gm1 16 k + 1)) o p (b + 1) bm ∧ tF gx (z_up gx1 o (k + 1) (gx1 o (k + 1) + 1)) gm (z_up gm1 16 k (gm1 16 k + 1)) o := by
  obtain ⟨h1, h2, h3, h4, h5, h6, h7, h8, h9, h10⟩ := id h
  refine ⟨h.wk hop (fun c i c1 c2 => z_u2 (by omega)) (fun c i c1 c2 c3 => z_u2 (by omega)) ?_ ?_ ?_ ?_ ?_ ?_ ?_, fun i => by rw [z_u2 (by omega)]; exact hF.1 i, fun i => by rw [z_u2 (by omega)]; exact hF.2.1 i, by rw [z_u2 (by omega)]; exact hF.2.2⟩
  · rw [z_u2 (by omega), z_u2 (by omega)]; exact h2
  · rw [z_u2 (by omega), z_u2 (by omega)]; exact h3
  · rcases hk with rfl | rfl | rfl
    · show z_up gx1 o 2 _ o 2 = _ ∧ _
      rw [z_u1, z_u1]
      show gx1 o 2 + 1 = gm1 16 1 + 1 ∧ 0 ≤ gm1 16 1 + 1 ∧ gm1 16 1 + 1 ≤ b + 1
      omega
    · rw [z_u2 (by omega), z_u2 (by omega)]; omega
    · rw [z_u2 (by omega), z_u2 (by omega)]; omega
  · rcases hk with rfl | rfl | rfl
    · rw [z_u2 (by omega), z_u2 (by omega)]; omega
    · show z_up gx1 o 3 _ o 3 = _ ∧ _
      rw [z_u1, z_u1]
      show gx1 o 3 + 1 = gm1 16 2 + 1 ∧ 0 ≤ gm1 16 2 + 1 ∧ gm1 16 2 + 1 ≤ b + 1
      omega
    · rw [z_u2 (by omega), z_u2 (by omega)]; omega
  · rcases hk with rfl | rfl | rfl
    · rw [z_u2 (by omega), z_u2 (by omega)]; omega
    · rw [z_u2 (by omega), z_u2 (by omega)]; omega
    · show z_up gx1 o 4 _ o 4 = _ ∧ _
      rw [z_u1, z_u1]
      show gx1 o 4 + 1 = gm1 16 3 + 1 ∧ 0 ≤ gm1 16 3 + 1 ∧ gm1 16 3 + 1 ≤ b + 1
      omega
  · rw [z_u2 (by omega), z_u2 (by omega)]; exact h7
  · rw [z_u2 (by omega), z_u2 (by omega)]; exact h8
theorem tR.le (h : tR gx0 gm0 gx gm o p b bm) {b' bm' : Int} (h1 : b ≤ b') (h2 : bm ≤ bm') : tR gx0 gm0 gx gm o p b' bm' := by
  obtain ⟨g1, g2, g3, g4, g5, g6, g7, g8, g9, g10⟩ := h
  exact ⟨g1, g2, ⟨g3.1, g3.2.1, by omega⟩, ⟨g4.1, g4.2.1, by omega⟩, ⟨g5.1, g5.2.1, by omega⟩, ⟨g6.1, g6.2.1, by omega⟩, g7, g8, g9, g10⟩
end Tour

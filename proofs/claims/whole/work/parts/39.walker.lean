/-! ## here, go, up, flip, jump, wasAt -/
theorem eM.congr {d e d' : Int → Int} {n n' key : Int} (h : eM d n d' n' key) (hn : n ≤ 200) (he : ∀ i : Int, 0 ≤ i → i < 200 → d i = e i) : eM e n d' n' key := by
  rcases h with ⟨b1, b2, b3⟩ | ⟨b1, b2, b3, b4, b5⟩
  · refine Or.inl ⟨?_, b2, fun i i1 i2 => by rw [b3 i i1 i2, he i i1 i2]⟩
    rcases b1 with b1 | ⟨j, j1, j2, j3⟩
    · exact Or.inl b1
    · exact Or.inr ⟨j, j1, j2, by rw [← he j j1 (by omega)]; exact j3⟩
  · exact Or.inr ⟨b1, fun j j1 j2 => by rw [← he j j1 (by omega)]; exact b2 j j1 j2, b3, b4, fun i i1 i2 => by rw [b5 i i1 i2, he i i1 (by omega)]⟩
theorem s_M_comes {X : z_X} {N : Nat} {σ gx gx' g : z_G} {Q : z_P} {o : Nat} (hm : z_lay X N σ 0 z_SM z_RM) {T B : Int} (h : iB (fX gx o) (fM g 0)) (hv : bMv gx gx' o T B) (hq : ∀ g', iB (fX gx' o) (fM g' 0) → (∀ c i, ¬ (c = 1 ∧ 0 ≤ i ∧ i < 246) → g' c i = g c i) → g' 1 2 = T → g' 1 3 = B → Q 0 g') : z_O X 2 m_M_comes [(2, 0), (0, T), (0, B)] N σ g Q := by
  obtain ⟨⟨w0, w1, w2, w3, w4⟩, hf, he⟩ := hv
  have hl := n_sp_lt w0
  obtain ⟨hO, hW, hP, hV, hG⟩ := h
  have v1 : 0 ≤ g 1 (0 + 5) := hV.2.1
  have v2 : g 1 (0 + 5) ≤ 200 := hV.2.2.1
  have z1 : ∀ i : Int, i ≠ 2 → i ≠ 3 → z_up (z_up g 1 2 T) 1 3 B 1 i = g 1 i := fun i i1 i2 => by rw [z_u2 (Or.inr i2), z_u2 (Or.inr i1)]
  have z2 : z_up (z_up g 1 2 T) 1 3 B 1 (0 + 2) = T := by rw [z_u2 (Or.inr (by omega))]; exact z_u1
  have z3 : z_up (z_up g 1 2 T) 1 3 B 1 (0 + 3) = B := z_u1
  refine b_M_comes_0 hm (s_M_sees hm (s := 0) (T := T) (B := B) (by omega) z2 z3 (by omega) (by omega) (by rw [z1 _ (by omega) (by omega)]; omega) fun g' hf' he' => ?_)
  rw [z1 (0 + 5) (by omega) (by omega)] at he'
  have he2 := he'.congr (e := fun i => g 1 (0 + (46 + i))) v2 (fun i i1 i2 => z1 _ (by omega) (by omega))
  have y1 : ∀ i : Int, i ≠ 2 → i ≠ 3 → i ≠ 5 → ¬ (46 ≤ i ∧ i < 246) → g' 1 i = g 1 i := fun i i1 i2 i3 i4 => by rw [hf' 1 i (by omega), z1 i i1 i2]
  have y2 : g' 1 2 = T := by rw [hf' 1 2 (by omega)]; exact z2
  have y3 : g' 1 3 = B := by rw [hf' 1 3 (by omega)]; exact z3
  refine hq g' ⟨?_, ?_, ?_, ?_, ?_⟩ (fun c i hci => ?_) y2 y3
  · exact hO.c (fun i => hf _ _ (by omega) (by omega) (by omega)) (fun i i1 i2 => y1 _ (by omega) (by omega) (by omega) (by omega))
  · refine ⟨w0, ?_, ?_, ?_, ?_⟩
    · show gx' (o + 1) 0 + gx' (o + 1) 2 = g' 1 2; rw [w1, y2]
    · show gx' (o + 1) 1 + gx' (o + 1) 3 = g' 1 3; rw [w2, y3]
    · show g' 1 3 ≤ 9999; rw [y3]; exact w3
    · show gx' (o + 1) 4 = n_D (g' 1 2) (g' 1 3); rw [y2, y3]; exact w4
  · exact hP.c (fun j i j1 j2 => hf _ _ (by omega) (by omega) (by omega)) (fun i i1 => y1 _ (by omega) (by omega) (by omega) (by omega))
  · exact hV.step he he2
  · exact hG.c (fun j i j1 j2 => hf _ _ (by omega) (by omega) (by omega)) (fun i i1 => y1 _ (by omega) (by omega) (by omega) (by omega))
  · rw [hf' c i (by omega), z_u2 (by omega), z_u2 (by omega)]
theorem Inv.bW {gx gm : z_G} (I : Inv gx gm) : bW gx 23 (gm 1 2) (gm 1 3) := I.2.2.2.1.2.2.2.2.2.2.1.2.1
theorem Inv.bV {gx gm : z_G} (I : Inv gx gm) : bV gx 23 := by
  have h := I.2.2.2.1.2.2.2.2.2.2.1.2.2.2.1
  have h1 : gx 29 1 = gm 1 5 := h.1
  have h2 : 0 ≤ gm 1 5 := h.2.1
  have h3 : gm 1 5 ≤ 200 := h.2.2.1
  have h4 : vS (gx 30) (gm 1 5) := h.2.2.2.1
  exact ⟨by show 0 ≤ gx 29 1; omega, by show gx 29 1 ≤ 200; omega, by show vS (gx 30) (gx 29 1); rw [h1]; exact h4⟩
/-- both arrive, and tell the depth -/
theorem o_arrive {Y : z_X} {K : Nat} {τ gx gx1 gx' gm gm1 : z_G} {T B : Int} {Q : z_P} (hm : z_lay Y K τ 0 z_SM z_RM) (I : Inv gx gm) (hxa : xA gx gx1) (hms : mS gm gm1) (hv : bMv gx1 gx' 23 T B) (hq : ∀ gm2, gm2 1 2 = T → gm2 1 3 = B → z_O Y 2 m_M_depthOf [(2, 0), (0, T), (0, B)] K τ gm2 (fun r' gm' => r' = gx' 24 4 ∧ Inv (z_up gx' 0 0 0) (z_up gm' 0 1 0)) → Q 0 gm2) : z_O Y 2 m_M_comes [(2, 0), (0, T), (0, B)] K τ gm1 Q := by
  have hb : iB (fX gx1 23) (fM gm1 0) := I.2.2.2.1.2.2.2.2.2.2.1.congr (fun j i hj => hxa _ _ (by unfold xK; omega)) (fun i i1 i2 => hms.y _ _ (by unfold yK; omega))
  refine s_M_comes hm hb hv fun g2 hb2 hf e2 e3 => hq g2 e2 e3 ?_
  obtain ⟨⟨w0, w1, w2, w3, w4⟩, hf1, he⟩ := hv
  have hl := n_sp_lt w0
  refine s_M_depthOf hm (by omega) (by omega) (by omega) fun g3 hs h3 => ⟨w4.symm, I.board (fun c i hk hn => ?_) (fun c i hk hn => ?_) ?_ ?_ 0⟩
  · rw [hf1 c i (by omega) (by omega) (by omega), hxa c i hk]
  · rw [hs.y c i hk, hf c i (by omega), hms.y c i hk]
  · refine (I.2.2.2.2).congr (fun i => ?_) (fun i => ?_) ?_ ?_
    · rw [hs 8 i (by unfold mP; omega), hf 8 i (by omega), hms 8 i (by unfold mP; omega)]
    · rw [hs 9 i (by unfold mP; omega), hf 9 i (by omega), hms 9 i (by unfold mP; omega)]
    · rw [hs 0 24 (by unfold mP; omega), hf 0 24 (by omega), hms 0 24 (by unfold mP; omega)]
    · rw [hs 0 25 (by unfold mP; omega), hf 0 25 (by omega), hms 0 25 (by unfold mP; omega)]
  · exact hb2.congr (fun j i hj => rfl) (fun i i1 i2 => hs.y _ _ (by unfold yK; omega))
theorem n_sp_gcd {lt lb ht hb T B : Int} (h : n_sp lt lb ht hb) (e1 : lt + ht = T) (e2 : lb + hb = B) : Int.gcd T B = 1 := by
  obtain ⟨h1, h2, h3, h4, h5, h6⟩ := h
  obtain ⟨x, hx⟩ := Int.gcd_dvd_left T B
  obtain ⟨y, hy⟩ := Int.gcd_dvd_right T B
  generalize Int.gcd T B = c at *
  have e : (c : Int) * (x * lb - y * lt) = 1 := by
    rw [Int.mul_sub, ← Int.mul_assoc, ← Int.mul_assoc, ← hx, ← hy, ← e1, ← e2, Int.add_mul, Int.add_mul, Int.mul_comm hb lt, Int.mul_comm lb lt]
    omega
  have : (c : Int) ∣ 1 := ⟨_, e.symm⟩
  have := Int.le_of_dvd (by omega) this
  rcases c with _ | c
  · simp at e
  · omega
theorem o_flip {X Y : z_X} {N K : Nat} {σ τ gx gm : z_G} (hx : z_lay X N σ 0 z_SF z_RF) (hm : z_lay Y K τ 0 z_SM z_RM) (I : Inv gx gm) : z_O X 4 m_F_flip [(2, 0)] N σ gx (fun r gx' => z_O Y 4 m_M_flip [(2, 0)] K τ gm (fun r' gm' => r' = r ∧ Inv gx' gm')) := by
  refine b_F_flip_0 hx (s_Bd_goAcross (ky_F_23 hx) I.bW I.bV fun g' hb => b_M_flip_0 hm (b_M_flips_0 hm ?_))
  obtain ⟨w0, w1, w2, w3, w4⟩ := I.bW
  have hl := n_sp_lt w0
  refine ⟨by omega, o_arrive hm I xA.rf mS.rf hb fun gm2 e2 e3 hd => ?_⟩
  rw [e2, e3]; exact hd
theorem o_jump {X Y : z_X} {N K : Nat} {σ τ gx gm : z_G} (hx : z_lay X N σ 0 z_SF z_RF) (hm : z_lay Y K τ 0 z_SM z_RM) (I : Inv gx gm) {a1 a2 : Int} (r1 : -2147483648 ≤ a1 ∧ a1 ≤ 2147483647) (r2 : -2147483648 ≤ a2 ∧ a2 ≤ 2147483647) : z_O X 5 m_F_jump [(2, 0), (0, a1), (0, a2)] N σ gx (fun r gx' => z_O Y 4 m_M_jump [(2, 0), (0, a1), (0, a2)] K τ gm (fun r' gm' => r' = r ∧ Inv gx' gm')) := by
  refine b_F_jump_0 hx (s_F_why hx (fun q => ?_) (fun q q2 g' hA => ?_) (fun q g' hc hf => ?_))
  · refine ⟨fun e => absurd e (by omega), fun _ => b_M_jump_0 hm ?_⟩
    repeat' (first | refine And.intro (by omega) ?_ | refine And.intro (fun _ => ?_) (fun q => absurd (by omega) q) | refine And.intro (fun q => absurd q (by omega)) (fun _ => ?_) | refine And.intro (fun _ => ?_) (fun _ => ?_) | refine And.intro (fun q => absurd q (by omega)) ?_ | refine And.intro (fun _ => ?_) ?_ | with_reducible intro _)
    all_goals first | exact I.fin xA.rf yA.rf I.2.2.2.2 1 | (exfalso; omega)
  · refine ⟨fun e => absurd e (by omega), fun _ => b_M_jump_0 hm ?_⟩
    repeat' (first | refine And.intro (by omega) ?_ | refine And.intro (fun _ => ?_) (fun q => absurd (by omega) q) | refine And.intro (fun q => absurd q (by omega)) (fun _ => ?_) | refine And.intro (fun _ => ?_) (fun _ => ?_) | refine And.intro (fun q => absurd q (by omega)) ?_ | refine And.intro (fun _ => ?_) ?_ | with_reducible intro _)
    all_goals first | exact I.fin hA yA.rf I.2.2.2.2 7 | (exfalso; omega)
  · have hv : bV g' 23 := by
      have := I.bV
      unfold bV at this ⊢
      rw [hf (23 + 6) 1 (by omega) (by omega), show g' (23 + 7) = gx (23 + 7) from funext fun i => hf _ _ (by omega) (by omega)]; exact this
    refine ⟨fun _ => s_Bd_goTo (o := 23) (p := 18) (ky_F_23 hx) (ky_F_18 hx) (by omega) hc (by omega) hv fun g2 hb => b_M_jump_0 hm ?_, fun e => absurd rfl e⟩
    have hp : 0 < Int.gcd a1 a2 := Int.gcd_pos_of_ne_zero_right a1 (by omega)
    repeat' (first | refine And.intro (by omega) ?_ | refine And.intro (fun _ => ?_) (fun q => absurd (by omega) q) | refine And.intro (fun q => absurd q (by omega)) (fun _ => ?_) | refine And.intro (fun _ => ?_) (fun _ => ?_) | refine And.intro (fun q => absurd q (by omega)) ?_ | refine And.intro (fun _ => ?_) ?_ | with_reducible intro _)
    refine s_M_common (by omega) (by omega) ?_
    rw [n_td (by omega), n_td (by omega)]
    refine ⟨by omega, o_arrive hm I (xA.ch hf) mS.rf hb fun gm2 e2 e3 hd => ?_⟩
    rw [e2, e3]; exact hd
theorem o_up {X Y : z_X} {N K : Nat} {σ τ gx gm : z_G} (hx : z_lay X N σ 0 z_SF z_RF) (hm : z_lay Y K τ 0 z_SM z_RM) (I : Inv gx gm) : z_O X 4 m_F_up [(2, 0)] N σ gx (fun r gx' => z_O Y 4 m_M_up [(2, 0)] K τ gm (fun r' gm' => r' = r ∧ Inv gx' gm')) := by
  obtain ⟨w0, w1, w2, w3, w4⟩ := I.bW
  have hl := n_sp_lt w0
  have w00 := w0
  obtain ⟨k1, k2, k3, k4, k5, k6⟩ := w00
  have hg : Int.gcd (gm 1 2) (gm 1 3) = 1 := n_sp_gcd w0 w1 w2
  have hp := n_parent (t := gm 1 2) (b := gm 1 3) (by omega) w0 (by rw [hg, w1]; simp) (by rw [hg, w2]; simp)
  refine b_F_up_0 hx (s_Bd_goUp (o := 23) (ky_F_23 hx) I.bW I.bV (fun q _ => ⟨fun _ => b_M_up_0 hm (b_M_goesUp_0 hm ?_), fun e => absurd rfl e⟩) (fun q g' hb _ => ⟨fun e => absurd e (by omega), fun _ => b_M_up_0 hm (b_M_goesUp_0 hm ?_)⟩))
  · have e := n_sp_eq w0 q
    refine ⟨fun _ _ => ⟨fun _ => ⟨rfl, I.fin xA.rf yA.rf I.2.2.2.2 6⟩, fun e => absurd rfl e⟩, fun p => absurd (by omega) p⟩
  · refine ⟨fun p => absurd ?_ q, fun _ => s_M_findsParent hm (by omega) fun gm1 hs f1 f2 => ?_⟩
    · omega
    · have f3 := hp.2 q
      have f4 : gm1 0 28 = (if gx (23 + 1) 3 ≤ gx (23 + 1) 1 then gx (23 + 1) 0 else gx (23 + 1) 2) := by
        rw [f1]; split
        · rename_i c; exact (f3.1 c).2
        · rename_i c; exact (f3.2 c).2
      have f5 : gm1 0 29 = (if gx (23 + 1) 3 ≤ gx (23 + 1) 1 then gx (23 + 1) 1 else gx (23 + 1) 3) := by
        rw [f2]; split
        · rename_i c; exact (f3.1 c).1
        · rename_i c; exact (f3.2 c).1
      rw [f4, f5]
      refine o_arrive hm I xA.rf hs hb fun gm2 e2 e3 hd => fun _ => ⟨fun e => absurd e (by omega), fun _ => ?_⟩
      rw [e2, e3]; exact hd
theorem o_go {X Y : z_X} {N K : Nat} {σ τ gx gm : z_G} (hx : z_lay X N σ 0 z_SF z_RF) (hm : z_lay Y K τ 0 z_SM z_RM) (I : Inv gx gm) {a1 : Int} (r1 : -2147483648 ≤ a1 ∧ a1 ≤ 2147483647) : z_O X 4 m_F_go [(2, 0), (0, a1)] N σ gx (fun r gx' => z_O Y 4 m_M_go [(2, 0), (0, a1)] K τ gm (fun r' gm' => r' = r ∧ Inv gx' gm')) := by
  obtain ⟨w0, w1, w2, w3, w4⟩ := I.bW
  have hl := n_sp_lt w0
  have w00 := w0
  obtain ⟨k1, k2, k3, k4, k5, k6⟩ := w00
  have main : (a1 = 0 ∨ a1 = 1) → z_O X 3 m_Bd_goDown [(2, 23), (0, a1)] N σ gx (fun r1 g1 => (r1 = 0 ∨ r1 = 1) → (((r1 = 0) → z_O Y 4 m_M_go [(2, 0), (0, a1)] K τ gm (fun r' gm' => r' = -1 ∧ Inv (z_up g1 0 0 7) gm')) ∧ (¬ (r1 = 0) → z_O Y 4 m_M_go [(2, 0), (0, a1)] K τ gm (fun r' gm' => r' = g1 24 4 ∧ Inv (z_up g1 0 0 0) gm')))) := by
    intro ha
    have child : ∀ {Q : z_P}, (∀ gm1, mS gm gm1 → gm1 0 28 = gm 1 2 + (if a1 = 0 then gx (23 + 1) 0 else gx (23 + 1) 2) → gm1 0 29 = gm 1 3 + (if a1 = 0 then gx (23 + 1) 1 else gx (23 + 1) 3) → Q 0 gm1) → z_O Y 1 m_M_findsChild [(2, 0), (0, gm 1 2), (0, gm 1 3), (0, a1)] K τ gm Q := by
      intro Q hq
      rw [← w1, ← w2]
      refine s_M_findsChild hm w0 (by omega) ha ?_
      split
      · rename_i c
        refine hq _ ((mS.rf.up (by unfold mP mK; omega)).up (by unfold mP mK; omega)) ?_ ?_
        · rw [z_u2 (by omega), z_u1, if_pos c, ← w1]
        · rw [z_u1, if_pos c, ← w2]
      · rename_i c
        refine hq _ ((mS.rf.up (by unfold mP mK; omega)).up (by unfold mP mK; omega)) ?_ ?_
        · rw [z_u2 (by omega), z_u1, if_neg c, ← w1]
        · rw [z_u1, if_neg c, ← w2]
    refine s_Bd_goDown (o := 23) (ky_F_23 hx) I.bW I.bV (fun q _ => ⟨fun _ => b_M_go_0 hm ?_, fun e => absurd rfl e⟩) (fun q g' hb _ => ⟨fun e => absurd e (by omega), fun _ => b_M_go_0 hm ?_⟩)
    · refine ⟨fun p => absurd p (by omega), fun _ => ⟨fun _ => b_M_goes_0 hm (child fun gm1 hs f1 f2 => ⟨fun p => absurd (by rw [← f2]; exact p) q, fun _ _ => ⟨fun _ => ⟨rfl, I.fin xA.rf hs.y (hs.c I.2.2.2.2) 7⟩, fun e => absurd rfl e⟩⟩), fun p => absurd (by omega) p⟩⟩
    · refine ⟨fun p => absurd p (by omega), fun _ => ⟨fun _ => b_M_goes_0 hm (child fun gm1 hs f1 f2 => ⟨fun p => ?_, fun p => absurd (by rw [f2]; exact q) p⟩), fun p => absurd (by omega) p⟩⟩
      rw [f1, f2]
      refine o_arrive hm I xA.rf hs hb fun gm2 e2 e3 hd => fun _ => ⟨fun e => absurd e (by omega), fun _ => ?_⟩
      rw [e2, e3]; exact hd
  refine b_F_go_0 hx ⟨fun c => main (Or.inl c), fun c => ⟨fun c2 => main (Or.inr c2), fun c2 => b_M_go_0 hm ?_⟩⟩
  repeat' (first | refine And.intro (by omega) ?_ | refine And.intro (fun _ => ?_) (fun q => absurd (by omega) q) | refine And.intro (fun q => absurd q (by omega)) (fun _ => ?_) | refine And.intro (fun _ => ?_) (fun _ => ?_) | refine And.intro (fun q => absurd q (by omega)) ?_ | refine And.intro (fun _ => ?_) ?_ | with_reducible intro _)
  all_goals first | exact I.fin xA.rf yA.rf I.2.2.2.2 1 | (exfalso; omega)

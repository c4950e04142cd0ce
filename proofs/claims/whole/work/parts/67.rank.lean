/-! ## place, rank, below, between -/
theorem rI.at2 {o k : Nat} (ho : 1 ≤ o ∧ o ≤ 200) {t b : Int} (hv : 1 ≤ b ∧ b ≤ 9999 ∧ 0 ≤ t ∧ t ≤ b) (h : rI o t b k) : (b / Int.gcd t b ≤ o ↔ n_rT o k * b = t * n_rB o k) ∧ (b / Int.gcd t b ≤ o → n_rT o k = t / Int.gcd t b ∧ n_rB o k = b / Int.gcd t b) := by
  have hp : 0 < Int.gcd t b := Int.gcd_pos_of_ne_zero_right t (by omega)
  have hr := n_red hv
  have h' := h.red hv.1
  have a := h'.at ho hr
  have d1 : t = Int.gcd t b * (t / Int.gcd t b) := (Int.mul_ediv_cancel' (Int.gcd_dvd_left t b)).symm
  have d2 : b = Int.gcd t b * (b / Int.gcd t b) := (Int.mul_ediv_cancel' (Int.gcd_dvd_right t b)).symm
  generalize Int.gcd t b = c at *
  generalize t / (c : Int) = t' at *
  generalize b / (c : Int) = b' at *
  have e1 : n_rT o k * b = c * (n_rT o k * b') := by rw [d2]; ac_rfl
  have e2 : t * n_rB o k = c * (t' * n_rB o k) := by rw [d1]; ac_rfl
  refine ⟨⟨fun q => ?_, fun q => a.2 ?_⟩, a.1⟩
  · obtain ⟨f1, f2⟩ := a.1 q
    rw [e1, e2, f1, f2]
  · rw [e1, e2] at q
    exact Int.eq_of_mul_eq_mul_left (show (c : Int) ≠ 0 by omega) q
theorem s_M_lessThan {X : z_X} {N : Nat} {σ g : z_G} {Q : z_P} (hm : z_lay X N σ 0 z_SM z_RM) {o : Nat} (ho : 1 ≤ o ∧ o ≤ 200) (e11 : g 1 1 = o) (hc : mC g) {t b : Int} (hv : 1 ≤ b ∧ b ≤ 9999 ∧ 0 ≤ t ∧ t ≤ b) (hq : ∀ (g' : z_G) (k : Nat), mL g g' → rW g' o → rI o t b k → Q k g') : z_O X 4 m_M_lessThan [(2, 0), (0, t), (0, b)] N σ g Q := by
  refine b_M_lessThan_0 hm ?_
  rw [e11]
  refine s_M_lays hm ho hc fun g' (hf : mL g g') hw => ?_
  obtain ⟨k, hk⟩ := rI_ex ho (t := t) (b := b) hv.1 hv.2.2
  obtain ⟨w1, w2⟩ := hw.row ho
  obtain ⟨r1, r2, r3, r4, r5, r6⟩ := n_row ho
  have hQ := hq g' k hf hw hk
  obtain ⟨h1, h2, h3, h4⟩ := hk
  have bd : ∀ i : Nat, i ≤ n_rn o → 0 ≤ n_rT o i * b ∧ n_rT o i * b ≤ 99980001 ∧ 0 ≤ t * n_rB o i ∧ t * n_rB o i ≤ 99980001 := fun i hi => by
    have a := r1.2.2.2.2.1 i hi
    have b1 := n_mb (u := n_rT o i) (v := b) (by omega) (by omega) (by omega) (by omega)
    have b2 := n_mb (u := t) (v := n_rB o i) (by omega) (by omega) (by omega) (by omega)
    omega
  have loop : ∀ (m x : Nat), x + m = k → L_M_lessThan_6 X N σ t b x g' Q := by
    intro m
    induction m with
    | zero =>
      intro x hx
      have : x = k := by omega
      subst this
      have a := bd x h1
      have c := h3 x (Nat.le_refl x) h1
      have e := w2 x (by omega) (by omega)
      refine b_M_lessThan_6 hm ?_
      rw [w1, e.1, e.2]
      exact ⟨fun _ => hQ, fun _ => ⟨by omega, by omega, by omega, fun _ => hQ, fun p => absurd c p⟩⟩
    | succ m ih =>
      intro x hx
      have a := bd x (by omega)
      have c := h2 x (by omega)
      have e := w2 x (by omega) (by omega)
      refine b_M_lessThan_6 hm ?_
      rw [w1, e.1, e.2]
      exact ⟨fun p => absurd p (by omega), fun _ => ⟨by omega, by omega, by omega, fun p => absurd p (by omega), fun _ => ⟨by omega, ih (x + 1) (by omega)⟩⟩⟩
  exact loop k 0 (by omega)
theorem cCh.tb {g : z_G} {o : Nat} {t b : Int} (h : cCh g o t b) : g o 3 = t / Int.gcd t b ∧ g o 4 = b / Int.gcd t b := ⟨h.2.2.2.2.1, h.2.2.2.2.2.1⟩
theorem xR.c {g g' : z_G} (h : xR g) (hf : ∀ c i, ¬ (18 ≤ c ∧ c ≤ 22) → g' c i = g c i) : xR g' := fun d hd => by
  have := h d hd
  rw [hf 16 d (by omega), hf 17 d (by omega)]; exact this
theorem o_rank {X Y : z_X} {N K : Nat} {σ τ gx gm : z_G} (hx : z_lay X N σ 0 z_SF z_RF) (hm : z_lay Y K τ 0 z_SM z_RM) (I : Inv gx gm) {a1 a2 : Int} (r1 : -2147483648 ≤ a1 ∧ a1 ≤ 2147483647) (r2 : -2147483648 ≤ a2 ∧ a2 ≤ 2147483647) : z_O X 4 m_F_rank [(2, 0), (0, a1), (0, a2)] N σ gx (fun r gx' => z_O Y 5 m_M_rank [(2, 0), (0, a1), (0, a2)] K τ gm (fun r' gm' => r' = r ∧ Inv gx' gm')) := by
  obtain ⟨o, o1, o2, o3, o4⟩ := Inv_o I
  refine b_F_rank_0 hx (s_Ch_take (ky_F_18 hx) (fun q => ?_) (fun q g' hc hf => ?_))
  · refine fun _ => ⟨fun _ => b_M_rank_0 hm ?_, fun e => absurd rfl e⟩
    repeat' (first | refine And.intro (by omega) ?_ | refine And.intro (fun _ => ?_) (fun q => absurd (by omega) q) | refine And.intro (fun q => absurd q (by omega)) (fun _ => ?_) | refine And.intro (fun _ => ?_) (fun _ => ?_) | refine And.intro (fun q => absurd q (by omega)) ?_ | refine And.intro (fun _ => ?_) ?_ | with_reducible intro _)
    all_goals first | exact I.fin xA.rf yA.rf I.2.2.2.2 1 | (exfalso; omega)
  · refine fun _ => ⟨fun e => absurd e (by omega), fun _ => ?_⟩
    obtain ⟨k, hk⟩ := rI_ex ⟨o1, o2⟩ (t := a1) (b := a2) q.1 q.2.2
    obtain ⟨v1, v2, v3, v4, v5⟩ := n_red q
    have cu := (hk.red q.1).cu ⟨o1, o2⟩ v3 v1
    rw [hc.tb.1, hc.tb.2, hf 23 0 (by omega) (by omega), o4]
    refine s_Rw_countUnder hx ((Inv_xR I).c fun c i hn => hf c i (by omega) (by omega)) ⟨o1, o2⟩ (by omega) (by omega) (b_M_rank_0 hm ?_)
    rw [cu]
    refine ⟨fun p => absurd p (by omega), fun _ => ⟨fun p => absurd p (by omega), fun _ => ⟨fun p => absurd p (by omega), fun _ => ⟨fun p => absurd p (by omega), fun _ => s_M_lessThan hm ⟨o1, o2⟩ o3 I.2.2.2.2 q fun gm' k' h1 h2 h3 => ⟨by rw [h3.eq hk], I.fin (xA.ch hf) h1.y (h2.c ⟨o1, o2⟩) 0⟩⟩⟩⟩⟩
theorem o_place {X Y : z_X} {N K : Nat} {σ τ gx gm : z_G} (hx : z_lay X N σ 0 z_SF z_RF) (hm : z_lay Y K τ 0 z_SM z_RM) (I : Inv gx gm) {a1 a2 : Int} (r1 : -2147483648 ≤ a1 ∧ a1 ≤ 2147483647) (r2 : -2147483648 ≤ a2 ∧ a2 ≤ 2147483647) : z_O X 4 m_F_place [(2, 0), (0, a1), (0, a2)] N σ gx (fun r gx' => z_O Y 5 m_M_place [(2, 0), (0, a1), (0, a2)] K τ gm (fun r' gm' => r' = r ∧ Inv gx' gm')) := by
  obtain ⟨o, o1, o2, o3, o4⟩ := Inv_o I
  obtain ⟨r1, r2, r3, r4, r5, r6⟩ := n_row ⟨o1, o2⟩
  refine b_F_place_0 hx (s_Ch_take (ky_F_18 hx) (fun q => ?_) (fun q g' hc hf => ?_))
  · refine fun _ => ⟨fun _ => b_M_place_0 hm ?_, fun e => absurd rfl e⟩
    repeat' (first | refine And.intro (by omega) ?_ | refine And.intro (fun _ => ?_) (fun q => absurd (by omega) q) | refine And.intro (fun q => absurd q (by omega)) (fun _ => ?_) | refine And.intro (fun _ => ?_) (fun _ => ?_) | refine And.intro (fun q => absurd q (by omega)) ?_ | refine And.intro (fun _ => ?_) ?_ | with_reducible intro _)
    all_goals first | exact I.fin xA.rf yA.rf I.2.2.2.2 1 | (exfalso; omega)
  · refine fun _ => ⟨fun e => absurd e (by omega), fun _ => ?_⟩
    obtain ⟨k, hk⟩ := rI_ex ⟨o1, o2⟩ (t := a1) (b := a2) q.1 q.2.2
    obtain ⟨v1, v2, v3, v4, v5⟩ := n_red q
    have cu := (hk.red q.1).cu ⟨o1, o2⟩ v3 v1
    have at2 := hk.at2 ⟨o1, o2⟩ q
    rw [hc.tb.1, hc.tb.2, hf 23 0 (by omega) (by omega), o4]
    have bk := r1.2.2.2.2.1 k hk.1
    have b1 := n_mb (u := n_rT o k) (v := a2) (by omega) (by omega) (by omega) (by omega)
    have b2 := n_mb (u := a1) (v := n_rB o k) (by omega) (by omega) (by omega) (by omega)
    have mrun : ∀ {Q : z_P}, (∀ gm', mL gm gm' → rW gm' o → ((n_rT o k * a2 = a1 * n_rB o k) → Q k (z_up gm' 0 1 0)) ∧ (¬ (n_rT o k * a2 = a1 * n_rB o k) → Q (-1) (z_up gm' 0 1 6))) → z_O Y 5 m_M_place [(2, 0), (0, a1), (0, a2)] K τ gm Q := fun h => b_M_place_0 hm ⟨fun p => absurd p (by omega), fun _ => ⟨fun p => absurd p (by omega), fun _ => ⟨fun p => absurd p (by omega), fun _ => ⟨fun p => absurd p (by omega), fun _ => s_M_lessThan hm ⟨o1, o2⟩ o3 I.2.2.2.2 q fun gm' k' h1 h2 h3 => by
      have e := h3.eq hk
      subst e
      obtain ⟨w1, w2⟩ := h2.row ⟨o1, o2⟩
      have kl := hk.1
      obtain ⟨e1, e2⟩ := w2 k' (by omega) (by omega)
      rw [w1, e1, e2]
      obtain ⟨h5, h6⟩ := h gm' h1 h2
      exact ⟨fun p => absurd p (by omega), fun _ => ⟨by omega, by omega, by omega, h5, h6⟩⟩⟩⟩⟩⟩
    refine ⟨fun c => s_Rw_countUnder hx ((Inv_xR I).c fun c i hn => hf c i (by omega) (by omega)) ⟨o1, o2⟩ (by omega) (by omega) (mrun fun gm' h1 h2 => ⟨fun _ => ⟨cu.symm, I.fin (xA.ch hf) h1.y (h2.c ⟨o1, o2⟩) 0⟩, fun p => absurd (at2.1.mp c) p⟩), fun c => mrun fun gm' h1 h2 => ⟨fun p => absurd (at2.1.mpr p) c, fun _ => ⟨rfl, I.fin (xA.ch hf) h1.y (h2.c ⟨o1, o2⟩) 6⟩⟩⟩
theorem n_sh1 : ∀ n : Nat, n < 61 → Int64.toInt (Int64.ofInt 1 <<< ((Int32.ofInt (n : Int)).toInt64 &&& 63)) = 2 ^ n := by decide +kernel
theorem n_sh2 : ∀ n : Nat, n < 61 → (((Int32.ofInt (n : Int)).toInt64 &&& 63).toBitVec.smod 64).toNat = n := by decide +kernel
theorem n_sh3 : ∀ n : Nat, n < 61 → (1 : Int) ≤ 2 ^ n ∧ (2 : Int) ^ n ≤ 1152921504606846976 := by decide +kernel
theorem n_shr64 {v : Int} (hv : -9223372036854775808 ≤ v ∧ v ≤ 9223372036854775807) {n : Nat} (hn : n < 61) : Int64.toInt (Int64.ofInt v >>> ((Int32.ofInt (n : Int)).toInt64 &&& 63)) = v / 2 ^ n := by
  show ((Int64.ofInt v).toBitVec.sshiftRight (((Int32.ofInt (n : Int)).toInt64 &&& 63).toBitVec.smod 64).toNat).toInt = _
  rw [n_sh2 n hn, BitVec.toInt_sshiftRight]
  show (Int64.ofInt v).toInt >>> n = _
  rw [z_j hv, Int.shiftRight_eq_div_pow]
  simp
theorem o_below {X Y : z_X} {N K : Nat} {σ τ gx gm : z_G} (hx : z_lay X N σ 0 z_SF z_RF) (hm : z_lay Y K τ 0 z_SM z_RM) (I : Inv gx gm) {a1 a3 : Int} (r1 : -9223372036854775808 ≤ a1 ∧ a1 ≤ 9223372036854775807) (r3 : -2147483648 ≤ a3 ∧ a3 ≤ 2147483647) : z_O X 2 m_F_below [(2, 0), (1, a1), (0, a3)] N σ gx (fun r gx' => z_O Y 4 m_M_below [(2, 0), (1, a1), (0, a3)] K τ gm (fun r' gm' => r' = r ∧ Inv gx' gm')) := by
  obtain ⟨o, o1, o2, o3, o4⟩ := Inv_o I
  obtain ⟨r1', r2', r3', r4', r5', r6'⟩ := n_row ⟨o1, o2⟩
  have F : (-1 : Int) = -1 ∧ Inv (z_up gx 0 0 1) (z_up gm 0 1 1) := ⟨rfl, I.fin xA.rf yA.rf I.2.2.2.2 1⟩
  by_cases hg : 0 ≤ a1 ∧ a1 ≤ 9007199254740992 ∧ -60 ≤ a3 ∧ a3 ≤ 0
  · obtain ⟨n, hn⟩ : ∃ n : Nat, -a3 = n := ⟨(-a3).toNat, by omega⟩
    have s1 := n_sh1 n (by omega)
    have s3 := n_sh3 n (by omega)
    refine b_F_below_0 hx ?_
    rw [hn, s1]
    refine ⟨fun p => absurd p (by omega), fun _ => ⟨fun p => absurd p (by omega), fun _ => ⟨fun p => absurd p (by omega), fun _ => ⟨fun _ => ⟨by omega, fun c => ?_, fun c => b_M_below_0 hm ?_⟩, fun p => absurd hg.2.2.2 p⟩⟩⟩⟩
    · obtain ⟨k, hk⟩ := rI_ex ⟨o1, o2⟩ (t := a1) (b := 2 ^ n) s3.1 ⟨hg.1, c⟩
      have cu := hk.cu ⟨o1, o2⟩ s3.1 hg.1
      rw [o4]
      refine s_Rw_countUnder hx (Inv_xR I) ⟨o1, o2⟩ (by omega) (by omega) (b_M_below_0 hm ?_)
      rw [hn, s1, cu]
      refine ⟨fun p => absurd p (by omega), fun _ => ⟨fun p => absurd p (by omega), fun _ => ⟨fun p => absurd p (by omega), fun _ => ⟨fun p => absurd p (by omega), fun _ => ⟨by omega, fun _ => ?_, fun p => absurd c p⟩⟩⟩⟩⟩
      rw [o3]
      refine s_M_lays hm ⟨o1, o2⟩ I.2.2.2.2 fun gm' (hf : mL gm gm') hw => ?_
      obtain ⟨w1, w2⟩ := hw.row ⟨o1, o2⟩
      obtain ⟨h1, h2, h3, h4⟩ := hk
      have bd : ∀ i : Nat, i ≤ n_rn o → 0 ≤ a1 * n_rB o i ∧ a1 * n_rB o i ≤ 1801439850948198400 := fun i hi => by
        have a := r1'.2.2.2.2.1 i hi
        have m1 : a1 * n_rB o i ≤ a1 * 200 := Int.mul_le_mul_of_nonneg_left (by omega) hg.1
        exact ⟨Int.mul_nonneg hg.1 (by omega), by omega⟩
      have loop : ∀ (m x : Nat), x + m = k → L_M_below_45 Y K τ a1 a3 x gm' (fun r' gm'' => r' = (k : Int) ∧ Inv (z_up gx 0 0 0) gm'') := by
        intro m
        induction m with
        | zero =>
          intro x hx'
          have : x = k := by omega
          subst this
          have a := bd x h1
          have c := h3 x (Nat.le_refl x) h1
          have e := w2 x (by omega) (by omega)
          refine b_M_below_45 hm ?_
          rw [w1, e.1, e.2, hn, n_shr64 (by omega) (by omega)]
          have FF : (x : Int) = (x : Int) ∧ Inv (z_up gx 0 0 0) (z_up gm' 0 1 0) := ⟨rfl, I.fin xA.rf hf.y (hw.c ⟨o1, o2⟩) 0⟩
          refine ⟨fun _ => FF, fun _ => ⟨by omega, by omega, by omega, by omega, fun _ => FF, fun p => absurd ?_ p⟩⟩
          rw [Int.ediv_lt_iff_lt_mul (by omega)]
          omega
        | succ m ih =>
          intro x hx'
          have a := bd x (by omega)
          have c := h2 x (by omega)
          have e := w2 x (by omega) (by omega)
          refine b_M_below_45 hm ?_
          rw [w1, e.1, e.2, hn, n_shr64 (by omega) (by omega)]
          refine ⟨fun p => absurd p (by omega), fun _ => ⟨by omega, by omega, by omega, by omega, fun p => ?_, fun _ => ⟨by omega, ih (x + 1) (by omega)⟩⟩⟩
          rw [Int.ediv_lt_iff_lt_mul (by omega)] at p
          exfalso; omega
      exact loop k 0 (by omega)
    · rw [hn, s1]
      exact ⟨fun _ => F, fun _ => ⟨fun _ => F, fun _ => ⟨fun _ => F, fun _ => ⟨fun _ => F, fun _ => ⟨by omega, fun p => absurd p c, fun _ => F⟩⟩⟩⟩⟩
  · have bad : z_O Y 4 m_M_below [(2, 0), (1, a1), (0, a3)] K τ gm (fun r' gm' => r' = -1 ∧ Inv (z_up gx 0 0 1) gm') := b_M_below_0 hm ⟨fun _ => F, fun _ => ⟨fun _ => F, fun _ => ⟨fun _ => F, fun _ => ⟨fun _ => F, fun p => by exfalso; omega⟩⟩⟩⟩
    exact b_F_below_0 hx ⟨fun _ => bad, fun _ => ⟨fun _ => bad, fun _ => ⟨fun _ => bad, fun _ => ⟨fun _ => by exfalso; omega, fun _ => bad⟩⟩⟩⟩
theorem o_between {X Y : z_X} {N K : Nat} {σ τ gx gm : z_G} (hx : z_lay X N σ 0 z_SF z_RF) (hm : z_lay Y K τ 0 z_SM z_RM) (I : Inv gx gm) {a1 a2 a3 a4 : Int} (r1 : -2147483648 ≤ a1 ∧ a1 ≤ 2147483647) (r2 : -2147483648 ≤ a2 ∧ a2 ≤ 2147483647) (r3 : -2147483648 ≤ a3 ∧ a3 ≤ 2147483647) (r4 : -2147483648 ≤ a4 ∧ a4 ≤ 2147483647) : z_O X 4 m_F_between [(2, 0), (0, a1), (0, a2), (0, a3), (0, a4)] N σ gx (fun r gx' => z_O Y 4 m_M_between [(2, 0), (0, a1), (0, a2), (0, a3), (0, a4)] K τ gm (fun r' gm' => r' = r ∧ Inv gx' gm')) := by
  obtain ⟨o, o1, o2, o3, o4⟩ := Inv_o I
  obtain ⟨r1', r2', r3', r4', r5', r6'⟩ := n_row ⟨o1, o2⟩
  have F : (-1 : Int) = -1 ∧ Inv (z_up gx 0 0 1) (z_up gm 0 1 1) := ⟨rfl, I.fin xA.rf yA.rf I.2.2.2.2 1⟩
  refine b_F_between_0 hx (s_F_takeRising hx (fun q => ?_) (fun q g' c1 c2 hf => ?_))
  · exact fun _ => ⟨fun _ => b_M_between_0 hm ⟨fun _ => F, fun _ => ⟨fun _ => F, fun _ => ⟨fun _ => F, fun _ => ⟨fun _ => F, fun _ => ⟨fun _ => F, fun _ => ⟨fun _ => F, fun _ => ⟨fun _ => F, fun _ => ⟨fun _ => F, fun _ => by exfalso; omega⟩⟩⟩⟩⟩⟩⟩⟩, fun e => absurd rfl e⟩
  refine fun _ => ⟨fun e => absurd e (by omega), fun _ => ?_⟩
  have hA : xA gx g' := fun c i hk => hf c i (by unfold xK at hk; omega)
  have e23 : g' 23 0 = o := by rw [hf _ _ (by omega)]; exact o4
  have xr : xR g' := (Inv_xR I).c fun c i hn => hf c i (by omega)
  -- the reference: it counts those between
  have mrun : ∀ (C : Nat → Int) (r : Int), C 0 = 0 → (∀ x : Nat, x ≤ n_rn o → 0 ≤ C x ∧ C x ≤ 20000 ∧ C (x + 1) = C x + (if (n_rT o x * a2 - a1 * n_rB o x > 0 ∧ n_rT o x * a4 - a3 * n_rB o x < 0) ∨ (n_rT o x * a2 - a1 * n_rB o x < 0 ∧ n_rT o x * a4 - a3 * n_rB o x > 0) then 1 else 0)) → C (n_rn o + 1) = r → z_O Y 4 m_M_between [(2, 0), (0, a1), (0, a2), (0, a3), (0, a4)] K τ gm (fun r' gm' => r' = r ∧ Inv (z_up g' 0 0 0) gm') := by
    intro C r C0 Cs Ce
    refine b_M_between_0 hm ⟨fun p => by exfalso; omega, fun _ => ⟨fun p => by exfalso; omega, fun _ => ⟨fun p => by exfalso; omega, fun _ => ⟨fun p => by exfalso; omega, fun _ => ⟨fun p => by exfalso; omega, fun _ => ⟨fun p => by exfalso; omega, fun _ => ⟨fun p => by exfalso; omega, fun _ => ⟨fun p => by exfalso; omega, fun _ => ?_⟩⟩⟩⟩⟩⟩⟩⟩
    rw [o3]
    refine s_M_lays hm ⟨o1, o2⟩ I.2.2.2.2 fun gm' (hfm : mL gm gm') hw => ?_
    obtain ⟨w1, w2⟩ := hw.row ⟨o1, o2⟩
    have loop : ∀ (m x : Nat), x + m = n_rn o + 1 → L_M_between_33 Y K τ a1 a2 a3 a4 (C x) x gm' (fun r' gm'' => r' = r ∧ Inv (z_up g' 0 0 0) gm'') := by
      intro m
      induction m with
      | zero =>
        intro x hx'
        have : x = n_rn o + 1 := by omega
        subst this
        refine b_M_between_33 hm ?_
        rw [w1]
        exact ⟨fun _ => ⟨Ce, I.fin hA hfm.y (hw.c ⟨o1, o2⟩) 0⟩, fun p => absurd (by omega) p⟩
      | succ m ih =>
        intro x hx'
        obtain ⟨s1, s2, s3⟩ := Cs x (by omega)
        have a := r1'.2.2.2.2.1 x (by omega)
        have e := w2 x (by omega) (by omega)
        have b1 := n_mb (u := n_rT o x) (v := a2) (by omega) (by omega) (by omega) (by omega)
        have b2 := n_mb (u := a1) (v := n_rB o x) (by omega) (by omega) (by omega) (by omega)
        have b3 := n_mb (u := n_rT o x) (v := a4) (by omega) (by omega) (by omega) (by omega)
        have b4 := n_mb (u := a3) (v := n_rB o x) (by omega) (by omega) (by omega) (by omega)
        have i1 := ih (x + 1) (by omega)
        rw [s3] at i1
        refine b_M_between_33 hm ?_
        rw [w1, e.1, e.2]
        have bu : -99980001 ≤ n_rT o x * a2 - a1 * n_rB o x ∧ n_rT o x * a2 - a1 * n_rB o x ≤ 99980001 := by omega
        have bv : -99980001 ≤ n_rT o x * a4 - a3 * n_rB o x ∧ n_rT o x * a4 - a3 * n_rB o x ≤ 99980001 := by omega
        generalize n_rT o x * a2 - a1 * n_rB o x = u at *
        generalize n_rT o x * a4 - a3 * n_rB o x = v at *
        refine ⟨fun p => absurd p (by omega), fun _ => ⟨by omega, by omega, by omega, by omega, by omega, by omega, by omega, fun p1 => ⟨fun p2 => ⟨by omega, by omega, ?_⟩, fun p2 => ⟨fun p3 => ⟨by omega, by omega, ?_⟩, fun p3 => ⟨by omega, by omega, ?_⟩⟩⟩, fun p1 => ⟨fun p2 => ⟨by omega, by omega, ?_⟩, fun p2 => ⟨fun p3 => ⟨by omega, by omega, ?_⟩, fun p3 => by exfalso; omega⟩⟩⟩⟩
        · rw [if_neg (by omega)] at i1; exact i1
        · rw [if_neg (by omega)] at i1; exact i1
        · rw [if_pos (by omega)] at i1; exact i1
        · rw [if_pos (by omega)] at i1; exact i1
        · rw [if_neg (by omega)] at i1; exact i1
    have := loop (n_rn o + 1) 0 (by omega)
    rw [C0] at this
    exact this
  -- the class, of a lesser and a greater
  obtain ⟨t, b, t', b', v, v', le, h18, h20, who⟩ : ∃ t b t' b' : Int, (1 ≤ b ∧ b ≤ 9999 ∧ 0 ≤ t ∧ t ≤ b) ∧ (1 ≤ b' ∧ b' ≤ 9999 ∧ 0 ≤ t' ∧ t' ≤ b') ∧ t * b' ≤ t' * b ∧ cCh g' 18 t b ∧ cCh g' 20 t' b' ∧ ((t = a1 ∧ b = a2 ∧ t' = a3 ∧ b' = a4) ∨ (t = a3 ∧ b = a4 ∧ t' = a1 ∧ b' = a2)) := by
    by_cases c : 0 < a1 * a4 - a3 * a2
    · obtain ⟨d1, d2⟩ := c1 c
      exact ⟨a3, a4, a1, a2, by omega, by omega, by omega, d1, d2, Or.inr ⟨rfl, rfl, rfl, rfl⟩⟩
    · obtain ⟨d1, d2⟩ := c2 c
      exact ⟨a1, a2, a3, a4, by omega, by omega, by omega, d1, d2, Or.inl ⟨rfl, rfl, rfl, rfl⟩⟩
  obtain ⟨k, hk⟩ := rI_ex ⟨o1, o2⟩ (t := t) (b := b) v.1 v.2.2
  obtain ⟨k', hk'⟩ := rI_ex ⟨o1, o2⟩ (t := t') (b := b') v'.1 v'.2.2
  have z1 := n_red v
  have z2 := n_red v'
  obtain ⟨u1, u2, u3, u4, u5⟩ := id z1
  obtain ⟨y1, y2, y3, y4, y5⟩ := id z2
  have cu := (hk.red v.1).cu ⟨o1, o2⟩ u3 u1
  have cu' := (hk'.red v'.1).cu ⟨o1, o2⟩ y3 y1
  have at2 := hk.at2 ⟨o1, o2⟩ v
  have kl := hk.1
  have kl' := hk'.1
  have hd1 : t = Int.gcd t b * (t / Int.gcd t b) := (Int.mul_ediv_cancel' (Int.gcd_dvd_left t b)).symm
  have hd2 : b = Int.gcd t b * (b / Int.gcd t b) := (Int.mul_ediv_cancel' (Int.gcd_dvd_right t b)).symm
  have hd3 : t' = Int.gcd t' b' * (t' / Int.gcd t' b') := (Int.mul_ediv_cancel' (Int.gcd_dvd_left t' b')).symm
  have hd4 : b' = Int.gcd t' b' * (b' / Int.gcd t' b') := (Int.mul_ediv_cancel' (Int.gcd_dvd_right t' b')).symm
  -- who is between
  have btw : ∀ x : Nat, x ≤ n_rn o → ((((n_rT o x * a2 - a1 * n_rB o x > 0 ∧ n_rT o x * a4 - a3 * n_rB o x < 0) ∨ (n_rT o x * a2 - a1 * n_rB o x < 0 ∧ n_rT o x * a4 - a3 * n_rB o x > 0)) ↔ (t * n_rB o x < n_rT o x * b ∧ n_rT o x * b' < t' * n_rB o x))) := by
    intro x hx'
    have a := r1'.2.2.2.2.1 x hx'
    have imp : ¬ (n_rT o x * b < t * n_rB o x ∧ t' * n_rB o x < n_rT o x * b') := fun ⟨p1, p2⟩ => by
      have := n_less_tr (t := t') (b := b') (u := n_rT o x) (c := n_rB o x) (v := t) (d := b) v'.1 a.2.2.1 v.1 p2 p1
      omega
    rcases who with ⟨rfl, rfl, rfl, rfl⟩ | ⟨rfl, rfl, rfl, rfl⟩
    · constructor
      · rintro (h | h)
        · omega
        · exact absurd ⟨by omega, by omega⟩ imp
      · intro h; exact Or.inl (by omega)
    · constructor
      · rintro (h | h)
        · exact absurd ⟨by omega, by omega⟩ imp
        · omega
      · intro h; exact Or.inr (by omega)
  have same : t * b' = t' * b → z_O Y 4 m_M_between [(2, 0), (0, a1), (0, a2), (0, a3), (0, a4)] K τ gm (fun r' gm' => r' = 0 ∧ Inv (z_up g' 0 0 0) gm') := by
    intro e
    refine mrun (fun _ => 0) 0 rfl (fun x hx' => ⟨by omega, by omega, ?_⟩) rfl
    rw [if_neg (fun h => ?_)]
    · rfl
    · obtain ⟨p1, p2⟩ := (btw x hx').mp h
      have a := r1'.2.2.2.2.1 x hx'
      have := n_less_tr (t := t) (b := b) (u := n_rT o x) (c := n_rB o x) (v := t') (d := b') v.1 a.2.2.1 v'.1 p1 p2
      omega
  have unl : ¬ (t / Int.gcd t b = t' / Int.gcd t' b' ∧ b / Int.gcd t b = b' / Int.gcd t' b') → t * b' < t' * b := by
    intro h
    rcases Int.lt_or_le (t * b') (t' * b) with c | c
    · exact c
    · exfalso
      refine h (n_val_eq u3 y3 u5 y5 ?_)
      have e : t * b' = t' * b := by omega
      have hp : 0 < Int.gcd t b := Int.gcd_pos_of_ne_zero_right t (by omega)
      have hp' : 0 < Int.gcd t' b' := Int.gcd_pos_of_ne_zero_right t' (by omega)
      generalize Int.gcd t b = c at *
      generalize Int.gcd t' b' = d at *
      generalize t / (c : Int) = t1 at *
      generalize b / (c : Int) = b1 at *
      generalize t' / (d : Int) = t2 at *
      generalize b' / (d : Int) = b2 at *
      rw [hd1, hd2, hd3, hd4] at e
      have e1 : (c : Int) * t1 * (d * b2) = c * d * (t1 * b2) := by ac_rfl
      have e2 : (d : Int) * t2 * (c * b1) = c * d * (t2 * b1) := by ac_rfl
      rw [e1, e2] at e
      have cd : (0 : Int) < c * d := Int.mul_pos (by omega) (by omega)
      exact Int.eq_of_mul_eq_mul_left (show (c : Int) * d ≠ 0 by omega) e
  -- the count
  have cnt : t * b' < t' * b → ∀ p : Nat, p ≤ 1 → (p = 1 ↔ n_rT o k * b = t * n_rB o k) → k + p ≤ k' ∧ z_O Y 4 m_M_between [(2, 0), (0, a1), (0, a2), (0, a3), (0, a4)] K τ gm (fun r' gm' => r' = (k' : Int) - (k + p) ∧ Inv (z_up g' 0 0 0) gm') := by
    intro lt p p1 p2
    have ak := r1'.2.2.2.2.1 k kl
    have lek : k ≤ k' := by
      rcases Nat.lt_or_ge k' k with c | c
      · exfalso
        have a := r1'.2.2.2.2.1 k' kl'
        have q1 := hk.2.1 k' c
        have q2 := hk'.2.2.1 k' (Nat.le_refl _) kl'
        have s1 : n_rT o k' * b * b' < t * n_rB o k' * b' := Int.mul_lt_mul_of_pos_right q1 (by omega)
        have s2 : t' * n_rB o k' * b ≤ n_rT o k' * b' * b := Int.mul_le_mul_of_nonneg_right q2 (by omega)
        have s3 : t * b' * n_rB o k' < t' * b * n_rB o k' := Int.mul_lt_mul_of_pos_right lt (by omega)
        have f1 : n_rT o k' * b * b' = n_rT o k' * b' * b := by ac_rfl
        have f2 : t * n_rB o k' * b' = t * b' * n_rB o k' := by ac_rfl
        have f3 : t' * n_rB o k' * b = t' * b * n_rB o k' := by ac_rfl
        omega
      · exact c
    have ltk : p = 1 → k + 1 ≤ k' := fun hp1 => by
      have q0 := p2.mp hp1
      rcases Nat.lt_or_ge k k' with c | c
      · omega
      · exfalso
        have : k = k' := by omega
        subst this
        have q2 := hk'.2.2.1 k (Nat.le_refl _) kl'
        have s2 : t' * n_rB o k * b ≤ n_rT o k * b' * b := Int.mul_le_mul_of_nonneg_right q2 (by omega)
        have s3 : t * b' * n_rB o k < t' * b * n_rB o k := Int.mul_lt_mul_of_pos_right lt (by omega)
        have f1 : n_rT o k * b' * b = n_rT o k * b * b' := by ac_rfl
        have f2 : t * b' * n_rB o k = t * n_rB o k * b' := by ac_rfl
        have f3 : t' * n_rB o k * b = t' * b * n_rB o k := by ac_rfl
        rw [q0] at f1
        omega
    refine ⟨by omega, mrun (fun x => if x ≤ k + p then 0 else if x ≤ k' then (x : Int) - (k + p) else (k' : Int) - (k + p)) _ ?_ (fun x hx' => ⟨?_, ?_, ?_⟩) ?_⟩
    · exact if_pos (by omega)
    · split
      · omega
      · split <;> omega
    · split
      · omega
      · split <;> omega
    · have lo : (t * n_rB o x < n_rT o x * b) ↔ k + p ≤ x := by
        constructor
        · intro h
          rcases Nat.lt_or_ge x k with c | c
          · have := hk.2.1 x c; omega
          · rcases (show p = 0 ∨ p = 1 by omega) with hp | hp
            · omega
            · have q0 := p2.mp hp
              by_cases cx : x = k
              · subst cx; omega
              · omega
        · intro h
          by_cases cx : x = k
          · subst cx
            have hp : p = 0 := by omega
            have : ¬ (n_rT o x * b = t * n_rB o x) := fun e => by have := p2.mpr e; omega
            have := hk.2.2.1 x (Nat.le_refl _) kl
            omega
          · exact hk.2.2.2 x (by omega) hx'
      have hi : (n_rT o x * b' < t' * n_rB o x) ↔ x < k' := by
        constructor
        · intro h
          rcases Nat.lt_or_ge x k' with c | c
          · exact c
          · have := hk'.2.2.1 x c hx'; omega
        · intro h; exact hk'.2.1 x h
      by_cases cx : k + p ≤ x ∧ x < k'
      · rw [if_pos ((btw x hx').mpr ⟨lo.mpr cx.1, hi.mpr cx.2⟩)]
        rw [if_neg (by omega), if_pos (by omega)]
        split
        · omega
        · rw [if_pos (by omega)]; omega
      · rw [if_neg (fun h => cx ⟨lo.mp ((btw x hx').mp h).1, hi.mp ((btw x hx').mp h).2⟩)]
        by_cases cy : x + 1 ≤ k + p
        · rw [if_pos cy, if_pos (by omega)]; rfl
        · rw [if_neg cy, if_neg (show ¬ x + 1 ≤ k' by omega)]
          split
          · omega
          · rw [Int.add_zero]
            split <;> omega
    · rw [if_neg (by omega), if_neg (by omega)]
  rw [h18.tb.1, h18.tb.2, h20.tb.1, h20.tb.2, e23]
  refine ⟨fun s1 => ⟨fun s2 => same ?zE, fun s2 => ?zA⟩, fun s1 => ?zB⟩
  case zE =>
    have key : ∀ c d x y : Int, t = c * x → b = c * y → t' = d * x → b' = d * y → t * b' = t' * b := fun c d x y h1 h2 h3 h4 => by rw [h1, h2, h3, h4]; ac_rfl
    exact key _ _ _ _ hd1 hd2 (by rw [s1]; exact hd3) (by rw [s2]; exact hd4)
  all_goals
    have lt := unl (fun h => by first | exact s2 h.2 | exact s1 h.1)
    refine s_Rw_countUnder hx xr ⟨o1, o2⟩ (by omega) (by omega) ?_
    rw [h18.tb.2, h20.tb.1, h20.tb.2, e23, cu]
    refine ⟨fun c => s_Rw_countUnder hx xr ⟨o1, o2⟩ (by omega) (by omega) ?_, fun c => ⟨by omega, s_Rw_countUnder hx xr ⟨o1, o2⟩ (by omega) (by omega) ?_⟩⟩
    · obtain ⟨q1, q2⟩ := cnt lt 0 (by omega) ⟨fun p => by omega, fun p => by have := at2.1.mpr p; omega⟩
      rw [cu']
      refine ⟨by omega, ?_⟩
      rw [show (k : Int) + ((0 : Nat) : Int) = k by omega] at q2
      exact q2
    · obtain ⟨q1, q2⟩ := cnt lt 1 (by omega) ⟨fun _ => at2.1.mp (by omega), fun _ => rfl⟩
      rw [cu']
      exact ⟨by omega, q2⟩

/-! ## above, ahead, nearest, fraction -/
theorem s_Rw_pinch {X : z_X} {N : Nat} {σ g : z_G} {Q : z_P} (hx : z_lay X N σ 0 z_SF z_RF) {o : Nat} (ho : 1 ≤ o ∧ o ≤ 200) {t b a : Int} (hb : 1 ≤ b ∧ b ≤ 9999) (ht : 0 ≤ t ∧ t ≤ b) (h1 : a ≠ 0 → t < b) (h0 : a = 0 → 0 < t) (hq : ∀ (g' : z_G) (i : Nat), i < n_rn o → g' 15 2 = n_rT o i → g' 15 3 = n_rB o i → g' 15 4 = n_rT o ((i : Int) + 1) → g' 15 5 = n_rB o ((i : Int) + 1) → (a ≠ 0 → n_rT o i * b ≤ t * n_rB o i ∧ t * n_rB o ((i : Int) + 1) < n_rT o ((i : Int) + 1) * b) → (a = 0 → n_rT o i * b < t * n_rB o i ∧ t * n_rB o ((i : Int) + 1) ≤ n_rT o ((i : Int) + 1) * b) → (∀ c i, c ≠ 15 → g' c i = g c i) → Q 0 g') : z_O X 2 m_Rw_pinch [(2, 15), (0, (o : Int)), (0, t), (0, b), (0, a)] N σ g Q := by
  refine b_Rw_pinch_0 hx ?_
  have loop : ∀ (m : Nat) (x : Int) (g' : z_G) (lt lb ht hb : Int), (o : Int) ≤ x + m → 0 ≤ x → n_sp lt lb ht hb → lb ≤ o → hb ≤ o → x + 2 ≤ lb + hb → (a ≠ 0 → lt * b ≤ t * lb ∧ t * hb < ht * b) → (a = 0 → lt * b < t * lb ∧ t * hb ≤ ht * b) → g' 15 2 = lt → g' 15 3 = lb → g' 15 4 = ht → g' 15 5 = hb → (∀ c i, c ≠ 15 → g' c i = g c i) → L_Rw_pinch_23 X N σ o t b a x g' Q := by
    intro m
    have fin : ∀ (g' : z_G) (lt lb ht hb : Int), n_sp lt lb ht hb → lb ≤ o → hb ≤ o → (o : Int) < lb + hb → (a ≠ 0 → lt * b ≤ t * lb ∧ t * hb < ht * b) → (a = 0 → lt * b < t * lb ∧ t * hb ≤ ht * b) → g' 15 2 = lt → g' 15 3 = lb → g' 15 4 = ht → g' 15 5 = hb → (∀ c i, c ≠ 15 → g' c i = g c i) → Q 0 g' := by
      intro g' lt lb ht hb k1 k2 k3 k4 k5 k6 e2 e3 e4 e5 hf
      obtain ⟨i, i1, i2, i3, i4, i5⟩ := n_nb ho k1 k2 k3 k4
      subst i2; subst i3; subst i4; subst i5
      exact hq g' i i1 e2 e3 e4 e5 k5 k6 hf
    induction m with
    | zero =>
      intro x g' lt lb ht hb k1 k2 k3 k4 k5 k6 k7 k8 e2 e3 e4 e5 hf
      exact b_Rw_pinch_23 hx ⟨fun _ => fin g' lt lb ht hb k3 k4 k5 (by omega) k7 k8 e2 e3 e4 e5 hf, fun p => absurd (by omega) p⟩
    | succ m ih =>
      intro x g' lt lb ht hb k1 k2 k3 k4 k5 k6 k7 k8 e2 e3 e4 e5 hf
      obtain ⟨s1, s2, s3, s4, s5, s6⟩ := id k3
      refine b_Rw_pinch_23 hx ?_
      rw [e2, e3, e4, e5]
      have b1 := n_mb (u := lt + ht) (v := b) (by omega) (by omega) (by omega) (by omega)
      have b2 := n_mb (u := t) (v := lb + hb) (by omega) (by omega) (by omega) (by omega)
      have low : (¬ (lb + hb > (o : Int))) → ((lt + ht) * b < t * (lb + hb) ∨ ((lt + ht) * b = t * (lb + hb) ∧ a ≠ 0)) → L_Rw_pinch_23 X N σ o t b a (x + 1) (z_up (z_up g' 15 2 (lt + ht)) 15 3 (lb + hb)) Q := by
        intro hs hc
        refine ih (x + 1) _ (lt + ht) (lb + hb) ht hb (by omega) (by omega) (n_sp_right k3) (by omega) k5 (by omega) (fun q => ⟨by omega, (k7 q).2⟩) (fun q => ⟨by omega, (k8 q).2⟩) ?_ ?_ ?_ ?_ (fun c i hc => by rw [z_u2 (by omega), z_u2 (by omega)]; exact hf c i hc)
        · rw [z_u2 (by omega), z_u1]
        · rw [z_u1]
        · rw [z_u2 (by omega), z_u2 (by omega)]; exact e4
        · rw [z_u2 (by omega), z_u2 (by omega)]; exact e5
      have high : (¬ (lb + hb > (o : Int))) → (t * (lb + hb) < (lt + ht) * b ∨ ((lt + ht) * b = t * (lb + hb) ∧ a = 0)) → L_Rw_pinch_23 X N σ o t b a (x + 1) (z_up (z_up g' 15 4 (lt + ht)) 15 5 (lb + hb)) Q := by
        intro hs hc
        refine ih (x + 1) _ lt lb (lt + ht) (lb + hb) (by omega) (by omega) (n_sp_left k3) k4 (by omega) (by omega) (fun q => ⟨(k7 q).1, by omega⟩) (fun q => ⟨(k8 q).1, by omega⟩) ?_ ?_ ?_ ?_ (fun c i hc => by rw [z_u2 (by omega), z_u2 (by omega)]; exact hf c i hc)
        · rw [z_u2 (by omega), z_u2 (by omega)]; exact e2
        · rw [z_u2 (by omega), z_u2 (by omega)]; exact e3
        · rw [z_u2 (by omega), z_u1]
        · rw [z_u1]
      refine ⟨fun _ => fin g' lt lb ht hb k3 k4 k5 (by omega) k7 k8 e2 e3 e4 e5 hf, fun _ => ⟨by omega, fun q => fin g' lt lb ht hb k3 k4 k5 q k7 k8 e2 e3 e4 e5 hf, fun q => ⟨by omega, by omega, by omega, by omega, fun c => ⟨by omega, low q (by omega)⟩, fun c => ⟨fun c2 => ⟨fun c3 => ⟨by omega, high q (Or.inr ⟨by omega, c3⟩)⟩, fun c3 => ⟨by omega, low q (Or.inr ⟨by omega, c3⟩)⟩⟩, fun c2 => ⟨by omega, high q (by omega)⟩⟩⟩⟩⟩
  refine loop o 0 _ 0 1 1 1 (by omega) (by omega) n_sp_root (by omega) (by omega) (by omega) (fun q => ?_) (fun q => ?_) ?_ ?_ ?_ ?_ (fun c i hc => ?_)
  · have := h1 q; omega
  · have := h0 q; omega
  · rw [z_u2 (by omega), z_u2 (by omega), z_u2 (by omega), z_u1]
  · rw [z_u2 (by omega), z_u2 (by omega), z_u1]
  · rw [z_u2 (by omega), z_u1]
  · rw [z_u1]
  · rw [z_u2 (by omega), z_u2 (by omega), z_u2 (by omega), z_u2 (by omega)]
theorem rI.p1 {o k i : Nat} {t b : Int} (h : rI o t b k) (hi : i < n_rn o) (h1 : n_rT o i * b ≤ t * n_rB o i) (h2 : t * n_rB o ((i : Int) + 1) < n_rT o ((i : Int) + 1) * b) : (n_rT o k * b = t * n_rB o k → k = i) ∧ (¬ (n_rT o k * b = t * n_rB o k) → k = i + 1) := by
  obtain ⟨a1, a2, a3, a4⟩ := h
  have h2' : t * n_rB o ((i + 1 : Nat) : Int) < n_rT o ((i + 1 : Nat) : Int) * b := h2
  have u : k ≤ i + 1 := by
    rcases Nat.lt_or_ge (i + 1) k with c | c
    · have := a2 (i + 1) c; omega
    · exact c
  by_cases e : n_rT o i * b = t * n_rB o i
  · have k1 : k ≤ i := by
      rcases Nat.lt_or_ge i k with c | c
      · have := a2 i c; omega
      · exact c
    have k2 : i ≤ k := by
      rcases Nat.lt_or_ge k i with c | c
      · have := a4 i c (by omega); omega
      · exact c
    have : k = i := by omega
    subst this
    exact ⟨fun _ => rfl, fun p => absurd e p⟩
  · have k2 : i < k := by
      rcases Nat.lt_or_ge i k with c | c
      · exact c
      · have := a3 i c (by omega); omega
    have : k = i + 1 := by omega
    subst this
    exact ⟨fun p => by omega, fun _ => rfl⟩
theorem rI.p0 {o k i : Nat} {t b : Int} (h : rI o t b k) (hi : i < n_rn o) (h1 : n_rT o i * b < t * n_rB o i) (h2 : t * n_rB o ((i : Int) + 1) ≤ n_rT o ((i : Int) + 1) * b) : k = i + 1 := by
  obtain ⟨a1, a2, a3, a4⟩ := h
  have h2' : t * n_rB o ((i + 1 : Nat) : Int) ≤ n_rT o ((i + 1 : Nat) : Int) * b := h2
  have u : k ≤ i + 1 := by
    rcases Nat.lt_or_ge (i + 1) k with c | c
    · have := a2 (i + 1) c; omega
    · exact c
  have k2 : i < k := by
    rcases Nat.lt_or_ge i k with c | c
    · exact c
    · have := a3 i c (by omega); omega
  omega
theorem rI.one {o k : Nat} (ho : 1 ≤ o ∧ o ≤ 200) {t : Int} (ht : 1 ≤ t) (h : rI o t t k) : k = n_rn o := by
  obtain ⟨r1, r2, r3, r4, r5, r6⟩ := n_row ho
  obtain ⟨a1, a2, a3, a4⟩ := h
  rcases Nat.lt_or_eq_of_le a1 with c | c
  · exfalso
    have m := r1.mono (n_rn o - k - 1) k (by omega)
    rw [show k + (n_rn o - k - 1) + 1 = n_rn o by omega, r2, r3] at m
    have := a3 k (Nat.le_refl k) a1
    rw [Int.mul_comm] at this
    have := Int.le_of_mul_le_mul_right this (by omega)
    omega
  · exact c
theorem n_red_one {t b : Int} (hv : 1 ≤ b ∧ b ≤ 9999 ∧ 0 ≤ t ∧ t ≤ b) : (t / Int.gcd t b = b / Int.gcd t b → t = b) ∧ (t / Int.gcd t b = 0 → t = 0) := by
  have d1 : t = Int.gcd t b * (t / Int.gcd t b) := (Int.mul_ediv_cancel' (Int.gcd_dvd_left t b)).symm
  have d2 : b = Int.gcd t b * (b / Int.gcd t b) := (Int.mul_ediv_cancel' (Int.gcd_dvd_right t b)).symm
  refine ⟨fun e => ?_, fun e => ?_⟩
  · rw [e] at d1; exact d1.trans d2.symm
  · rw [e, Int.mul_zero] at d1; exact d1
theorem s_M_tellsRow {X : z_X} {N : Nat} {σ g : z_G} {Q : z_P} (hm : z_lay X N σ 0 z_SM z_RM) {o : Nat} (ho : 1 ≤ o ∧ o ≤ 200) (hw : rW g o) {k : Int} (h0 : ¬ (0 ≤ k ∧ k ≤ n_rn o) → Q 0 (z_up g 0 1 6)) (h1 : ∀ j : Nat, k = j → j ≤ n_rn o → Q 1 (z_up (z_up (z_up g 0 2 (n_rT o j / Int.gcd (n_rT o j) (n_rB o j))) 0 3 (n_rB o j / Int.gcd (n_rT o j) (n_rB o j))) 0 1 0)) : z_O X 3 m_M_tellsRow [(2, 0), (0, k)] N σ g Q := by
  obtain ⟨w1, w2⟩ := hw.row ho
  obtain ⟨r1, r2, r3, r4, r5, r6⟩ := n_row ho
  refine b_M_tellsRow_0 hm ⟨fun c => h0 (by omega), fun c => ?_⟩
  rw [w1]
  refine ⟨fun c2 => ⟨by omega, ?_⟩, fun c2 => h0 (by omega)⟩
  obtain ⟨j, rfl⟩ : ∃ j : Nat, k = j := ⟨k.toNat, by omega⟩
  obtain ⟨e1, e2⟩ := w2 j (by omega) (by omega)
  have b := r1.2.2.2.2.1 j (by omega)
  rw [e1, e2]
  exact s_M_tellsBy hm (by omega) (by omega) fun _ => h1 j rfl (by omega)
theorem o_above {X Y : z_X} {N K : Nat} {σ τ gx gm : z_G} (hx : z_lay X N σ 0 z_SF z_RF) (hm : z_lay Y K τ 0 z_SM z_RM) (I : Inv gx gm) {a1 a2 : Int} (r1 : -2147483648 ≤ a1 ∧ a1 ≤ 2147483647) (r2 : -2147483648 ≤ a2 ∧ a2 ≤ 2147483647) : z_O X 4 m_F_above [(2, 0), (0, a1), (0, a2)] N σ gx (fun r gx' => z_O Y 5 m_M_above [(2, 0), (0, a1), (0, a2)] K τ gm (fun r' gm' => r' = r ∧ Inv gx' gm')) := by
  obtain ⟨o, o1, o2, o3, o4⟩ := Inv_o I
  obtain ⟨r1', r2', r3', r4', r5', r6'⟩ := n_row ⟨o1, o2⟩
  refine b_F_above_0 hx (s_Ch_take (ky_F_18 hx) (fun q => ?_) (fun q g' hc hf => ?_))
  · refine fun _ => ⟨fun _ => b_M_above_0 hm ?_, fun e => absurd rfl e⟩
    repeat' (first | refine And.intro (by omega) ?_ | refine And.intro (fun _ => ?_) (fun q => absurd (by omega) q) | refine And.intro (fun q => absurd q (by omega)) (fun _ => ?_) | refine And.intro (fun _ => ?_) (fun _ => ?_) | refine And.intro (fun q => absurd q (by omega)) ?_ | refine And.intro (fun _ => ?_) ?_ | with_reducible intro _)
    all_goals first | exact I.fin xA.rf yA.rf I.2.2.2.2 1 | (exfalso; omega)
  refine fun _ => ⟨fun e => absurd e (by omega), fun _ => ?_⟩
  obtain ⟨k, hk⟩ := rI_ex ⟨o1, o2⟩ (t := a1) (b := a2) q.1 q.2.2
  obtain ⟨v1, v2, v3, v4, v5⟩ := n_red q
  have at2 := hk.at2 ⟨o1, o2⟩ q
  have one := n_red_one q
  have bk := r1'.2.2.2.2.1 k hk.1
  have kl := hk.1
  have b1 := n_mb (u := n_rT o k) (v := a2) (by omega) (by omega) (by omega) (by omega)
  have b2 := n_mb (u := a1) (v := n_rB o k) (by omega) (by omega) (by omega) (by omega)
  have mrun : ∀ {Q : z_P}, (∀ gm', mL gm gm' → rW gm' o → ((n_rT o k * a2 = a1 * n_rB o k) → z_O Y 3 m_M_tellsRow [(2, 0), (0, (k : Int) + 1)] K τ gm' (fun r2 g2 => (r2 = 0 ∨ r2 = 1) → Q r2 g2)) ∧ (¬ (n_rT o k * a2 = a1 * n_rB o k) → z_O Y 3 m_M_tellsRow [(2, 0), (0, (k : Int))] K τ gm' (fun r2 g2 => (r2 = 0 ∨ r2 = 1) → Q r2 g2))) → z_O Y 5 m_M_above [(2, 0), (0, a1), (0, a2)] K τ gm Q := fun h => b_M_above_0 hm ⟨fun p => absurd p (by omega), fun _ => ⟨fun p => absurd p (by omega), fun _ => ⟨fun p => absurd p (by omega), fun _ => ⟨fun p => absurd p (by omega), fun _ => s_M_lessThan hm ⟨o1, o2⟩ o3 I.2.2.2.2 q fun gm' k' h1 h2 h3 => by
    have e := h3.eq hk
    subst e
    obtain ⟨w1, w2⟩ := h2.row ⟨o1, o2⟩
    obtain ⟨e1, e2⟩ := w2 k' (by omega) (by omega)
    rw [w1, e1, e2]
    obtain ⟨h5, h6⟩ := h gm' h1 h2
    exact ⟨fun p => absurd p (by omega), fun _ => ⟨by omega, by omega, by omega, fun p => ⟨by omega, h5 p⟩, h6⟩⟩⟩⟩⟩⟩
  rw [hc.tb.1, hc.tb.2, hf 23 0 (by omega) (by omega), o4]
  refine ⟨fun c => ?_, fun c => ?_⟩
  · have e := one.1 c
    subst e
    have kn := hk.one ⟨o1, o2⟩ q.1
    refine mrun fun gm' h1 h2 => ⟨fun _ => s_M_tellsRow hm ⟨o1, o2⟩ h2 (fun _ _ => ⟨rfl, I.fin (xA.ch hf) h1.y (h2.c ⟨o1, o2⟩) 6⟩) (fun j hj hj2 => by exfalso; omega), fun p => absurd ?_ p⟩
    rw [kn, r2', r3', Int.one_mul, Int.mul_one]
  · refine s_Rw_pinch hx ⟨o1, o2⟩ ⟨v3, v4⟩ ⟨v1, v2⟩ (fun _ => by omega) (fun p => by omega) fun g1 i hi e2 e3 e4 e5 p1 p0 hf1 => ?_
    obtain ⟨p11, p12⟩ := p1 (by omega)
    have hki := (hk.red q.1).p1 hi p11 p12
    have hA : xA gx g1 := fun c i hk => by unfold xK at hk; rw [hf1 c i (by omega), hf c i (by omega) (by omega)]
    have bi : 0 ≤ n_rT o ((i : Int) + 1) ∧ n_rT o ((i : Int) + 1) ≤ n_rB o ((i : Int) + 1) ∧ 1 ≤ n_rB o ((i : Int) + 1) ∧ n_rB o ((i : Int) + 1) ≤ o := r1'.2.2.2.2.1 (i + 1) (by omega)
    -- alike in both forms
    have al : (n_rT o k * (a2 / Int.gcd a1 a2) = a1 / Int.gcd a1 a2 * n_rB o k) ↔ (n_rT o k * a2 = a1 * n_rB o k) := by
      constructor
      · intro e
        exact at2.1.mp (((hk.red q.1).at ⟨o1, o2⟩ ⟨v1, v2, v3, v4, v5⟩).2 e)
      · intro e
        obtain ⟨f1, f2⟩ := at2.2 (at2.1.mpr e)
        rw [f1, f2]
    rw [e4, e5]
    refine s_F_tell hx (by omega) (by omega) (by omega) fun _ => mrun fun gm' h1 h2 => ⟨fun e => s_M_tellsRow hm ⟨o1, o2⟩ h2 (fun p => ?_) (fun j hj hj2 _ => ⟨rfl, ?_⟩), fun e => s_M_tellsRow hm ⟨o1, o2⟩ h2 (fun p => ?_) (fun j hj hj2 _ => ⟨rfl, ?_⟩)⟩
    · have := hki.1 (al.mpr e); omega
    · have := hki.1 (al.mpr e)
      rw [show (j : Int) = (i : Int) + 1 by omega]
      exact I.tell hA h1.y (h2.c ⟨o1, o2⟩) _ _
    · have := hki.2 (fun p => e (al.mp p)); omega
    · have := hki.2 (fun p => e (al.mp p))
      rw [show (j : Int) = (i : Int) + 1 by omega]
      exact I.tell hA h1.y (h2.c ⟨o1, o2⟩) _ _
theorem o_ahead {X Y : z_X} {N K : Nat} {σ τ gx gm : z_G} (hx : z_lay X N σ 0 z_SF z_RF) (hm : z_lay Y K τ 0 z_SM z_RM) (I : Inv gx gm) {a1 a2 : Int} (r1 : -2147483648 ≤ a1 ∧ a1 ≤ 2147483647) (r2 : -2147483648 ≤ a2 ∧ a2 ≤ 2147483647) : z_O X 4 m_F_ahead [(2, 0), (0, a1), (0, a2)] N σ gx (fun r gx' => z_O Y 5 m_M_ahead [(2, 0), (0, a1), (0, a2)] K τ gm (fun r' gm' => r' = r ∧ Inv gx' gm')) := by
  obtain ⟨o, o1, o2, o3, o4⟩ := Inv_o I
  obtain ⟨r1', r2', r3', r4', r5', r6'⟩ := n_row ⟨o1, o2⟩
  refine b_F_ahead_0 hx (s_Ch_take (ky_F_18 hx) (fun q => ?_) (fun q g' hc hf => ?_))
  · refine fun _ => ⟨fun _ => b_M_ahead_0 hm ?_, fun e => absurd rfl e⟩
    repeat' (first | refine And.intro (by omega) ?_ | refine And.intro (fun _ => ?_) (fun q => absurd (by omega) q) | refine And.intro (fun q => absurd q (by omega)) (fun _ => ?_) | refine And.intro (fun _ => ?_) (fun _ => ?_) | refine And.intro (fun q => absurd q (by omega)) ?_ | refine And.intro (fun _ => ?_) ?_ | with_reducible intro _)
    all_goals first | exact I.fin xA.rf yA.rf I.2.2.2.2 1 | (exfalso; omega)
  refine fun _ => ⟨fun e => absurd e (by omega), fun _ => ?_⟩
  obtain ⟨k, hk⟩ := rI_ex ⟨o1, o2⟩ (t := a1) (b := a2) q.1 q.2.2
  obtain ⟨v1, v2, v3, v4, v5⟩ := n_red q
  have one := n_red_one q
  have kl := hk.1
  have mrun : ∀ {Q : z_P}, (∀ gm', mL gm gm' → rW gm' o → z_O Y 3 m_M_tellsRow [(2, 0), (0, (k : Int) - 1)] K τ gm' (fun r2 g2 => (r2 = 0 ∨ r2 = 1) → Q r2 g2)) → z_O Y 5 m_M_ahead [(2, 0), (0, a1), (0, a2)] K τ gm Q := fun h => b_M_ahead_0 hm ⟨fun p => absurd p (by omega), fun _ => ⟨fun p => absurd p (by omega), fun _ => ⟨fun p => absurd p (by omega), fun _ => ⟨fun p => absurd p (by omega), fun _ => s_M_lessThan hm ⟨o1, o2⟩ o3 I.2.2.2.2 q fun gm' k' h1 h2 h3 => by
    have e := h3.eq hk
    subst e
    exact ⟨by omega, h gm' h1 h2⟩⟩⟩⟩⟩
  rw [hc.tb.1, hc.tb.2, hf 23 0 (by omega) (by omega), o4]
  refine ⟨fun c => ?_, fun c => ?_⟩
  · have e := one.2 c
    subst e
    have k0 : k = 0 := by
      rcases Nat.eq_zero_or_pos k with z | z
      · exact z
      · have := hk.2.1 0 z
        rw [show n_rT o ((0 : Nat) : Int) = 0 from rfl] at this
        omega
    exact mrun fun gm' h1 h2 => s_M_tellsRow hm ⟨o1, o2⟩ h2 (fun _ _ => ⟨rfl, I.fin (xA.ch hf) h1.y (h2.c ⟨o1, o2⟩) 6⟩) (fun j hj hj2 => by exfalso; omega)
  · refine s_Rw_pinch hx ⟨o1, o2⟩ ⟨v3, v4⟩ ⟨v1, v2⟩ (fun p => absurd rfl p) (fun p => by omega) fun g1 i hi e2 e3 e4 e5 p1 p0 hf1 => ?_
    obtain ⟨p01, p02⟩ := p0 rfl
    have hki := (hk.red q.1).p0 hi p01 p02
    have hA : xA gx g1 := fun c i hk => by unfold xK at hk; rw [hf1 c i (by omega), hf c i (by omega) (by omega)]
    have bi := r1'.2.2.2.2.1 i (by omega)
    rw [e2, e3]
    refine s_F_tell hx (by omega) (by omega) (by omega) fun _ => mrun fun gm' h1 h2 => s_M_tellsRow hm ⟨o1, o2⟩ h2 (fun p => by omega) (fun j hj hj2 _ => ⟨rfl, ?_⟩)
    rw [show (j : Int) = (i : Int) by omega]
    exact I.tell hA h1.y (h2.c ⟨o1, o2⟩) _ _
theorem o_nearest {X Y : z_X} {N K : Nat} {σ τ gx gm : z_G} (hx : z_lay X N σ 0 z_SF z_RF) (hm : z_lay Y K τ 0 z_SM z_RM) (I : Inv gx gm) {a1 a2 : Int} (r1 : -2147483648 ≤ a1 ∧ a1 ≤ 2147483647) (r2 : -2147483648 ≤ a2 ∧ a2 ≤ 2147483647) : z_O X 4 m_F_nearest [(2, 0), (0, a1), (0, a2)] N σ gx (fun r gx' => z_O Y 5 m_M_nearest [(2, 0), (0, a1), (0, a2)] K τ gm (fun r' gm' => r' = r ∧ Inv gx' gm')) := by
  obtain ⟨o, o1, o2, o3, o4⟩ := Inv_o I
  obtain ⟨r1', r2', r3', r4', r5', r6'⟩ := n_row ⟨o1, o2⟩
  refine b_F_nearest_0 hx (s_Ch_take (ky_F_18 hx) (fun q => ?_) (fun q g' hc hf => ?_))
  · refine fun _ => ⟨fun _ => b_M_nearest_0 hm ?_, fun e => absurd rfl e⟩
    repeat' (first | refine And.intro (by omega) ?_ | refine And.intro (fun _ => ?_) (fun q => absurd (by omega) q) | refine And.intro (fun q => absurd q (by omega)) (fun _ => ?_) | refine And.intro (fun _ => ?_) (fun _ => ?_) | refine And.intro (fun q => absurd q (by omega)) ?_ | refine And.intro (fun _ => ?_) ?_ | with_reducible intro _)
    all_goals first | exact I.fin xA.rf yA.rf I.2.2.2.2 1 | (exfalso; omega)
  refine fun _ => ⟨fun e => absurd e (by omega), fun _ => ?_⟩
  obtain ⟨k, hk⟩ := rI_ex ⟨o1, o2⟩ (t := a1) (b := a2) q.1 q.2.2
  obtain ⟨v1, v2, v3, v4, v5⟩ := n_red q
  have at2 := hk.at2 ⟨o1, o2⟩ q
  have one := n_red_one q
  have bk := r1'.2.2.2.2.1 k hk.1
  have kl := hk.1
  have b1 := n_mb (u := n_rT o k) (v := a2) (by omega) (by omega) (by omega) (by omega)
  have b2 := n_mb (u := a1) (v := n_rB o k) (by omega) (by omega) (by omega) (by omega)
  rw [hc.tb.1, hc.tb.2, hf 23 0 (by omega) (by omega), o4]
  refine ⟨fun c => ?_, fun c => ?_⟩
  · -- not in the row
    have nat : ¬ (n_rT o k * a2 = a1 * n_rB o k) := fun e => by have := at2.1.mpr e; omega
    have tp : 0 < a1 / Int.gcd a1 a2 := by
      rcases Int.lt_or_le 0 (a1 / Int.gcd a1 a2 : Int) with z | z
      · exact z
      · exfalso
        have z0 : a1 / (Int.gcd a1 a2 : Int) = 0 := by omega
        rw [z0, Int.gcd_zero_left] at v5
        omega
    refine s_Rw_pinch hx ⟨o1, o2⟩ ⟨v3, v4⟩ ⟨v1, v2⟩ (fun p => absurd rfl p) (fun p => tp) fun g1 i hi e2 e3 e4 e5 p1 p0 hf1 => ?_
    obtain ⟨p01, p02⟩ := p0 rfl
    have hki := (hk.red q.1).p0 hi p01 p02
    subst hki
    have hA : xA gx g1 := fun c i hk => by unfold xK at hk; rw [hf1 c i (by omega), hf c i (by omega) (by omega)]
    have bi := r1'.2.2.2.2.1 i (by omega)
    have bj : 0 ≤ n_rT o ((i : Int) + 1) ∧ n_rT o ((i : Int) + 1) ≤ n_rB o ((i : Int) + 1) ∧ 1 ≤ n_rB o ((i : Int) + 1) ∧ n_rB o ((i : Int) + 1) ≤ o := bk
    have f3 : g1 18 3 = a1 / Int.gcd a1 a2 := by rw [hf1 _ _ (by omega)]; exact hc.tb.1
    have f4 : g1 18 4 = a2 / Int.gcd a1 a2 := by rw [hf1 _ _ (by omega)]; exact hc.tb.2
    rw [f3, f4, e2, e3, e4, e5]
    have d1 : a1 = Int.gcd a1 a2 * (a1 / Int.gcd a1 a2) := (Int.mul_ediv_cancel' (Int.gcd_dvd_left a1 a2)).symm
    have d2 : a2 = Int.gcd a1 a2 * (a2 / Int.gcd a1 a2) := (Int.mul_ediv_cancel' (Int.gcd_dvd_right a1 a2)).symm
    have hp : (0 : Int) < Int.gcd a1 a2 := by
      have : 0 < Int.gcd a1 a2 := Int.gcd_pos_of_ne_zero_right a1 (by omega)
      omega
    have b3 := n_mb (u := n_rT o i) (v := a2) (by omega) (by omega) (by omega) (by omega)
    have b4 := n_mb (u := a1) (v := n_rB o i) (by omega) (by omega) (by omega) (by omega)
    have b1' : 0 ≤ n_rT o ((i : Int) + 1) * a2 ∧ n_rT o ((i : Int) + 1) * a2 ≤ 99980001 := b1
    have b2' : 0 ≤ a1 * n_rB o ((i : Int) + 1) ∧ a1 * n_rB o ((i : Int) + 1) ≤ 99980001 := b2
    have c1 := n_mb (u := a1 / Int.gcd a1 a2) (v := n_rB o i) (by omega) (by omega) (by omega) (by omega)
    have c2 := n_mb (u := n_rT o i) (v := a2 / Int.gcd a1 a2) (by omega) (by omega) (by omega) (by omega)
    have c3 := n_mb (u := n_rT o ((i : Int) + 1)) (v := a2 / Int.gcd a1 a2) (by omega) (by omega) (by omega) (by omega)
    have c4 := n_mb (u := a1 / Int.gcd a1 a2) (v := n_rB o ((i : Int) + 1)) (by omega) (by omega) (by omega) (by omega)
    have m1 := n_mb2 (u := a1 / Int.gcd a1 a2 * n_rB o i - n_rT o i * (a2 / Int.gcd a1 a2)) (v := n_rB o ((i : Int) + 1)) (by omega) (by omega) (by omega) (by omega)
    have m2 := n_mb2 (u := n_rT o ((i : Int) + 1) * (a2 / Int.gcd a1 a2) - a1 / Int.gcd a1 a2 * n_rB o ((i : Int) + 1)) (v := n_rB o i) (by omega) (by omega) (by omega) (by omega)
    have m3 := n_mb2 (u := a1 * n_rB o i - n_rT o i * a2) (v := n_rB o ((i : Int) + 1)) (by omega) (by omega) (by omega) (by omega)
    have m4 := n_mb2 (u := n_rT o ((i : Int) + 1) * a2 - a1 * n_rB o ((i : Int) + 1)) (v := n_rB o i) (by omega) (by omega) (by omega) (by omega)
    have m3' : -10000000000000000 ≤ (a1 * n_rB o i - n_rT o i * a2) * n_rB o ((i + 1 : Nat) : Int) ∧ (a1 * n_rB o i - n_rT o i * a2) * n_rB o ((i + 1 : Nat) : Int) ≤ 10000000000000000 := m3
    have m4' : -10000000000000000 ≤ (n_rT o ((i + 1 : Nat) : Int) * a2 - a1 * n_rB o ((i + 1 : Nat) : Int)) * n_rB o i ∧ (n_rT o ((i + 1 : Nat) : Int) * a2 - a1 * n_rB o ((i + 1 : Nat) : Int)) * n_rB o i ≤ 10000000000000000 := m4
    -- scaled
    have key : ((n_rT o ((i : Int) + 1) * a2 - a1 * n_rB o ((i : Int) + 1)) * n_rB o i < (a1 * n_rB o i - n_rT o i * a2) * n_rB o ((i : Int) + 1)) ↔ ((n_rT o ((i : Int) + 1) * (a2 / Int.gcd a1 a2) - a1 / Int.gcd a1 a2 * n_rB o ((i : Int) + 1)) * n_rB o i < (a1 / Int.gcd a1 a2 * n_rB o i - n_rT o i * (a2 / Int.gcd a1 a2)) * n_rB o ((i : Int) + 1)) := by
      have gen : ∀ c x y T B T' B' : Int, 0 < c → (((T' * (c * y) - c * x * B') * B < (c * x * B - T * (c * y)) * B') ↔ ((T' * y - x * B') * B < (x * B - T * y) * B')) := by
        intro c x y T B T' B' hc
        have z1 : (T' * (c * y) - c * x * B') * B = c * ((T' * y - x * B') * B) := by
          rw [Int.mul_left_comm T' c y, Int.mul_assoc c x B', ← Int.mul_sub, Int.mul_assoc]
        have z2 : (c * x * B - T * (c * y)) * B' = c * ((x * B - T * y) * B') := by
          rw [Int.mul_left_comm T c y, Int.mul_assoc c x B, ← Int.mul_sub, Int.mul_assoc]
        rw [z1, z2]
        exact ⟨fun h => Int.lt_of_mul_lt_mul_left h (by omega), fun h => Int.mul_lt_mul_of_pos_left h hc⟩
      have := gen (Int.gcd a1 a2) (a1 / Int.gcd a1 a2) (a2 / Int.gcd a1 a2) (n_rT o i) (n_rB o i) (n_rT o ((i : Int) + 1)) (n_rB o ((i : Int) + 1)) hp
      rw [← d1, ← d2] at this
      exact this
    have mrun : ∀ {Q : z_P}, (∀ gm', mL gm gm' → rW gm' o → (((n_rT o ((i : Int) + 1) * a2 - a1 * n_rB o ((i : Int) + 1)) * n_rB o i < (a1 * n_rB o i - n_rT o i * a2) * n_rB o ((i : Int) + 1)) → z_O Y 3 m_M_tellsRow [(2, 0), (0, ((i + 1 : Nat) : Int))] K τ gm' (fun r2 g2 => (r2 = 0 ∨ r2 = 1) → Q r2 g2)) ∧ (¬ ((n_rT o ((i : Int) + 1) * a2 - a1 * n_rB o ((i : Int) + 1)) * n_rB o i < (a1 * n_rB o i - n_rT o i * a2) * n_rB o ((i : Int) + 1)) → z_O Y 3 m_M_tellsRow [(2, 0), (0, ((i + 1 : Nat) : Int) - 1)] K τ gm' (fun r2 g2 => (r2 = 0 ∨ r2 = 1) → Q r2 g2))) → z_O Y 5 m_M_nearest [(2, 0), (0, a1), (0, a2)] K τ gm Q := fun h => b_M_nearest_0 hm ⟨fun p => absurd p (by omega), fun _ => ⟨fun p => absurd p (by omega), fun _ => ⟨fun p => absurd p (by omega), fun _ => ⟨fun p => absurd p (by omega), fun _ => s_M_lessThan hm ⟨o1, o2⟩ o3 I.2.2.2.2 q fun gm' k' h1 h2 h3 => by
      have e := h3.eq hk
      subst e
      obtain ⟨w1, w2⟩ := h2.row ⟨o1, o2⟩
      obtain ⟨f1, f2⟩ := w2 ((i + 1 : Nat) : Int) (by omega) (by omega)
      obtain ⟨f5, f6⟩ := w2 (((i + 1 : Nat) : Int) - 1) (by omega) (by omega)
      rw [w1, f1, f2, f5, f6, show ((i + 1 : Nat) : Int) - 1 = (i : Int) by omega]
      obtain ⟨h5, h6⟩ := h gm' h1 h2
      rw [show ((i + 1 : Nat) : Int) - 1 = (i : Int) by omega] at h6
      exact ⟨fun p => absurd p (by omega), fun _ => ⟨by omega, by omega, by omega, fun p => absurd p nat, fun _ => ⟨by omega, by omega, by omega, by omega, by omega, by omega, by omega, by omega, h5, h6⟩⟩⟩⟩⟩⟩⟩
    refine ⟨by omega, by omega, by omega, by omega, by omega, by omega, by omega, by omega, fun z => ?_, fun z => ?_⟩
    · refine s_F_tell hx (by omega) (by omega) (by omega) fun _ => mrun fun gm' h1 h2 => ⟨fun _ => s_M_tellsRow hm ⟨o1, o2⟩ h2 (fun p => by omega) (fun j hj hj2 _ => ⟨rfl, ?_⟩), fun p => absurd (key.mpr z) p⟩
      rw [show (j : Int) = (i : Int) + 1 by omega]
      exact I.tell hA h1.y (h2.c ⟨o1, o2⟩) _ _
    · refine s_F_tell hx (by omega) (by omega) (by omega) fun _ => mrun fun gm' h1 h2 => ⟨fun p => absurd (key.mp p) z, fun _ => s_M_tellsRow hm ⟨o1, o2⟩ h2 (fun p => by omega) (fun j hj hj2 _ => ⟨rfl, ?_⟩)⟩
      rw [show (j : Int) = (i : Int) by omega]
      exact I.tell hA h1.y (h2.c ⟨o1, o2⟩) _ _
  · have e := at2.1.mp (by omega)
    obtain ⟨f1, f2⟩ := at2.2 (by omega)
    refine s_F_tell hx (by omega) (by omega) (by omega) fun _ => b_M_nearest_0 hm ⟨fun p => absurd p (by omega), fun _ => ⟨fun p => absurd p (by omega), fun _ => ⟨fun p => absurd p (by omega), fun _ => ⟨fun p => absurd p (by omega), fun _ => s_M_lessThan hm ⟨o1, o2⟩ o3 I.2.2.2.2 q fun gm' k' h1 h2 h3 => ?_⟩⟩⟩⟩
    have ek := h3.eq hk
    subst ek
    obtain ⟨w1, w2⟩ := h2.row ⟨o1, o2⟩
    obtain ⟨g1, g2⟩ := w2 k' (by omega) (by omega)
    rw [w1, g1, g2]
    refine ⟨fun p => absurd p (by omega), fun _ => ⟨by omega, by omega, by omega, fun _ => s_M_tellsRow hm ⟨o1, o2⟩ h2 (fun p => by omega) (fun j hj hj2 _ => ⟨rfl, ?_⟩), fun p => absurd e p⟩⟩
    rw [← hj, f1, f2]
    exact I.tell (xA.ch hf) h1.y (h2.c ⟨o1, o2⟩) _ _

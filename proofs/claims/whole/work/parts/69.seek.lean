/-! ## fraction -/
theorem s_Rw_sliceOf {X : z_X} {N : Nat} {σ g : z_G} {Q : z_P} (hx : z_lay X N σ 0 z_SF z_RF) (hr : xR g) {o : Nat} (ho : 1 ≤ o ∧ o ≤ 200) {k : Int} (h0 : 0 ≤ k) (hq : ∀ j : Nat, j ≤ o → n_CU o j o ≤ k → (j < o → k < n_CU o ((j : Int) + 1) o) → Q j g) : z_O X 2 m_Rw_sliceOf [(2, 15), (0, (o : Int)), (0, k)] N σ g Q := by
  refine b_Rw_sliceOf_0 hx ?_
  have loop : ∀ (m f t : Nat) (x : Int), t - f < 2 ^ m → 0 ≤ x → x + m ≤ 8 → f ≤ t → t ≤ o → n_CU o f o ≤ k → (t < o → k < n_CU o ((t : Int) + 1) o) → L_Rw_sliceOf_8 X N σ o k f t x g Q := by
    intro m
    induction m with
    | zero =>
      intro f t x k1 k2 k3 k4 k5 k6 k7
      rw [Nat.pow_zero] at k1
      have : f = t := by omega
      subst this
      exact b_Rw_sliceOf_8 hx ⟨fun _ => hq f k5 k6 k7, fun _ => ⟨fun _ => hq f k5 k6 k7, fun p => absurd (by omega) p⟩⟩
    | succ m ih =>
      intro f t x k1 k2 k3 k4 k5 k6 k7
      rw [Nat.pow_succ] at k1
      by_cases c : f = t
      · subst c
        exact b_Rw_sliceOf_8 hx ⟨fun _ => hq f k5 k6 k7, fun _ => ⟨fun _ => hq f k5 k6 k7, fun p => absurd (by omega) p⟩⟩
      · refine b_Rw_sliceOf_8 hx ⟨fun p => absurd p (by omega), fun _ => ⟨fun p => absurd p (by omega), fun _ => ⟨by omega, by omega, ?_⟩⟩⟩
        have eh : Int.tdiv ((f : Int) + t + 1) 2 = (((f + t + 1) / 2 : Nat) : Int) := by rw [n_td (by omega)]; omega
        rw [eh]
        generalize hh : (f + t + 1) / 2 = h
        refine s_Rw_countUnder hx hr ho (by omega) (by omega) ⟨fun p => ⟨by omega, by omega, ?_⟩, fun p => ⟨by omega, ih h t _ (by omega) (by omega) (by omega) (by omega) k5 (by omega) k7⟩⟩
        rw [show (h : Int) - 1 = ((h - 1 : Nat) : Int) by omega]
        refine ih f (h - 1) _ (by omega) (by omega) (by omega) (by omega) (by omega) k6 (fun _ => ?_)
        rw [show ((h - 1 : Nat) : Int) + 1 = (h : Int) by omega]; exact p
  exact loop 8 0 o 0 (by have : (2 : Nat) ^ 8 = 256 := rfl; omega) (by omega) (by omega) (by omega) (by omega) (by unfold n_CU; rw [if_pos (by omega)]; exact h0) (fun p => by omega)
theorem s_Rw_seek {X : z_X} {N : Nat} {σ g : z_G} {Q : z_P} (hx : z_lay X N σ 0 z_SF z_RF) (hr : xR g) {o : Nat} (ho : 1 ≤ o ∧ o ≤ 200) {k : Nat} (hk : k ≤ n_rn o) (hq : ∀ g', g' 15 2 = n_rT o k → g' 15 3 = n_rB o k → (∀ c i, c ≠ 15 → g' c i = g c i) → Q 0 g') : z_O X 3 m_Rw_seek [(2, 15), (0, (o : Int)), (0, (k : Int))] N σ g Q := by
  obtain ⟨r1, r2, r3, r4, r5, r6⟩ := n_row ho
  refine b_Rw_seek_0 hx (s_Rw_sliceOf hx hr ho (by omega) fun j j1 j2 j3 => ⟨fun c => ?_, fun c => ?_⟩)
  · refine s_Rw_pinch hx ho (by omega) (by omega) (fun _ => c) (fun p => by omega) fun g1 i hi e2 e3 e4 e5 p1 p0 hf1 => ?_
    obtain ⟨p11, p12⟩ := p1 (by omega)
    obtain ⟨kj, hkj⟩ := rI_ex ho (t := j) (b := o) (by omega) (by omega)
    obtain ⟨kn, hkn⟩ := rI_ex ho (t := (j : Int) + 1) (b := o) (by omega) (by omega)
    have bi := r1.2.2.2.2.1 i (by omega)
    have bi1 : 0 ≤ n_rT o ((i : Int) + 1) ∧ n_rT o ((i : Int) + 1) ≤ n_rB o ((i : Int) + 1) ∧ 1 ≤ n_rB o ((i : Int) + 1) ∧ n_rB o ((i : Int) + 1) ≤ o := r1.2.2.2.2.1 (i + 1) (by omega)
    obtain ⟨d1, d2⟩ := r1.2.2.2.2.2 i hi
    have eq : n_rT o i * o = j * n_rB o i := by
      rcases Int.lt_or_le (n_rT o i * o) (j * n_rB o i) with z | z
      · exfalso
        have := n_gap bi.2.2.1 bi1.2.2.1 d1 z p12
        omega
      · omega
    have pp := hkj.p1 hi p11 p12
    have ki : kj = i := by
      by_cases z : n_rT o kj * o = j * n_rB o kj
      · exact pp.1 z
      · have e := pp.2 z
        have l := hkj.2.1 i (by omega)
        omega
    have cj := hkj.cu ho (by omega) (by omega)
    have cn := hkn.cu ho (by omega) (by omega)
    have knl := hkn.1
    have j3' := j3 (by omega)
    refine s_Rw_countUnder hx (fun d hd => by rw [hf1 16 d (by omega), hf1 17 d (by omega)]; exact hr d hd) ho (by omega) (by omega) ?_
    rw [cj] at j2 ⊢
    refine ⟨by omega, ?_⟩
    have loop : ∀ (m x : Nat) (g' : z_G), i + x + m = k → g' 15 2 = n_rT o ((i + x : Nat) : Int) → g' 15 3 = n_rB o ((i + x : Nat) : Int) → g' 15 4 = n_rT o (((i + x : Nat) : Int) + 1) → g' 15 5 = n_rB o (((i + x : Nat) : Int) + 1) → (∀ c i, c ≠ 15 → g' c i = g c i) → L_Rw_seek_47 X N σ o ((k : Int) - kj) x g' Q := by
      intro m
      induction m with
      | zero =>
        intro x g' h1 h2 h3 h4 h5 hf
        rw [show i + x = k by omega] at h2 h3
        exact b_Rw_seek_47 hx ⟨fun _ => hq g' h2 h3 hf, fun p => absurd (by omega) p⟩
      | succ m ih =>
        intro x g' h1 h2 h3 h4 h5 hf
        refine b_Rw_seek_47 hx ⟨fun p => absurd p (by omega), fun _ => b_Rw_stepUp_0 hx ?_⟩
        rw [h2, h3, h4, h5]
        have ba := r1.2.2.2.2.1 (i + x) (by omega)
        have bb : 0 ≤ n_rT o (((i + x : Nat) : Int) + 1) ∧ n_rT o (((i + x : Nat) : Int) + 1) ≤ n_rB o (((i + x : Nat) : Int) + 1) ∧ 1 ≤ n_rB o (((i + x : Nat) : Int) + 1) ∧ n_rB o (((i + x : Nat) : Int) + 1) ≤ o := r1.2.2.2.2.1 (i + x + 1) (by omega)
        obtain ⟨q1, q2⟩ := r1.2.2.2.2.2 (i + x) (by omega)
        have mo := r1.mono (n_rn o - (i + x + 1) - 1) (i + x + 1) (by omega)
        rw [show i + x + 1 + (n_rn o - (i + x + 1) - 1) + 1 = n_rn o by omega, r2, r3] at mo
        have mo' : n_rT o (((i + x : Nat) : Int) + 1) * 1 < 1 * n_rB o (((i + x : Nat) : Int) + 1) := mo
        obtain ⟨n1, n2, n3, n4, n5, n6, n7, n8⟩ := n_next (o := o) ba (T1 := n_rT o (((i + x : Nat) : Int) + 1)) (B1 := n_rB o (((i + x : Nat) : Int) + 1)) (by omega) q1 q2
        have eT : n_rT o (((i + (x + 1) : Nat) : Int) + 1) = ((o : Int) + n_rB o ((i + x : Nat) : Int)) / n_rB o (((i + x : Nat) : Int) + 1) * n_rT o (((i + x : Nat) : Int) + 1) - n_rT o ((i + x : Nat) : Int) := rfl
        have eB : n_rB o (((i + (x + 1) : Nat) : Int) + 1) = ((o : Int) + n_rB o ((i + x : Nat) : Int)) / n_rB o (((i + x : Nat) : Int) + 1) * n_rB o (((i + x : Nat) : Int) + 1) - n_rB o ((i + x : Nat) : Int) := rfl
        rw [n_td (by omega)]
        refine ⟨fun _ => ⟨by omega, by omega, by omega, by omega, by omega, by omega, by omega, ih (x + 1) _ (by omega) ?_ ?_ ?_ ?_ (fun c i hc => ?_)⟩, fun p => absurd bb.2.2.1 p⟩
        · rw [z_u2 (by omega), z_u2 (by omega), z_u2 (by omega), z_u1]; rfl
        · rw [z_u2 (by omega), z_u2 (by omega), z_u1]; rfl
        · rw [z_u2 (by omega), z_u1, eT]
        · rw [z_u1, eB]
        · rw [z_u2 (by omega), z_u2 (by omega), z_u2 (by omega), z_u2 (by omega)]; exact hf c i hc
    exact loop (k - i) 0 g1 (by omega) e2 e3 e4 e5 hf1
  · have jo : j = o := by omega
    subst jo
    obtain ⟨kj, hkj⟩ := rI_ex ho (t := j) (b := j) (by omega) (by omega)
    have cj := hkj.cu ho (by omega) (by omega)
    have k1 := hkj.one ho (by omega)
    have kk : k = n_rn j := by omega
    refine hq _ ?_ ?_ (fun c i hc => by rw [z_u2 (by omega), z_u2 (by omega)])
    · rw [z_u2 (by omega), z_u1, kk, r2]
    · rw [z_u1, kk, r3]
theorem o_fraction {X Y : z_X} {N K : Nat} {σ τ gx gm : z_G} (hx : z_lay X N σ 0 z_SF z_RF) (hm : z_lay Y K τ 0 z_SM z_RM) (I : Inv gx gm) {a1 : Int} (r1 : -2147483648 ≤ a1 ∧ a1 ≤ 2147483647) : z_O X 4 m_F_fraction [(2, 0), (0, a1)] N σ gx (fun r gx' => z_O Y 4 m_M_fraction [(2, 0), (0, a1)] K τ gm (fun r' gm' => r' = r ∧ Inv gx' gm')) := by
  obtain ⟨o, o1, o2, o3, o4⟩ := Inv_o I
  obtain ⟨r1', r2', r3', r4', r5', r6'⟩ := n_row ⟨o1, o2⟩
  refine b_F_fraction_0 hx ⟨fun c => ?_, fun c => b_M_fraction_0 hm ⟨fun p => absurd p c, fun _ => ⟨rfl, I.fin xA.rf yA.rf I.2.2.2.2 1⟩⟩⟩
  rw [o4]
  refine s_Rw_valuesOf hx (Inv_xR I) ⟨o1, o2⟩ ?_
  rw [o4]
  have mrun : ∀ {Q : z_P}, (∀ gm', mL gm gm' → rW gm' o → z_O Y 3 m_M_tellsRow [(2, 0), (0, a1)] K τ gm' (fun r1 g1 => (r1 = 0 ∨ r1 = 1) → Q r1 g1)) → z_O Y 4 m_M_fraction [(2, 0), (0, a1)] K τ gm Q := fun h => b_M_fraction_0 hm ⟨fun _ => by
    rw [o3]
    exact s_M_lays hm ⟨o1, o2⟩ I.2.2.2.2 fun gm' hf hw => h gm' hf hw, fun p => absurd c p⟩
  refine ⟨fun c2 => ?_, fun c2 => mrun fun gm' h1 h2 => s_M_tellsRow hm ⟨o1, o2⟩ h2 (fun _ _ => ⟨rfl, I.fin xA.rf h1.y (h2.c ⟨o1, o2⟩) 6⟩) (fun j hj hj2 => by exfalso; omega)⟩
  obtain ⟨k, rfl⟩ : ∃ k : Nat, a1 = k := ⟨a1.toNat, by omega⟩
  refine s_Rw_seek hx (Inv_xR I) ⟨o1, o2⟩ (by omega) fun g' e2 e3 hf => ?_
  have bk := r1'.2.2.2.2.1 k (by omega)
  have hA : xA gx g' := fun c i hk => hf c i (by unfold xK at hk; omega)
  rw [e2, e3]
  refine s_F_tell hx (by omega) (by omega) (by omega) fun _ => mrun fun gm' h1 h2 => s_M_tellsRow hm ⟨o1, o2⟩ h2 (fun p => by omega) (fun j hj hj2 _ => ⟨rfl, ?_⟩)
  rw [← hj]
  exact I.tell hA h1.y (h2.c ⟨o1, o2⟩) _ _

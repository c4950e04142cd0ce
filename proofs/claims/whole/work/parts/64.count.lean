/-! ## the row: reference lays it, class counts in it -/
theorem rP.last {T B : Int → Int} {n o : Nat} (h : rP T B n o) (ho : 1 ≤ o ∧ o ≤ 200) (c : T n = B n) : B n = 1 ∧ (n : Int) = n_VO o - 1 := by
  have hb := h.2.2.2.2.1 n (by omega)
  have hn := h.1
  have e2 : B n = 1 := by
    obtain ⟨j, rfl⟩ : ∃ j, n = j + 1 := ⟨n - 1, by omega⟩
    have a : T (((j + 1 : Nat) : Int)) * B j - T j * B (((j + 1 : Nat) : Int)) = 1 := (h.2.2.2.2.2 j (by omega)).1
    rw [c, Int.mul_comm (T j), ← Int.mul_sub] at a
    exact Int.eq_one_of_mul_eq_one_right (by omega) a
  have e1 := h.count (c := o) (by omega) ho.2 n (by omega)
  rw [rC_all h n (by omega), c, e2, n_CU_one ho] at e1
  exact ⟨e2, e1.symm⟩
/-- the row of order o lies in the reference -/
def rW (g : z_G) (o : Nat) : Prop := g 0 25 = o ∧ g 0 24 = n_VO o ∧ 2 ≤ n_VO o ∧ n_VO o ≤ 12233 ∧ rP (g 8) (g 9) (n_VO o - 1).toNat o ∧ g 8 (n_VO o - 1) = 1 ∧ g 9 (n_VO o - 1) = 1
theorem rOK.w {g : z_G} {o : Nat} (ho : 1 ≤ o ∧ o ≤ 200) (h25 : g 0 25 = o) (h : rOK (g 8) (g 9) (g 0 24) o) : rW g o := by
  obtain ⟨h1, h2, h3, h4, h5, h6, h7, h8⟩ := h
  have hP : rP (g 8) (g 9) (g 0 24 - 1).toNat o := ⟨by omega, ho.1, h3, h4, fun i hi => h7 i (by omega) (by omega), fun i hi => h8 i (by omega) (by omega)⟩
  have e : (((g 0 24 - 1).toNat : Nat) : Int) = g 0 24 - 1 := by omega
  have l := hP.last ho (by rw [e, h5, h6])
  rw [e] at l
  have e2 : g 0 24 = n_VO o := by omega
  rw [e2] at h1 h2 h5 h6 hP
  exact ⟨h25, e2, h1, h2, hP, h5, h6⟩
theorem rW.ok {g : z_G} {o : Nat} (h : rW g o) : rOK (g 8) (g 9) (g 0 24) (g 0 25) := by
  obtain ⟨h1, h2, h3, h4, ⟨p1, p2, p3, p4, p5, p6⟩, h6, h7⟩ := h
  rw [h1, h2]
  refine ⟨h3, h4, p3, p4, h6, h7, fun n n0 n1 => ?_, fun n n0 n1 => ?_⟩
  · have := p5 n.toNat (by omega)
    rw [show ((n.toNat : Nat) : Int) = n by omega] at this
    exact this
  · have := p6 n.toNat (by omega)
    rw [show ((n.toNat : Nat) : Int) = n by omega] at this
    exact this
theorem s_M_lays {X : z_X} {N : Nat} {σ g : z_G} {Q : z_P} (hm : z_lay X N σ 0 z_SM z_RM) {o : Nat} (ho : 1 ≤ o ∧ o ≤ 200) (hc : mC g) (hq : ∀ g', (∀ c i, c ≠ 8 → c ≠ 9 → ¬ (c = 0 ∧ (i = 24 ∨ i = 25)) → g' c i = g c i) → rW g' o → Q 0 g') : z_O X 2 m_M_lays [(2, 0), (0, (o : Int))] N σ g Q := by
  have hvo := (n_CU_11 o (by omega) ho.1).2
  refine b_M_lays_0 hm ⟨fun e => hq g (fun _ _ _ _ _ => rfl) ?_, fun e => b_M_puts_0 hm ?_⟩
  · rcases hc with h | ⟨h1, h2, h3⟩
    · omega
    · rw [e] at h3
      exact rOK.w ho e h3
  have z24 : z_up (z_up g 0 25 (o : Int)) 0 24 0 0 24 = 0 := z_u1
  rw [z24]
  refine ⟨by omega, by omega, b_M_puts_0 hm ?_⟩
  have y24 : z_up (z_up (z_up (z_up (z_up g 0 25 (o : Int)) 0 24 0) 8 0 0) 9 0 1) 0 24 (0 + 1) 0 24 = 1 := z_u1
  rw [y24]
  refine ⟨by omega, by omega, ?_⟩
  have loop : ∀ (m n : Nat) (g' : z_G), n_VO o ≤ (n : Int) + 1 + m → rP (g' 8) (g' 9) (n + 1) o → g' 0 24 = (n : Int) + 2 → g' 0 25 = o → (∀ c i, c ≠ 8 → c ≠ 9 → ¬ (c = 0 ∧ (i = 24 ∨ i = 25)) → g' c i = g c i) → L_M_lays_43 X N σ o (g' 8 n) (g' 9 n) (g' 8 ((n : Int) + 1)) (g' 9 ((n : Int) + 1)) g' Q := by
    intro m
    induction m with
    | zero =>
      intro n g' k1 k2 k3 k4 k5
      have s := rP.short ho _ _ _ _ k2 (Nat.le_refl _)
      exfalso
      split at s <;> omega
    | succ m ih =>
      intro n g' k1 k2 k3 k4 k5
      have s := rP.short ho _ _ _ _ k2 (Nat.le_refl _)
      have b0 := k2.2.2.2.2.1 n (by omega)
      have b1 : 0 ≤ g' 8 ((n : Int) + 1) ∧ g' 8 ((n : Int) + 1) ≤ g' 9 ((n : Int) + 1) ∧ 1 ≤ g' 9 ((n : Int) + 1) ∧ g' 9 ((n : Int) + 1) ≤ o := k2.2.2.2.2.1 (n + 1) (by omega)
      obtain ⟨d1, d2⟩ := k2.2.2.2.2.2 n (by omega)
      by_cases c : g' 8 ((n : Int) + 1) = g' 9 ((n : Int) + 1)
      · refine b_M_lays_43 hm ⟨fun _ => hq g' k5 ?_, fun p => absurd (by omega) p⟩
        have l := k2.last ho c
        have l2 : ((n : Int) + 1) = n_VO o - 1 := l.2
        have l1 : g' 9 ((n : Int) + 1) = 1 := l.1
        refine ⟨k4, by omega, by omega, by omega, ?_, ?_, ?_⟩
        · rw [show (n_VO o - 1).toNat = n + 1 by omega]; exact k2
        · rw [← l2, c, l1]
        · rw [← l2, l1]
      · rw [if_neg (show ¬ g' 8 (((n + 1 : Nat) : Int)) = g' 9 (((n + 1 : Nat) : Int)) from c)] at s
        obtain ⟨n1, n2, n3, n4, n5, n6, n7, n8⟩ := n_next (o := o) b0 (T1 := g' 8 ((n : Int) + 1)) (B1 := g' 9 ((n : Int) + 1)) (by omega) d1 d2
        refine b_M_lays_43 hm ⟨fun p => absurd p (by omega), fun _ => ?_⟩
        rw [n_td (by omega)]
        generalize ((o : Int) + g' 9 n) / g' 9 ((n : Int) + 1) = q at *
        refine ⟨by omega, by omega, by omega, by omega, by omega, by omega, b_M_puts_0 hm ?_⟩
        generalize q * g' 8 ((n : Int) + 1) - g' 8 n = T' at *
        generalize q * g' 9 ((n : Int) + 1) - g' 9 n = B' at *
        rw [k3]
        refine ⟨by omega, by omega, ?_⟩
        generalize hg2 : z_up (z_up (z_up g' 8 ((n : Int) + 2) T') 9 ((n : Int) + 2) B') 0 24 ((n : Int) + 2 + 1) = g2
        have e8 : ∀ i, i ≠ (n : Int) + 2 → g2 8 i = g' 8 i := fun i hi => by rw [← hg2, z_u2 (by omega), z_u2 (by omega), z_u2 (by omega)]
        have e9 : ∀ i, i ≠ (n : Int) + 2 → g2 9 i = g' 9 i := fun i hi => by rw [← hg2, z_u2 (by omega), z_u2 (by omega), z_u2 (by omega)]
        have f8 : g2 8 ((n : Int) + 2) = T' := by rw [← hg2, z_u2 (by omega), z_u2 (by omega), z_u1]
        have f9 : g2 9 ((n : Int) + 2) = B' := by rw [← hg2, z_u2 (by omega), z_u1]
        have f24 : g2 0 24 = (n : Int) + 2 + 1 := by rw [← hg2, z_u1]
        have fo : ∀ c i, c ≠ 8 → c ≠ 9 → ¬ (c = 0 ∧ i = 24) → g2 c i = g' c i := fun c i c1 c2 c3 => by rw [← hg2, z_u2 (by omega), z_u2 (by omega), z_u2 (by omega)]
        have i1 := ih (n + 1) g2 (by omega) ?_ (by rw [f24]; omega) (by rw [fo _ _ (by omega) (by omega) (by omega)]; exact k4) (fun c i c1 c2 c3 => by rw [fo c i c1 c2 (by omega)]; exact k5 c i c1 c2 c3)
        · rw [show ((n + 1 : Nat) : Int) + 1 = (n : Int) + 2 by omega, f8, f9, show ((n + 1 : Nat) : Int) = (n : Int) + 1 by omega, e8 _ (by omega), e9 _ (by omega)] at i1
          exact i1
        · obtain ⟨h1, h2, h3, h4, h5, h6⟩ := k2
          refine ⟨by omega, h2, by rw [e8 _ (by omega)]; exact h3, by rw [e9 _ (by omega)]; exact h4, fun i hi => ?_, fun i hi => ?_⟩
          · by_cases ci : i = n + 1 + 1
            · subst ci
              rw [show ((n + 1 + 1 : Nat) : Int) = (n : Int) + 2 by omega, f8, f9]; omega
            · rw [e8 _ (by omega), e9 _ (by omega)]; exact h5 i (by omega)
          · by_cases ci : i = n + 1
            · subst ci
              rw [show ((n + 1 : Nat) : Int) + 1 = (n : Int) + 2 by omega, f8, f9, show ((n + 1 : Nat) : Int) = (n : Int) + 1 by omega, e8 _ (by omega), e9 _ (by omega)]
              exact ⟨n1, n2⟩
            · rw [e8 _ (by omega), e9 _ (by omega), e8 _ (by omega), e9 _ (by omega)]; exact h6 i (by omega)
  generalize hg1 : z_up (z_up (z_up (z_up (z_up (z_up (z_up (z_up g 0 25 (o : Int)) 0 24 0) 8 0 0) 9 0 1) 0 24 (0 + 1)) 8 1 1) 9 1 (o : Int)) 0 24 (1 + 1) = g1
  have f80 : g1 8 0 = 0 := by rw [← hg1, z_u2 (by omega), z_u2 (by omega), z_u2 (by omega), z_u2 (by omega), z_u2 (by omega), z_u1]
  have f90 : g1 9 0 = 1 := by rw [← hg1, z_u2 (by omega), z_u2 (by omega), z_u2 (by omega), z_u2 (by omega), z_u1]
  have f81 : g1 8 1 = 1 := by rw [← hg1, z_u2 (by omega), z_u2 (by omega), z_u1]
  have f91 : g1 9 1 = o := by rw [← hg1, z_u2 (by omega), z_u1]
  have i1 := loop 12233 0 g1 (by omega) ⟨by omega, ho.1, f80, f90, fun i hi => ?_, fun i hi => ?_⟩ (by rw [← hg1, z_u1]; rfl) (by rw [← hg1, z_u2 (by omega), z_u2 (by omega), z_u2 (by omega), z_u2 (by omega), z_u2 (by omega), z_u2 (by omega), z_u2 (by omega), z_u1]) (fun c i c1 c2 c3 => by rw [← hg1, z_u2 (by omega), z_u2 (by omega), z_u2 (by omega), z_u2 (by omega), z_u2 (by omega), z_u2 (by omega), z_u2 (by omega), z_u2 (by omega)])
  · rw [show ((0 : Nat) : Int) + 1 = 1 from rfl, show ((0 : Nat) : Int) = 0 from rfl, f80, f90, f81, f91] at i1
    exact i1
  · rcases (show i = 0 ∨ i = 1 by omega) with rfl | rfl
    · rw [show ((0 : Nat) : Int) = 0 from rfl, f80, f90]; omega
    · rw [show ((1 : Nat) : Int) = 1 from rfl, f81, f91]; omega
  · have : i = 0 := by omega
    subst this
    rw [show ((0 : Nat) : Int) + 1 = 1 from rfl, show ((0 : Nat) : Int) = 0 from rfl, f80, f90, f81, f91]; omega
/-- what the class's tables are -/
theorem s_Rw_countUnder {X : z_X} {N : Nat} {σ g : z_G} {Q : z_P} (hx : z_lay X N σ 0 z_SF z_RF) (hr : xR g) {o : Nat} (ho : 1 ≤ o ∧ o ≤ 200) {t b : Int} (ht : 0 ≤ t ∧ t ≤ b ∧ t ≤ 9007199254740992) (hb : 1 ≤ b ∧ b ≤ 1152921504606846976) (hq : Q (n_CU o t b) g) : z_O X 1 m_Rw_countUnder [(2, 15), (0, (o : Int)), (1, t), (1, b)] N σ g Q := by
  refine b_Rw_countUnder_0 hx ⟨fun c => ?_, fun c => ⟨fun _ => ?_, fun p => absurd (by omega) p⟩⟩
  · unfold n_CU at hq; rw [if_pos c] at hq; exact hq
  unfold n_CU at hq
  rw [if_neg c] at hq
  have wb : ∀ k : Nat, 1 ≤ k → 1 ≤ (t * k + b - 1) / b ∧ (t * k + b - 1) / b ≤ k := fun k hk => by
    have h1 := (n_ce (t := t * (k : Int)) (b := b) (x := k) hb.1).mpr (by rw [Int.mul_comm]; exact Int.mul_le_mul_of_nonneg_left ht.2.1 (by omega))
    have h2 : ¬ ((t * (k : Int) + b - 1) / b ≤ 0) := fun q => by
      have := (n_ce (t := t * (k : Int)) (b := b) (x := 0) hb.1).mp q
      have m : 1 * (k : Int) ≤ t * k := Int.mul_le_mul_of_nonneg_right (by omega) (by omega)
      omega
    omega
  have fb : ∀ k : Nat, 1 ≤ k → k ≤ 200 → -1600 ≤ ((t * k + b - 1) / b - 1) * n_Mm (o / k) ∧ ((t * k + b - 1) / b - 1) * n_Mm (o / k) ≤ 1600 := fun k hk hk2 => by
    have h1 := wb k hk
    have h2 := n_Mm_le (o / k) (by have := Nat.div_le_self o k; omega)
    have m1 : ((t * k + b - 1) / b - 1) * n_Mm (o / k) ≤ ((t * k + b - 1) / b - 1) * 8 := Int.mul_le_mul_of_nonneg_left h2.2 (by omega)
    have m2 : ((t * k + b - 1) / b - 1) * (-8) ≤ ((t * k + b - 1) / b - 1) * n_Mm (o / k) := Int.mul_le_mul_of_nonneg_left h2.1 (by omega)
    omega
  have loop : ∀ (m j : Nat), j + m = o → L_Rw_countUnder_21 X N σ o t b (1 + n_S (fun k => ((t * k + b - 1) / b - 1) * n_Mm (o / k)) j) ((j : Int) + 1) g Q := by
    intro m
    induction m with
    | zero =>
      intro j h1
      have : j = o := by omega
      subst this
      have sl := n_S_le (f := fun k => ((t * k + b - 1) / b - 1) * n_Mm (j / k)) (c := 1600) (by omega) j (fun d d1 d2 => fb d d1 (by omega))
      refine b_Rw_countUnder_21 hx ⟨fun _ => ⟨by omega, hq⟩, fun p => absurd (by omega) p⟩
    | succ m ih =>
      intro j h1
      have i1 := ih (j + 1) (by omega)
      have sl := n_S_le (f := fun k => ((t * k + b - 1) / b - 1) * n_Mm (o / k)) (c := 1600) (by omega) j (fun d d1 d2 => fb d d1 (by omega))
      have f1 := fb (j + 1) (by omega) (by omega)
      have w1 := wb (j + 1) (by omega)
      have ej : (j : Int) + 1 = ((j + 1 : Nat) : Int) := by omega
      have tk0 : 0 ≤ t * ((j + 1 : Nat) : Int) := Int.mul_nonneg (by omega) (by omega)
      have tk1 : t * ((j + 1 : Nat) : Int) ≤ 9007199254740992 * ((j + 1 : Nat) : Int) := Int.mul_le_mul_of_nonneg_right ht.2.2 (by omega)
      have eo : Int.tdiv (o : Int) ((j + 1 : Nat) : Int) = ((o / (j + 1) : Nat) : Int) := by rw [n_td (by omega), Int.natCast_ediv]
      have ol : o / (j + 1) ≤ o := Nat.div_le_self _ _
      have e17 : g 17 ((o / (j + 1) : Nat) : Int) = n_Mm (o / (j + 1)) := (hr (o / (j + 1)) (by omega)).2
      refine b_Rw_countUnder_21 hx ?_
      rw [ej, n_td (by omega), eo, e17]
      have i2 : L_Rw_countUnder_21 X N σ o t b (1 + n_S (fun k => ((t * k + b - 1) / b - 1) * n_Mm (o / k)) j + ((t * ((j + 1 : Nat) : Int) + b - 1) / b - 1) * n_Mm (o / (j + 1))) (((j + 1 : Nat) : Int) + 1) g Q := by
        rw [Int.add_assoc]
        exact i1
      clear i1 eo e17 ih
      generalize o / (j + 1) = dd at *
      exact ⟨fun p => absurd p (by omega), fun _ => ⟨fun p => absurd p (by omega), fun _ => ⟨by omega, by omega, by omega, by omega, by omega, by omega, fun p => absurd p (by omega), fun _ => ⟨by omega, by omega, by omega, by omega, i2⟩⟩⟩⟩
  have := loop o 0 (by omega)
  exact this
def n_G (a b : Nat) : Int := n_S (fun d => n_Mu d * ((a / d : Nat) : Int) * ((b / d : Nat) : Int)) 200
theorem n_G_term {a b d : Nat} (ha : a ≤ 200) (hb : b ≤ 200) (hd : 1 ≤ d) (hd2 : d ≤ 200) : (-200 ≤ n_Mu d * ((a / d : Nat) : Int) ∧ n_Mu d * ((a / d : Nat) : Int) ≤ 200) ∧ -40000 ≤ n_Mu d * ((a / d : Nat) : Int) * ((b / d : Nat) : Int) ∧ n_Mu d * ((a / d : Nat) : Int) * ((b / d : Nat) : Int) ≤ 40000 := by
  have h1 := n_Mu_le d (by omega)
  have h2 := Nat.div_le_self a d
  have h3 := Nat.div_le_self b d
  generalize a / d = x at *
  generalize b / d = y at *
  generalize n_Mu d = u at *
  have m1 : u * (x : Int) ≤ 1 * x := Int.mul_le_mul_of_nonneg_right h1.2 (by omega)
  have m2 : (-1) * (x : Int) ≤ u * x := Int.mul_le_mul_of_nonneg_right h1.1 (by omega)
  have m3 : u * (x : Int) * y ≤ 200 * y := Int.mul_le_mul_of_nonneg_right (by omega) (by omega)
  have m4 : (-200) * (y : Int) ≤ u * x * y := Int.mul_le_mul_of_nonneg_right (by omega) (by omega)
  omega
theorem s_Rw_pairs {X : z_X} {N : Nat} {σ g : z_G} {Q : z_P} (hx : z_lay X N σ 0 z_SF z_RF) (hr : xR g) {a b : Nat} (ha : a ≤ 200) (hb : b ≤ 200) (hq : Q (n_G a b) g) : z_O X 1 m_Rw_pairs [(2, 15), (0, (a : Int)), (0, (b : Int))] N σ g Q := by
  refine b_Rw_pairs_0 hx ?_
  have fin : ∀ j : Nat, j ≤ 200 → (a ≤ j ∨ b ≤ j) → n_S (fun d => n_Mu d * ((a / d : Nat) : Int) * ((b / d : Nat) : Int)) j = n_G a b := fun j hj h => by
    have e := n_S_ext (f := fun d => n_Mu d * ((a / d : Nat) : Int) * ((b / d : Nat) : Int)) j (200 - j) (fun d d1 d2 => by
      rcases h with h | h
      · rw [show a / d = 0 from Nat.div_eq_of_lt (by omega)]; simp
      · rw [show b / d = 0 from Nat.div_eq_of_lt (by omega)]; simp)
    rw [show j + (200 - j) = 200 by omega] at e
    exact e.symm
  have loop : ∀ (m j : Nat), j + m = 200 → L_Rw_pairs_5 X N σ a b (n_S (fun d => n_Mu d * ((a / d : Nat) : Int) * ((b / d : Nat) : Int)) j) ((j : Int) + 1) g Q := by
    intro m
    induction m with
    | zero =>
      intro j h1
      have : j = 200 := by omega
      subst this
      exact b_Rw_pairs_5 hx ⟨fun _ => hq, fun _ => ⟨fun _ => hq, fun _ => ⟨fun _ => hq, fun p => absurd (by omega) p⟩⟩⟩
    | succ m ih =>
      intro j h1
      have i1 := ih (j + 1) (by omega)
      have sl := n_S_le (f := fun d => n_Mu d * ((a / d : Nat) : Int) * ((b / d : Nat) : Int)) (c := 40000) (by omega) j (fun d d1 d2 => (n_G_term ha hb d1 (by omega)).2)
      have f1 := n_G_term (d := j + 1) ha hb (by omega) (by omega)
      have e16 : g 16 ((j + 1 : Nat) : Int) = n_Mu (j + 1) := (hr (j + 1) (by omega)).1
      have ea : Int.tdiv (a : Int) ((j + 1 : Nat) : Int) = ((a / (j + 1) : Nat) : Int) := by rw [n_td (by omega), Int.natCast_ediv]
      have eb : Int.tdiv (b : Int) ((j + 1 : Nat) : Int) = ((b / (j + 1) : Nat) : Int) := by rw [n_td (by omega), Int.natCast_ediv]
      refine b_Rw_pairs_5 hx ?_
      rw [show (j : Int) + 1 = ((j + 1 : Nat) : Int) by omega, ea, eb, e16]
      refine ⟨fun p => ?_, fun p => ⟨fun p2 => ?_, fun p2 => ⟨fun p3 => absurd p3 (by omega), fun _ => ⟨by omega, by omega, by omega, by omega, by omega, by omega, i1⟩⟩⟩⟩
      · rw [fin j (by omega) (by omega)]; exact hq
      · rw [fin j (by omega) (by omega)]; exact hq
  have := loop 200 0 (by omega)
  exact this
theorem n_G_pos : ∀ o < 201, 0 ≤ n_S (fun d => n_Mu d * ((o / d : Nat) : Int) * ((o / d : Nat) : Int)) 200 := by decide +kernel
theorem s_Rw_valuesOf {X : z_X} {N : Nat} {σ g : z_G} {Q : z_P} (hx : z_lay X N σ 0 z_SF z_RF) (hr : xR g) {o : Nat} (ho : 1 ≤ o ∧ o ≤ 200) (hq : Q (n_VO o) g) : z_O X 2 m_Rw_valuesOf [(2, 15), (0, (o : Int))] N σ g Q := by
  have h0 : 0 ≤ n_G o o := n_G_pos o (by omega)
  have h1 := (n_CU_11 o (by omega) ho.1).2
  have e : n_VO o = 1 + (n_G o o + 1) / 2 := rfl
  refine b_Rw_valuesOf_0 hx (s_Rw_pairs hx hr ho.2 ho.2 ⟨by omega, ?_⟩)
  rw [n_td (by omega), ← e]
  exact ⟨by omega, hq⟩

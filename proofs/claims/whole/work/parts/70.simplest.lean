/-! ## simplest -/
theorem n_lt3 {t b u c v d : Int} (hb : 1 ≤ b) (hc : 1 ≤ c) (hd : 1 ≤ d) (h1 : t * c ≤ u * b) (h2 : u * d < v * c) : t * d < v * b := by
  have a1 : t * c * d ≤ u * b * d := Int.mul_le_mul_of_nonneg_right h1 (by omega)
  have a2 : u * d * b < v * c * b := Int.mul_lt_mul_of_pos_right h2 (by omega)
  have e1 : u * b * d = u * d * b := by ac_rfl
  have e2 : t * c * d = c * (t * d) := by ac_rfl
  have e3 : v * c * b = c * (v * b) := by ac_rfl
  exact Int.lt_of_mul_lt_mul_left (show c * (t * d) < c * (v * b) by omega) (by omega)
theorem n_lt4 {t b u c v d : Int} (hb : 1 ≤ b) (hc : 1 ≤ c) (hd : 1 ≤ d) (h1 : t * c < u * b) (h2 : u * d ≤ v * c) : t * d < v * b := by
  have a1 : t * c * d < u * b * d := Int.mul_lt_mul_of_pos_right h1 (by omega)
  have a2 : u * d * b ≤ v * c * b := Int.mul_le_mul_of_nonneg_right h2 (by omega)
  have e1 : u * b * d = u * d * b := by ac_rfl
  have e2 : t * c * d = c * (t * d) := by ac_rfl
  have e3 : v * c * b = c * (v * b) := by ac_rfl
  exact Int.lt_of_mul_lt_mul_left (show c * (t * d) < c * (v * b) by omega) (by omega)
theorem n_sqA {lt lb ht hb l1 l2 : Int} (hs : n_sp lt lb ht hb) (h1 : lt * l2 ≤ l1 * lb) (h2 : l1 * hb < ht * l2) :
    let q := (l1 * lb - lt * l2) / (ht * l2 - l1 * hb)
    0 ≤ q ∧ n_sp (lt + q * ht) (lb + q * hb) ht hb ∧ (lt + q * ht) * l2 ≤ l1 * (lb + q * hb) ∧ l1 * (lb + q * hb + hb) < (lt + q * ht + ht) * l2 ∧ ((lt + ht) * l2 ≤ l1 * (lb + hb) → 1 ≤ q) := by
  intro q
  obtain ⟨s1, s2, s3, s4, s5, s6⟩ := hs
  have hq : (l1 * lb - lt * l2) / (ht * l2 - l1 * hb) = q := rfl
  have e1 := Int.mul_ediv_add_emod (l1 * lb - lt * l2) (ht * l2 - l1 * hb)
  have e2 := Int.emod_nonneg (l1 * lb - lt * l2) (show ht * l2 - l1 * hb ≠ 0 by omega)
  have e3 := Int.emod_lt_of_pos (l1 * lb - lt * l2) (show 0 < ht * l2 - l1 * hb by omega)
  rw [hq] at e1
  have q0 : 0 ≤ q := Int.ediv_nonneg (by omega) (by omega)
  have m1 : (ht * l2 - l1 * hb) * q = q * ht * l2 - l1 * (q * hb) := by
    rw [Int.sub_mul]
    have a1 : ht * l2 * q = q * ht * l2 := by ac_rfl
    have a2 : l1 * hb * q = l1 * (q * hb) := by ac_rfl
    rw [a1, a2]
  have z1 : (lt + q * ht) * l2 = lt * l2 + q * ht * l2 := Int.add_mul _ _ _
  have z2 : l1 * (lb + q * hb) = l1 * lb + l1 * (q * hb) := Int.mul_add _ _ _
  have qh : 0 ≤ q * ht := Int.mul_nonneg q0 (by omega)
  have qb : q * ht ≤ q * hb := Int.mul_le_mul_of_nonneg_left s5 q0
  refine ⟨q0, ⟨by omega, by omega, by omega, s4, s5, ?_⟩, by omega, ?_, fun h => ?_⟩
  · rw [Int.mul_add, Int.add_mul]
    have a1 : ht * (q * hb) = q * ht * hb := by ac_rfl
    omega
  · rw [Int.mul_add l1 (lb + q * hb) hb, Int.add_mul (lt + q * ht) ht l2]; omega
  · rw [Int.add_mul, Int.mul_add] at h
    rcases Int.lt_or_le 0 q with c | c
    · omega
    · have z : q = 0 := by omega
      rw [z, Int.mul_zero] at e1
      omega
theorem n_sqB {lt lb ht hb g1 g2 : Int} (hs : n_sp lt lb ht hb) (h1 : g1 * hb ≤ ht * g2) (h2 : lt * g2 < g1 * lb) :
    let q := (ht * g2 - g1 * hb) / (g1 * lb - lt * g2)
    0 ≤ q ∧ n_sp lt lb (ht + q * lt) (hb + q * lb) ∧ g1 * (hb + q * lb) ≤ (ht + q * lt) * g2 ∧ (lt + (ht + q * lt)) * g2 < g1 * (lb + (hb + q * lb)) ∧ (0 ≤ (lt + ht) * g2 - g1 * (lb + hb) → 1 ≤ q) := by
  intro q
  obtain ⟨s1, s2, s3, s4, s5, s6⟩ := hs
  have hq : (ht * g2 - g1 * hb) / (g1 * lb - lt * g2) = q := rfl
  have e1 := Int.mul_ediv_add_emod (ht * g2 - g1 * hb) (g1 * lb - lt * g2)
  have e2 := Int.emod_nonneg (ht * g2 - g1 * hb) (show g1 * lb - lt * g2 ≠ 0 by omega)
  have e3 := Int.emod_lt_of_pos (ht * g2 - g1 * hb) (show 0 < g1 * lb - lt * g2 by omega)
  rw [hq] at e1
  have q0 : 0 ≤ q := Int.ediv_nonneg (by omega) (by omega)
  have m1 : (g1 * lb - lt * g2) * q = g1 * (q * lb) - q * lt * g2 := by
    rw [Int.sub_mul]
    have a1 : g1 * lb * q = g1 * (q * lb) := by ac_rfl
    have a2 : lt * g2 * q = q * lt * g2 := by ac_rfl
    rw [a1, a2]
  have z1 : (ht + q * lt) * g2 = ht * g2 + q * lt * g2 := Int.add_mul _ _ _
  have z2 : g1 * (hb + q * lb) = g1 * hb + g1 * (q * lb) := Int.mul_add _ _ _
  have qh : 0 ≤ q * lt := Int.mul_nonneg q0 (by omega)
  have qb : q * lt ≤ q * lb := Int.mul_le_mul_of_nonneg_left s2 q0
  refine ⟨q0, ⟨s1, s2, s3, by omega, by omega, ?_⟩, by omega, ?_, fun h => ?_⟩
  · rw [Int.mul_add, Int.add_mul]
    have a1 : lt * (q * lb) = q * lt * lb := by ac_rfl
    omega
  · rw [Int.mul_add g1 lb, Int.add_mul lt]; omega
  · rw [Int.add_mul, Int.mul_add] at h
    rcases Int.lt_or_le 0 q with c | c
    · omega
    · have z : q = 0 := by omega
      rw [z, Int.mul_zero] at e1
      omega
theorem n_sqU {lt lb ht hb l1 l2 g1 g2 : Int} (hs : n_sp lt lb ht hb) (hl : 1 ≤ l2) (hg : 1 ≤ g2) (h1 : lt * l2 ≤ l1 * lb) (h2 : g1 * hb ≤ ht * g2) (h : l1 * g2 < g1 * l2) : lb + hb ≤ l2 + g2 ∧ lt * g2 < g1 * lb ∧ l1 * hb < ht * l2 := by
  obtain ⟨s1, s2, s3, s4, s5, s6⟩ := hs
  have a := n_lt3 (t := lt) (b := lb) (u := l1) (c := l2) (v := g1) (d := g2) s3 hl hg h1 h
  have b := n_lt4 (t := l1) (b := l2) (u := g1) (c := g2) (v := ht) (d := hb) hl hg (by omega) h h2
  refine ⟨n_gap (T := lt) (B := lb) (T' := ht) (B' := hb) (x := l1 + g1) (k := l2 + g2) s3 (by omega) s6 ?_ ?_, a, b⟩
  · rw [Int.mul_add, Int.add_mul]; omega
  · rw [Int.mul_add, Int.add_mul]; omega
theorem s_Sp_squeeze {X : z_X} {N : Nat} {σ g : z_G} {Q : z_P} (hx : z_lay X N σ 0 z_SF z_RF) {l1 l2 g1 g2 : Int} (e18 : g 18 3 = l1 ∧ g 18 4 = l2) (e20 : g 20 3 = g1 ∧ g 20 4 = g2) (hl : 0 ≤ l1 ∧ l1 ≤ l2 ∧ 1 ≤ l2 ∧ l2 ≤ 9999) (hg : 0 ≤ g1 ∧ g1 ≤ g2 ∧ 1 ≤ g2 ∧ g2 ≤ 9999) (h : l1 * g2 < g1 * l2) (hq : ∀ (g' : z_G) (lt lb ht hb : Int), n_sp lt lb ht hb → lt * l2 ≤ l1 * lb → g1 * hb ≤ ht * g2 → l1 * (lb + hb) < (lt + ht) * l2 → (lt + ht) * g2 < g1 * (lb + hb) → lb + hb ≤ 19998 → g' 22 0 = lt → g' 22 1 = lb → g' 22 2 = ht → g' 22 3 = hb → (∀ c i, c ≠ 22 → g' c i = g c i) → Q 0 g') : z_O X 2 m_Sp_squeeze [(2, 22), (2, 18), (2, 20)] N σ g Q := by
  refine b_Sp_squeeze_0 (o := 22) (p1 := 18) (p2 := 20) (ky_F_22 hx) (ky_F_18 hx) (ky_F_20 hx) (b_Sp_toRoot_0 (o := 22) (ky_F_22 hx) ?_)
  have pb : ∀ u v : Int, 0 ≤ u → u ≤ 20000 → 0 ≤ v → v ≤ 9999 → 0 ≤ u * v ∧ u * v ≤ 199980000 := fun u v u1 u2 v1 v2 => by
    have a1 : u * v ≤ 20000 * v := Int.mul_le_mul_of_nonneg_right u2 v1
    exact ⟨Int.mul_nonneg u1 v1, by omega⟩
  have pb' : ∀ u v : Int, 0 ≤ u → u ≤ 9999 → 0 ≤ v → v ≤ 20000 → 0 ≤ u * v ∧ u * v ≤ 199980000 := fun u v u1 u2 v1 v2 => by
    rw [Int.mul_comm]; exact pb v u v1 v2 u1 u2
  have loop : ∀ (m x : Nat) (g' : z_G) (lt lb ht hb : Int), x + m = 16 → n_sp lt lb ht hb → lt * l2 ≤ l1 * lb → g1 * hb ≤ ht * g2 → ((2 ^ x : Nat) : Int) ≤ lb + hb → (x = 0 ∨ (lt + ht) * l2 ≤ l1 * (lb + hb)) → g' 22 0 = lt → g' 22 1 = lb → g' 22 2 = ht → g' 22 3 = hb → (∀ c i, c ≠ 22 → g' c i = g c i) → L_Sp_squeeze_6 X N σ x 22 18 20 g' Q := by
    intro m
    induction m with
    | zero =>
      intro x g' lt lb ht hb k1 k2 k3 k4 k5
      exfalso
      have := (n_sqU k2 hl.2.2.1 hg.2.2.1 k3 k4 h).1
      rw [show x = 16 by omega, show (2 : Nat) ^ 16 = 65536 from rfl] at k5
      omega
    | succ m ih =>
      intro x g' lt lb ht hb k1 k2 k3 k4 k5 k6 e0 e1 e2 e3 hf
      obtain ⟨u1, u2, u3⟩ := n_sqU k2 hl.2.2.1 hg.2.2.1 k3 k4 h
      obtain ⟨s1, s2, s3, s4, s5, s6⟩ := id k2
      have f183 : g' 18 3 = l1 := by rw [hf _ _ (by omega)]; exact e18.1
      have f184 : g' 18 4 = l2 := by rw [hf _ _ (by omega)]; exact e18.2
      have f203 : g' 20 3 = g1 := by rw [hf _ _ (by omega)]; exact e20.1
      have f204 : g' 20 4 = g2 := by rw [hf _ _ (by omega)]; exact e20.2
      obtain ⟨q0, q1, q2, q3, q4⟩ := n_sqA k2 k3 u3
      have p1 := pb' l1 lb (by omega) (by omega) (by omega) (by omega)
      have p2 := pb lt l2 (by omega) (by omega) (by omega) (by omega)
      have p3 := pb ht l2 (by omega) (by omega) (by omega) (by omega)
      have p4 := pb' l1 hb (by omega) (by omega) (by omega) (by omega)
      have qle := Int.ediv_le_self (a := l1 * lb - lt * l2) (ht * l2 - l1 * hb) (by omega)
      refine b_Sp_squeeze_6 (o := 22) (p1 := 18) (p2 := 20) (ky_F_22 hx) (ky_F_18 hx) (ky_F_20 hx) ?_
      rw [f183, f184, e0, e1, e2, e3, n_td (a := l1 * lb - lt * l2) (by omega)]
      generalize (l1 * lb - lt * l2) / (ht * l2 - l1 * hb) = tA at *
      obtain ⟨v1, v2, v3⟩ := n_sqU q1 hl.2.2.1 hg.2.2.1 q2 k4 h
      obtain ⟨w1, w2, w3, w4, w5, w6⟩ := id q1
      have th0 : 0 ≤ tA * ht := Int.mul_nonneg q0 (by omega)
      have tb0 : 0 ≤ tA * hb := Int.mul_nonneg q0 (by omega)
      generalize hGA : z_up (z_up g' 22 0 (lt + tA * ht)) 22 1 (lb + tA * hb) = GA
      have a0 : GA 22 0 = lt + tA * ht := by rw [← hGA, z_u2 (by omega), z_u1]
      have a1 : GA 22 1 = lb + tA * hb := by rw [← hGA, z_u1]
      have a2 : GA 22 2 = ht := by rw [← hGA, z_u2 (by omega), z_u2 (by omega)]; exact e2
      have a3 : GA 22 3 = hb := by rw [← hGA, z_u2 (by omega), z_u2 (by omega)]; exact e3
      have ao : ∀ c i, c ≠ 22 → GA c i = g' c i := fun c i hc => by rw [← hGA, z_u2 (by omega), z_u2 (by omega)]
      have a183 : GA 18 3 = l1 := by rw [ao _ _ (by omega)]; exact f183
      have a184 : GA 18 4 = l2 := by rw [ao _ _ (by omega)]; exact f184
      have a203 : GA 20 3 = g1 := by rw [ao _ _ (by omega)]; exact f203
      have a204 : GA 20 4 = g2 := by rw [ao _ _ (by omega)]; exact f204
      rw [a0, a1, a2, a3, a183, a184, a203, a204]
      have grow : x = 0 ∨ lb + hb ≤ lb + tA * hb := by
        rcases k6 with z | z
        · exact Or.inl z
        · right
          have := q4 z
          have : 1 * hb ≤ tA * hb := Int.mul_le_mul_of_nonneg_right this (by omega)
          omega
      generalize hlt' : lt + tA * ht = lt' at *
      generalize hlb' : lb + tA * hb = lb' at *
      have r1 := pb (lt' + ht) g2 (by omega) (by omega) (by omega) (by omega)
      have r2 := pb' g1 (lb' + hb) (by omega) (by omega) (by omega) (by omega)
      refine ⟨fun p => absurd p (by omega), fun _ => ⟨by omega, by omega, by omega, by omega, by omega, by omega, fun p => absurd p (by omega), fun _ => ⟨by omega, by omega, by omega, by omega, by omega, by omega, by omega, by omega, by omega, by omega, by omega, fun c => ?_, fun c => hq GA lt' lb' ht hb q1 q2 k4 q3 (by omega) (by omega) a0 a1 a2 a3 (fun c i hc => by rw [ao c i hc, hf c i hc])⟩⟩⟩
      obtain ⟨y0, y1, y2, y3, y4⟩ := n_sqB q1 k4 v2
      have p5 := pb ht g2 (by omega) (by omega) (by omega) (by omega)
      have p6 := pb' g1 hb (by omega) (by omega) (by omega) (by omega)
      have p7 := pb' g1 lb' (by omega) (by omega) (by omega) (by omega)
      have p8 := pb lt' g2 (by omega) (by omega) (by omega) (by omega)
      have qle2 := Int.ediv_le_self (a := ht * g2 - g1 * hb) (g1 * lb' - lt' * g2) (by omega)
      refine ⟨by omega, by omega, by omega, by omega, by omega, by omega, fun p => absurd p (by omega), fun _ => ?_⟩
      rw [n_td (a := ht * g2 - g1 * hb) (by omega)]
      have y4' := y4 c
      generalize (ht * g2 - g1 * hb) / (g1 * lb' - lt' * g2) = tB at *
      obtain ⟨x1, x2, x3⟩ := n_sqU y1 hl.2.2.1 hg.2.2.1 q2 y2 h
      obtain ⟨t1, t2, t3, t4, t5, t6⟩ := id y1
      have tl0 : 0 ≤ tB * lt' := Int.mul_nonneg y0 (by omega)
      have tb1 : 1 * lb' ≤ tB * lb' := Int.mul_le_mul_of_nonneg_right y4' (by omega)
      generalize hGB : z_up (z_up GA 22 2 (ht + tB * lt')) 22 3 (hb + tB * lb') = GB
      have c0 : GB 22 0 = lt' := by rw [← hGB, z_u2 (by omega), z_u2 (by omega)]; exact a0
      have c1 : GB 22 1 = lb' := by rw [← hGB, z_u2 (by omega), z_u2 (by omega)]; exact a1
      have c2 : GB 22 2 = ht + tB * lt' := by rw [← hGB, z_u2 (by omega), z_u1]
      have c3 : GB 22 3 = hb + tB * lb' := by rw [← hGB, z_u1]
      have co : ∀ c i, c ≠ 22 → GB c i = g c i := fun c i hc => by rw [← hGB, z_u2 (by omega), z_u2 (by omega), ao c i hc, hf c i hc]
      have c183 : GB 18 3 = l1 := by rw [co _ _ (by omega)]; exact e18.1
      have c184 : GB 18 4 = l2 := by rw [co _ _ (by omega)]; exact e18.2
      rw [c0, c1, c2, c3, c183, c184]
      generalize hht : ht + tB * lt' = ht' at *
      generalize hhb : hb + tB * lb' = hb' at *
      have r3 := pb (lt' + ht') l2 (by omega) (by omega) (by omega) (by omega)
      have r4 := pb' l1 (lb' + hb') (by omega) (by omega) (by omega) (by omega)
      refine ⟨by omega, by omega, by omega, by omega, by omega, by omega, by omega, by omega, by omega, by omega, by omega, fun z => ⟨by omega, ih (x + 1) GB lt' lb' ht' hb' (by omega) y1 q2 y2 ?_ (Or.inr (by omega)) c0 c1 c2 c3 co⟩, fun z => hq GB lt' lb' ht' hb' y1 q2 y2 (by omega) y3 (by omega) c0 c1 c2 c3 co⟩
      rw [Nat.pow_succ]
      rcases grow with z0 | z0
      · subst z0
        rw [Nat.pow_zero]; omega
      · omega
  refine loop 16 0 _ 0 1 1 1 (by omega) n_sp_root (by omega) (by omega) (by decide) (Or.inl rfl) ?_ ?_ ?_ ?_ (fun c i hc => by simp [z_up, hc]) <;> simp [z_up]
theorem s_M_simplest {X : z_X} {N : Nat} {σ g : z_G} {Q : z_P} (hm : z_lay X N σ 0 z_SM z_RM) {L1 L2 G1 G2 T B : Int} (hl : 0 ≤ L1 ∧ L1 ≤ L2 ∧ 1 ≤ L2 ∧ L2 ≤ 9999) (hg : 0 ≤ G1 ∧ G1 ≤ G2 ∧ 1 ≤ G2 ∧ G2 ≤ 9999) (hB : 1 ≤ B ∧ B ≤ 19998) (h1 : L1 * B < T * L2) (h2 : T * G2 < G1 * B) (h3 : ∀ x y : Int, 1 ≤ y → L1 * y < x * L2 → x * G2 < G1 * y → B ≤ y ∧ (y = B → x = T)) (hT : 0 ≤ T) (hq : z_O X 2 m_M_tellsBy [(2, 0), (1, T), (1, B)] N σ g (fun r0 g0 => (r0 = 0 ∨ r0 = 1) → Q r0 g0)) : L_M_simplest_107 X N σ L1 L2 G1 G2 1 (Int.tdiv L1 L2 + 1) g Q := by
  have loop : ∀ (m : Nat) (b : Int), B ≤ b + m → 1 ≤ b → b ≤ B → L_M_simplest_107 X N σ L1 L2 G1 G2 b (L1 * b / L2 + 1) g Q := by
    intro m
    induction m with
    | zero =>
      intro b k1 k2 k3
      have e : b = B := by omega
      subst e
      have f1 := Int.mul_ediv_add_emod (L1 * b) L2
      have f2 := Int.emod_nonneg (L1 * b) (show L2 ≠ 0 by omega)
      have f3 := Int.emod_lt_of_pos (L1 * b) (show 0 < L2 by omega)
      have f0 : 0 ≤ L1 * b := Int.mul_nonneg hl.1 (by omega)
      have fq : 0 ≤ L1 * b / L2 := Int.ediv_nonneg f0 (by omega)
      have fle : L1 * b / L2 ≤ b := by
        have : L1 * b ≤ L2 * b := Int.mul_le_mul_of_nonneg_right hl.2.1 (by omega)
        exact Int.ediv_le_of_le_mul (by omega) (by rw [Int.mul_comm b L2]; omega)
      have g1 : L1 * b < (L1 * b / L2 + 1) * L2 := by rw [Int.add_mul, Int.mul_comm (L1 * b / L2)]; omega
      have tle : L1 * b / L2 + 1 ≤ T := by
        rcases Int.lt_or_le T (L1 * b / L2 + 1) with c | c
        · exfalso
          have : T * L2 ≤ (L1 * b / L2) * L2 := Int.mul_le_mul_of_nonneg_right (by omega) (by omega)
          rw [Int.mul_comm (L1 * b / L2)] at this
          omega
        · exact c
      have g2 : (L1 * b / L2 + 1) * G2 ≤ T * G2 := Int.mul_le_mul_of_nonneg_right tle (by omega)
      have te := (h3 _ b k2 g1 (by omega)).2 rfl
      rw [te]
      have q1 : T * G2 ≤ 20000 * G2 := Int.mul_le_mul_of_nonneg_right (by omega) (by omega)
      have q2 : 0 ≤ T * G2 := Int.mul_nonneg hT (by omega)
      have q3 : G1 * b ≤ 9999 * b := Int.mul_le_mul_of_nonneg_right (by omega) (by omega)
      exact b_M_simplest_107 hm ⟨by omega, by omega, fun _ => hq, fun p => absurd h2 p⟩
    | succ m ih =>
      intro b k1 k2 k3
      have f1 := Int.mul_ediv_add_emod (L1 * b) L2
      have f2 := Int.emod_nonneg (L1 * b) (show L2 ≠ 0 by omega)
      have f3 := Int.emod_lt_of_pos (L1 * b) (show 0 < L2 by omega)
      have f0 : 0 ≤ L1 * b := Int.mul_nonneg hl.1 (by omega)
      have fq : 0 ≤ L1 * b / L2 := Int.ediv_nonneg f0 (by omega)
      have fle : L1 * b / L2 ≤ b := by
        have : L1 * b ≤ L2 * b := Int.mul_le_mul_of_nonneg_right hl.2.1 (by omega)
        exact Int.ediv_le_of_le_mul (by omega) (by rw [Int.mul_comm b L2]; omega)
      have g1 : L1 * b < (L1 * b / L2 + 1) * L2 := by rw [Int.add_mul, Int.mul_comm (L1 * b / L2)]; omega
      have tle : b = B → L1 * b / L2 + 1 ≤ T := fun e => by
        subst e
        rcases Int.lt_or_le T (L1 * b / L2 + 1) with c | c
        · exfalso
          have : T * L2 ≤ (L1 * b / L2) * L2 := Int.mul_le_mul_of_nonneg_right (by omega) (by omega)
          rw [Int.mul_comm (L1 * b / L2)] at this
          omega
        · exact c
      have q1 : (L1 * b / L2 + 1) * G2 ≤ 20000 * G2 := Int.mul_le_mul_of_nonneg_right (by omega) (by omega)
      have q2 : 0 ≤ (L1 * b / L2 + 1) * G2 := Int.mul_nonneg (by omega) (by omega)
      have q3 : G1 * b ≤ 9999 * b := Int.mul_le_mul_of_nonneg_right (by omega) (by omega)
      have q4 : 0 ≤ G1 * b := Int.mul_nonneg (by omega) (by omega)
      refine b_M_simplest_107 hm ⟨by omega, by omega, fun c => ?_, fun c => ?_⟩
      · obtain ⟨c1, c2⟩ := h3 _ b k2 g1 c
        have e : b = B := by omega
        rw [c2 e, e]; exact hq
      · have ne : b ≠ B := fun e => by
          have := tle e
          have g2 : (L1 * b / L2 + 1) * G2 ≤ T * G2 := Int.mul_le_mul_of_nonneg_right this (by omega)
          rw [e] at c g2
          omega
        have f9 : 0 ≤ L1 * (b + 1) := Int.mul_nonneg hl.1 (by omega)
        have f10 : L1 * (b + 1) ≤ 9999 * (b + 1) := Int.mul_le_mul_of_nonneg_right (by omega) (by omega)
        have f11 : L1 * (b + 1) / L2 ≤ L1 * (b + 1) := Int.ediv_le_self _ f9
        have f12 : 0 ≤ L1 * (b + 1) / L2 := Int.ediv_nonneg f9 (by omega)
        rw [n_td f9]
        exact ⟨by omega, by omega, by omega, by omega, ih (b + 1) (by omega) (by omega) (by omega)⟩
  have := loop B.toNat 1 (by omega) (by omega) (by omega)
  rw [Int.mul_one] at this
  rw [n_td hl.1]
  exact this
theorem o_simplest {X Y : z_X} {N K : Nat} {σ τ gx gm : z_G} (hx : z_lay X N σ 0 z_SF z_RF) (hm : z_lay Y K τ 0 z_SM z_RM) (I : Inv gx gm) {a1 a2 a3 a4 : Int} (r1 : -2147483648 ≤ a1 ∧ a1 ≤ 2147483647) (r2 : -2147483648 ≤ a2 ∧ a2 ≤ 2147483647) (r3 : -2147483648 ≤ a3 ∧ a3 ≤ 2147483647) (r4 : -2147483648 ≤ a4 ∧ a4 ≤ 2147483647) : z_O X 4 m_F_simplest [(2, 0), (0, a1), (0, a2), (0, a3), (0, a4)] N σ gx (fun r gx' => z_O Y 3 m_M_simplest [(2, 0), (0, a1), (0, a2), (0, a3), (0, a4)] K τ gm (fun r' gm' => r' = r ∧ Inv gx' gm')) := by
  have F : (0 : Int) = 0 ∧ Inv (z_up gx 0 0 1) (z_up gm 0 1 1) := ⟨rfl, I.fin xA.rf yA.rf I.2.2.2.2 1⟩
  refine b_F_simplest_0 hx (s_F_takeRising hx (fun q => ?_) (fun q g' c1 c2 hf => ?_))
  · exact fun _ => ⟨fun _ => b_M_simplest_0 hm ⟨fun _ => F, fun _ => ⟨fun _ => F, fun _ => ⟨fun _ => F, fun _ => ⟨fun _ => F, fun _ => ⟨fun _ => F, fun _ => ⟨fun _ => F, fun _ => ⟨fun _ => F, fun _ => ⟨fun _ => F, fun _ => by exfalso; omega⟩⟩⟩⟩⟩⟩⟩⟩, fun e => absurd rfl e⟩
  refine fun _ => ⟨fun e => absurd e (by omega), fun _ => ?_⟩
  have hA : xA gx g' := fun c i hk => hf c i (by unfold xK at hk; omega)
  have bb1 := n_mb (u := a1) (v := a4) (by omega) (by omega) (by omega) (by omega)
  have bb2 := n_mb (u := a3) (v := a2) (by omega) (by omega) (by omega) (by omega)
  obtain ⟨t, b, t', b', v, v', le, h18, h20, who⟩ : ∃ t b t' b' : Int, (1 ≤ b ∧ b ≤ 9999 ∧ 0 ≤ t ∧ t ≤ b) ∧ (1 ≤ b' ∧ b' ≤ 9999 ∧ 0 ≤ t' ∧ t' ≤ b') ∧ t * b' ≤ t' * b ∧ cCh g' 18 t b ∧ cCh g' 20 t' b' ∧ ((t = a1 ∧ b = a2 ∧ t' = a3 ∧ b' = a4) ∨ (t = a3 ∧ b = a4 ∧ t' = a1 ∧ b' = a2)) := by
    by_cases c : 0 < a1 * a4 - a3 * a2
    · obtain ⟨d1, d2⟩ := c1 c
      exact ⟨a3, a4, a1, a2, by omega, by omega, by omega, d1, d2, Or.inr ⟨rfl, rfl, rfl, rfl⟩⟩
    · obtain ⟨d1, d2⟩ := c2 c
      exact ⟨a1, a2, a3, a4, by omega, by omega, by omega, d1, d2, Or.inl ⟨rfl, rfl, rfl, rfl⟩⟩
  have same : t * b' = t' * b → z_O Y 3 m_M_simplest [(2, 0), (0, a1), (0, a2), (0, a3), (0, a4)] K τ gm (fun r' gm' => r' = 0 ∧ Inv (z_up g' 0 0 7) gm') := fun e => by
    have z : a1 * a4 - a3 * a2 = 0 := by
      rcases who with ⟨rfl, rfl, rfl, rfl⟩ | ⟨rfl, rfl, rfl, rfl⟩ <;> omega
    exact b_M_simplest_0 hm ⟨fun p => by exfalso; omega, fun _ => ⟨fun p => by exfalso; omega, fun _ => ⟨fun p => by exfalso; omega, fun _ => ⟨fun p => by exfalso; omega, fun _ => ⟨fun p => by exfalso; omega, fun _ => ⟨fun p => by exfalso; omega, fun _ => ⟨fun p => by exfalso; omega, fun _ => ⟨fun p => by exfalso; omega, fun _ => ⟨by omega, by omega, by omega, fun _ => ⟨rfl, I.fin hA yA.rf I.2.2.2.2 7⟩, fun p => absurd z p⟩⟩⟩⟩⟩⟩⟩⟩⟩
  have mrun : ∀ {Q : z_P}, t * b' < t' * b → L_M_simplest_107 Y K τ t b t' b' 1 (Int.tdiv t b + 1) gm Q → z_O Y 3 m_M_simplest [(2, 0), (0, a1), (0, a2), (0, a3), (0, a4)] K τ gm Q := fun lt h => by
    have td0 : 0 ≤ t / b := Int.ediv_nonneg (by omega) (by omega)
    have td1 : t / b ≤ t := Int.ediv_le_self _ (by omega)
    rw [n_td (by omega)] at h
    refine b_M_simplest_0 hm ⟨fun p => by exfalso; omega, fun _ => ⟨fun p => by exfalso; omega, fun _ => ⟨fun p => by exfalso; omega, fun _ => ⟨fun p => by exfalso; omega, fun _ => ⟨fun p => by exfalso; omega, fun _ => ⟨fun p => by exfalso; omega, fun _ => ⟨fun p => by exfalso; omega, fun _ => ⟨fun p => by exfalso; omega, fun _ => ⟨by omega, by omega, by omega, fun p => ?_, fun _ => ⟨fun p => ?_, fun p => ?_⟩⟩⟩⟩⟩⟩⟩⟩⟩⟩
    · rcases who with ⟨rfl, rfl, rfl, rfl⟩ | ⟨rfl, rfl, rfl, rfl⟩ <;> (exfalso; omega)
    · rcases who with ⟨rfl, rfl, rfl, rfl⟩ | ⟨rfl, rfl, rfl, rfl⟩
      · exfalso; omega
      · rw [n_td (by omega)]
        exact ⟨by omega, by omega, h⟩
    · rcases who with ⟨rfl, rfl, rfl, rfl⟩ | ⟨rfl, rfl, rfl, rfl⟩
      · rw [n_td (by omega)]
        exact ⟨by omega, by omega, h⟩
      · exfalso; omega
  have z1 := n_red v
  have z2 := n_red v'
  obtain ⟨u1, u2, u3, u4, u5⟩ := id z1
  obtain ⟨y1, y2, y3, y4, y5⟩ := id z2
  have hd1 : t = Int.gcd t b * (t / Int.gcd t b) := (Int.mul_ediv_cancel' (Int.gcd_dvd_left t b)).symm
  have hd2 : b = Int.gcd t b * (b / Int.gcd t b) := (Int.mul_ediv_cancel' (Int.gcd_dvd_right t b)).symm
  have hd3 : t' = Int.gcd t' b' * (t' / Int.gcd t' b') := (Int.mul_ediv_cancel' (Int.gcd_dvd_left t' b')).symm
  have hd4 : b' = Int.gcd t' b' * (b' / Int.gcd t' b') := (Int.mul_ediv_cancel' (Int.gcd_dvd_right t' b')).symm
  have hp : (0 : Int) < Int.gcd t b := by
    have : 0 < Int.gcd t b := Int.gcd_pos_of_ne_zero_right t (by omega)
    omega
  have hp' : (0 : Int) < Int.gcd t' b' := by
    have : 0 < Int.gcd t' b' := Int.gcd_pos_of_ne_zero_right t' (by omega)
    omega
  have f183 := h18.tb.1
  have f184 := h18.tb.2
  have f203 := h20.tb.1
  have f204 := h20.tb.2
  rw [f183, f184, f203, f204]
  generalize (Int.gcd t b : Int) = c at *
  generalize (Int.gcd t' b' : Int) = d at *
  generalize t / c = l1 at *
  generalize b / c = l2 at *
  generalize t' / d = g1 at *
  generalize b' / d = g2 at *
  have main : ¬ (l1 = g1 ∧ l2 = g2) → z_O X 2 m_Sp_squeeze [(2, 22), (2, 18), (2, 20)] N σ g' (fun r1 g1 => ((-2147483648 ≤ ((g1 22 0) + (g1 22 2)) ∧ ((g1 22 0) + (g1 22 2)) ≤ 2147483647) ∧ ((-2147483648 ≤ ((g1 22 1) + (g1 22 3)) ∧ ((g1 22 1) + (g1 22 3)) ≤ 2147483647) ∧ (z_O X 2 m_F_tell [(2, 0), (1, (g1 22 0) + (g1 22 2)), (1, (g1 22 1) + (g1 22 3))] N σ g1 (fun r2 g2 => (r2 = 0 ∨ r2 = 1) → z_O Y 3 m_M_simplest [(2, 0), (0, a1), (0, a2), (0, a3), (0, a4)] K τ gm (fun r' gm' => r' = r2 ∧ Inv g2 gm')))))) := by
    intro hne
    have cd : (0 : Int) < c * d := Int.mul_pos hp hp'
    have s1 : t * b' = c * d * (l1 * g2) := by rw [hd1, hd4]; ac_rfl
    have s2 : t' * b = c * d * (g1 * l2) := by rw [hd2, hd3]; ac_rfl
    have ltr : l1 * g2 < g1 * l2 := by
      rcases Int.lt_or_le (l1 * g2) (g1 * l2) with z | z
      · exact z
      · exfalso
        rw [s1, s2] at le
        have := Int.le_of_mul_le_mul_left le cd
        exact hne (n_val_eq u3 y3 u5 y5 (by omega))
    have lt : t * b' < t' * b := by
      rw [s1, s2]; exact Int.mul_lt_mul_of_pos_left ltr cd
    refine s_Sp_squeeze hx ⟨f183, f184⟩ ⟨f203, f204⟩ ⟨u1, u2, u3, u4⟩ ⟨y1, y2, y3, y4⟩ ltr fun gs ltt lb ht hb k1 k2 k3 k4 k5 k6 e0 e1 e2 e3 hfs => ?_
    obtain ⟨w1, w2, w3, w4, w5, w6⟩ := id k1
    have hAs : xA gx gs := fun c i hk => by unfold xK at hk; rw [hfs c i (by omega), hf c i (by omega)]
    rw [e0, e1, e2, e3]
    refine ⟨by omega, by omega, s_F_tell hx (by omega) (by omega) (by omega) fun _ => mrun lt (s_M_simplest hm (T := ltt + ht) (B := lb + hb) ⟨v.2.2.1, v.2.2.2, v.1, v.2.1⟩ ⟨v'.2.2.1, v'.2.2.2, v'.1, v'.2.1⟩ (by omega) ?_ ?_ (fun x y hy m1 m2 => ?_) (by omega) (s_M_tellsBy hm (by omega) (by omega) fun _ => ⟨rfl, I.tell hAs yA.rf I.2.2.2.2 _ _⟩))⟩
    · rw [hd1, hd2, Int.mul_assoc, Int.mul_left_comm (ltt + ht) c l2]
      exact Int.mul_lt_mul_of_pos_left k4 hp
    · rw [hd3, hd4, Int.mul_assoc, Int.mul_left_comm (ltt + ht) d g2]
      exact Int.mul_lt_mul_of_pos_left k5 hp'
    · have n1 : l1 * y < x * l2 := by
        rw [hd1, hd2, Int.mul_assoc, Int.mul_left_comm x c l2] at m1
        exact Int.lt_of_mul_lt_mul_left m1 (by omega)
      have n2 : x * g2 < g1 * y := by
        rw [hd3, hd4, Int.mul_assoc, Int.mul_left_comm x d g2] at m2
        exact Int.lt_of_mul_lt_mul_left m2 (by omega)
      have o1 : ltt * y < x * lb := n_lt3 (t := ltt) (b := lb) (u := l1) (c := l2) (v := x) (d := y) w3 u3 hy k2 n1
      have o2 : x * hb < ht * y := n_lt4 (t := x) (b := y) (u := g1) (c := g2) (v := ht) (d := hb) hy y3 (by omega) n2 k3
      have gp := n_gap w3 (by omega) w6 o1 o2
      refine ⟨gp, fun e => ?_⟩
      -- both differences are one
      have e9 : y = lb * (ht * y - x * hb) + hb * (x * lb - ltt * y) := by
        have q1 : y * (ht * lb - ltt * hb) = y := by rw [w6, Int.mul_one]
        rw [Int.mul_sub] at q1
        rw [Int.mul_sub, Int.mul_sub]
        have q2 : lb * (ht * y) = y * (ht * lb) := by ac_rfl
        have q3 : hb * (ltt * y) = y * (ltt * hb) := by ac_rfl
        have q4 : lb * (x * hb) = hb * (x * lb) := by ac_rfl
        omega
      have hone : x * lb - ltt * y = 1 := by
        rcases Int.lt_or_le 1 (x * lb - ltt * y) with z | z
        · exfalso
          have q1 : hb * 2 ≤ hb * (x * lb - ltt * y) := Int.mul_le_mul_of_nonneg_left (by omega) (by omega)
          have q2 : lb * 1 ≤ lb * (ht * y - x * hb) := Int.mul_le_mul_of_nonneg_left (by omega) (by omega)
          omega
        · omega
      rw [e, Int.mul_add] at hone
      have q5 : x * lb = (ltt + ht) * lb := by rw [Int.add_mul]; omega
      exact Int.eq_of_mul_eq_mul_right (by omega) q5
  refine ⟨fun e1 => ⟨fun e2 => same ?_, fun e2 => main (fun h => e2 h.2)⟩, fun e1 => main (fun h => e1 h.1)⟩
  rw [hd1, hd2, hd3, hd4, e1, e2]; ac_rfl

/-! the tape; lived() -/
def f_cx (v s : Int) : Int := Int32.toInt ((Int32.ofInt (Int32.toInt (Int32.ofInt (Int32.toInt ((Int32.ofInt v).toUInt32 >>> ((Int32.ofInt s).toUInt32 &&& Int32.toUInt32 31)).toInt32) &&& Int32.ofInt 255))).toUInt32 % 65536).toInt32
def f_cm (v s : Int) : Int := Int.bmod (Int32.toInt (Int32.ofInt v >>> (Int32.ofInt s &&& 31))) 256
theorem f_cx_eq {v s : Int} {k : Nat} (hs : (((Int32.ofInt s).toUInt32 &&& Int32.toUInt32 31).toBitVec % 32).toNat = k) : f_cx v s = (v % 4294967296 / 2 ^ k) % 256 := by
  unfold f_cx
  rw [Int32.ofInt_toInt, Int32.ofInt_toInt, show Int32.ofInt 255 = (255 : Int32) from by decide, sc_c2, pk_and _ (m := 255) 8 (by decide), pk_ushr _ _ k hs, nI_toInt (by omega), Int32.toBitVec_ofInt, BitVec.toNat_ofInt]
  rw [Int.natCast_emod, Int.natCast_ediv, Int.toNat_of_nonneg (Int.emod_nonneg _ (by decide))]
  simp
theorem f_cm_eq {v s : Int} {k : Nat} (hv : -2147483648 ≤ v ∧ v ≤ 2147483647) (hs : ((Int32.ofInt s &&& 31).toBitVec.smod 32).toNat = k) : f_cm v s = Int.bmod (v / 2 ^ k) 256 := by
  unfold f_cm
  rw [pk_shr _ _ k hs, z_i hv, Int.shiftRight_eq_div_pow]
  simp
theorem f_byte {v s : Int} (hv : -2147483648 ≤ v ∧ v ≤ 2147483647) (hs : s = 24 ∨ s = 16 ∨ s = 8 ∨ s = 0) : f_cx v s = f_cm v s % 256 ∧ -128 ≤ f_cm v s ∧ f_cm v s ≤ 127 ∧ 0 ≤ f_cx v s ∧ f_cx v s ≤ 255 := by
  have fin : ∀ k : Nat, f_cx v s = (v % 4294967296 / 2 ^ k) % 256 → f_cm v s = Int.bmod (v / 2 ^ k) 256 → (v % 4294967296 / 2 ^ k) % 256 = (v / 2 ^ k) % 256 → f_cx v s = f_cm v s % 256 ∧ -128 ≤ f_cm v s ∧ f_cm v s ≤ 127 ∧ 0 ≤ f_cx v s ∧ f_cx v s ≤ 255 := by
    intro k e1 e2 e3
    have b1 := Int.le_bmod (x := v / 2 ^ k) (m := 256) (by decide)
    have b2 := Int.bmod_lt (x := v / 2 ^ k) (m := 256) (by decide)
    have b3 := Int.bmod_emod (x := v / 2 ^ k) (m := 256)
    rw [e1, e2, e3]
    refine ⟨b3.symm, by omega, by omega, by omega, by omega⟩
  rcases hs with rfl | rfl | rfl | rfl
  · exact fin 24 (f_cx_eq (by decide)) (f_cm_eq hv (by decide)) (by omega)
  · exact fin 16 (f_cx_eq (by decide)) (f_cm_eq hv (by decide)) (by omega)
  · exact fin 8 (f_cx_eq (by decide)) (f_cm_eq hv (by decide)) (by omega)
  · exact fin 0 (f_cx_eq (by decide)) (f_cm_eq hv (by decide)) (by omega)
/-- four bytes behind those on the tape -/
def f_tx (g : z_G) (v : Int) : z_G := fun c i => if c = 11 ∧ g 10 1 ≤ i ∧ i < g 10 1 + 4 then f_cx v (24 - 8 * (i - g 10 1)) else if c = 10 ∧ i = 1 then g 10 1 + 4 else g c i
def f_tm (g : z_G) (v : Int) : z_G := fun c i => if c = 5 ∧ g 0 9 ≤ i ∧ i < g 0 9 + 4 then f_cm v (24 - 8 * (i - g 0 9)) else if c = 0 ∧ i = 9 then g 0 9 + 4 else g c i
theorem s_Ta_takeInt {X : z_X} {N : Nat} {σ g : z_G} {Q : z_P} (hx : z_lay X N σ 0 z_SF z_RF) {v : Int} (hv : -2147483648 ≤ v ∧ v ≤ 2147483647) (ht : 0 ≤ g 10 1 ∧ g 10 1 ≤ 896) (hq : Q 0 (f_tx g v)) : z_O X 1 m_Ta_takeInt [(2, 10), (0, v)] N σ g Q := by
  refine b_Ta_takeInt_0 hx ?_
  have key : ∀ (n : Nat) (j : Int) (g' : z_G), (4 - j).toNat ≤ n → 0 ≤ j → j ≤ 4 → (g' = fun c i => if c = 11 ∧ g 10 1 ≤ i ∧ i < g 10 1 + j then f_cx v (24 - 8 * (i - g 10 1)) else if c = 10 ∧ i = 1 then g 10 1 + j else g c i) → L_Ta_takeInt_3 X N σ v (24 - 8 * j) g' Q := by
    intro n
    induction n with
    | zero =>
      intro j g' hn j0 j1 e
      refine b_Ta_takeInt_3 hx ⟨fun _ => ?_, fun q => absurd (by omega) q⟩
      rw [e, show j = 4 by omega]; exact hq
    | succ n ih =>
      intro j g' hn j0 j1 e
      refine b_Ta_takeInt_3 hx ⟨fun _ => ?_, fun q => ?_⟩
      · rw [e, show j = 4 by omega]; exact hq
      · have e1 : g' 10 1 = g 10 1 + j := by rw [e]; simp
        obtain ⟨-, -, -, b1, b2⟩ := f_byte (s := 24 - 8 * j) hv (by omega)
        refine ⟨fun c => absurd c (by omega), fun _ => ⟨fun c => absurd c (by omega), fun _ => ⟨by omega, ⟨b1, by unfold f_cx at b2; omega⟩, by omega, by omega, ?_⟩⟩⟩
        rw [show 24 - 8 * j + -8 = 24 - 8 * (j + 1) by omega]
        refine ih (j + 1) _ (by omega) (by omega) (by omega) ?_
        funext c i
        rw [e1]
        unfold z_up
        rw [e]
        dsimp only
        by_cases c1 : c = 10 ∧ i = 1
        · rw [if_pos c1, if_neg (by omega), if_pos c1]; omega
        · rw [if_neg c1]
          by_cases c2 : c = 11 ∧ i = g 10 1 + j
          · rw [if_pos c2, if_pos (by omega), c2.2]
            show f_cx v (24 - 8 * j) = _
            congr 1; omega
          · rw [if_neg c2]
            by_cases c3 : c = 11 ∧ g 10 1 ≤ i ∧ i < g 10 1 + j
            · rw [if_pos c3, if_pos (by omega)]
            · rw [if_neg c3, if_neg c1, if_neg (by omega), if_neg c1]
  refine key 4 0 g (by omega) (by omega) (by omega) ?_
  funext c i
  rw [if_neg (by omega)]
  by_cases c1 : c = 10 ∧ i = 1
  · rw [if_pos c1, c1.1, c1.2]; omega
  · rw [if_neg c1]
theorem s_M_four {X : z_X} {N : Nat} {σ g : z_G} {Q : z_P} (hx : z_lay X N σ 0 z_SM z_RM) {v : Int} (hv : -2147483648 ≤ v ∧ v ≤ 2147483647) (ht : 0 ≤ g 0 9 ∧ g 0 9 ≤ 896) (hq : Q 0 (f_tm g v)) : z_O X 1 m_M_four [(2, 0), (0, v)] N σ g Q := by
  refine b_M_four_0 hx ?_
  have key : ∀ (n : Nat) (j : Int) (g' : z_G), (4 - j).toNat ≤ n → 0 ≤ j → j ≤ 4 → (g' = fun c i => if c = 5 ∧ g 0 9 ≤ i ∧ i < g 0 9 + j then f_cm v (24 - 8 * (i - g 0 9)) else if c = 0 ∧ i = 9 then g 0 9 + j else g c i) → L_M_four_3 X N σ v (24 - 8 * j) g' Q := by
    intro n
    induction n with
    | zero =>
      intro j g' hn j0 j1 e
      refine b_M_four_3 hx ⟨fun _ => ?_, fun q => absurd (by omega) q⟩
      rw [e, show j = 4 by omega]; exact hq
    | succ n ih =>
      intro j g' hn j0 j1 e
      refine b_M_four_3 hx ⟨fun _ => ?_, fun q => ?_⟩
      · rw [e, show j = 4 by omega]; exact hq
      · have e1 : g' 0 9 = g 0 9 + j := by rw [e]; simp
        obtain ⟨-, b1, b2, -, -⟩ := f_byte (s := 24 - 8 * j) hv (by omega)
        refine ⟨by omega, ⟨b1, b2⟩, by omega, by omega, ?_⟩
        rw [show 24 - 8 * j + -8 = 24 - 8 * (j + 1) by omega]
        refine ih (j + 1) _ (by omega) (by omega) (by omega) ?_
        funext c i
        rw [e1]
        unfold z_up
        rw [e]
        dsimp only
        by_cases c1 : c = 0 ∧ i = 9
        · rw [if_pos c1, if_neg (by omega), if_pos c1]; omega
        · rw [if_neg c1]
          by_cases c2 : c = 5 ∧ i = g 0 9 + j
          · rw [if_pos c2, if_pos (by omega), c2.2]
            show f_cm v (24 - 8 * j) = _
            congr 1; omega
          · rw [if_neg c2]
            by_cases c3 : c = 5 ∧ g 0 9 ≤ i ∧ i < g 0 9 + j
            · rw [if_pos c3, if_pos (by omega)]
            · rw [if_neg c3, if_neg c1, if_neg (by omega), if_neg c1]
  refine key 4 0 g (by omega) (by omega) (by omega) ?_
  funext c i
  rw [if_neg (by omega)]
  by_cases c1 : c = 0 ∧ i = 9
  · rw [if_pos c1, c1.1, c1.2]; omega
  · rw [if_neg c1]
/-- what feeding leaves -/
def f_R (gx gm gx' gm' : z_G) : Prop := iF gx' gm' ∧ (∀ c i, ¬ (c = 11) → ¬ (c = 10 ∧ i = 1) → gx' c i = gx c i) ∧ ∀ c i, ¬ (c = 5) → ¬ (c = 0 ∧ i = 9) → gm' c i = gm c i
theorem f_R_step {gx gm gx' gm' : z_G} (h : f_R gx gm gx' gm') {v : Int} (hv : -2147483648 ≤ v ∧ v ≤ 2147483647) (hl : gm' 0 9 ≤ 896) : f_R gx gm (f_tx gx' v) (f_tm gm' v) ∧ f_tm gm' v 0 9 = gm' 0 9 + 4 ∧ f_tx gx' v 10 1 = gm' 0 9 + 4 := by
  obtain ⟨⟨h1, h2, h3, h4⟩, h5, h6⟩ := h
  have e1 : f_tx gx' v 10 1 = gx' 10 1 + 4 := by unfold f_tx; simp
  have e2 : f_tm gm' v 0 9 = gm' 0 9 + 4 := by unfold f_tm; simp
  refine ⟨⟨⟨by rw [e1, e2, h1], by omega, by omega, fun i i0 i1 => ?_⟩, fun c i c1 c2 => ?_, fun c i c1 c2 => ?_⟩, e2, by rw [e1, h1]⟩
  · unfold f_tx f_tm
    rw [h1]
    by_cases q : gm' 0 9 ≤ i
    · rw [if_pos ⟨rfl, q, by omega⟩, if_pos ⟨rfl, q, by omega⟩]
      obtain ⟨b0, b1, b2, -⟩ := f_byte (s := 24 - 8 * (i - gm' 0 9)) hv (by omega)
      exact ⟨b0, b1, b2⟩
    · rw [if_neg (by omega), if_neg (by omega), if_neg (by omega), if_neg (by omega)]
      exact h4 i i0 (by omega)
  · unfold f_tx; rw [if_neg (by omega), if_neg (by omega)]; exact h5 c i c1 c2
  · unfold f_tm; rw [if_neg (by omega), if_neg (by omega)]; exact h6 c i c1 c2
theorem f_R_inv {gx gm gx' gm' : z_G} (I : Inv gx gm) (h : f_R gx gm gx' gm') : Inv gx' gm' := by
  obtain ⟨h1, h2, h3, ⟨j1, j2, j3, j4, j5, j6, j7, j8⟩, h5⟩ := I
  obtain ⟨k1, k2, k3⟩ := h
  refine ⟨?_, ?_, ?_, ⟨fun t t0 t1 => ?_, k1, ?_, ?_, ?_, fun j hj => ?_, ?_, fun d hd => ?_⟩, ?_⟩
  · rw [k2 _ _ (by omega) (by omega), k3 _ _ (by omega) (by omega)]; exact h1
  · rw [k2 _ _ (by omega) (by omega), k3 _ _ (by omega) (by omega)]; exact h2
  · rw [k2 _ _ (by omega) (by omega), k3 _ _ (by omega) (by omega)]; exact h3
  · rw [k2 _ _ (by omega) (by omega), k2 _ _ (by omega) (by omega), k3 _ _ (by omega) (by omega), k3 _ _ (by omega) (by omega)]
    obtain ⟨q1, q2, q3, q4, q5, q6, q7⟩ := j1 t t0 t1
    refine ⟨q1, q2, q3, q4, q5, q6, fun i i0 i1 => ?_⟩
    rw [k2 _ _ (by omega) (by omega), k3 _ _ (by omega) (by omega)]; exact q7 i i0 i1
  · rw [k2 _ _ (by omega) (by omega), k2 _ _ (by omega) (by omega), k3 _ _ (by omega) (by omega), k3 _ _ (by omega) (by omega)]; exact j3
  · unfold iL at j4 ⊢
    simp only [k2 0 17 (by omega) (by omega), k2 94 1 (by omega) (by omega), k2 94 2 (by omega) (by omega), k2 94 3 (by omega) (by omega), k2 94 4 (by omega) (by omega), k2 94 5 (by omega) (by omega), k3 0 40 (by omega) (by omega), k3 17 0 (by omega) (by omega), k3 17 1 (by omega) (by omega), k3 17 2 (by omega) (by omega), k3 17 3 (by omega) (by omega), k3 17 4 (by omega) (by omega)]; exact j4
  · rw [k2 _ _ (by omega) (by omega), k3 _ _ (by omega) (by omega)]; exact j5
  · rw [k3 _ _ (by omega) (by omega)] at hj
    exact (j6 j hj).congr (fun a i ha => k2 _ _ (by omega) (by omega)) (fun i i0 i1 => k3 _ _ (by omega) (by omega))
  · exact j7.congr (fun a i ha => k2 _ _ (by omega) (by omega)) (fun i i0 i1 => k3 _ _ (by omega) (by omega))
  · rw [k2 _ _ (by omega) (by omega), k2 _ _ (by omega) (by omega)]; exact j8 d hd
  · exact h5.congr (fun i => k3 _ _ (by omega) (by omega)) (fun i => k3 _ _ (by omega) (by omega)) (k3 _ _ (by omega) (by omega)) (k3 _ _ (by omega) (by omega))
theorem o_feed {X Y : z_X} {N K : Nat} {σ τ gx gm : z_G} (hx : z_lay X N σ 0 z_SF z_RF) (hm : z_lay Y K τ 0 z_SM z_RM) (I : Inv gx gm) {a1 a2 a3 a4 a5 : Int} (r1 : -2147483648 ≤ a1 ∧ a1 ≤ 2147483647) (r2 : -2147483648 ≤ a2 ∧ a2 ≤ 2147483647) (r3 : -2147483648 ≤ a3 ∧ a3 ≤ 2147483647) (r4 : -2147483648 ≤ a4 ∧ a4 ≤ 2147483647) (r5 : -2147483648 ≤ a5 ∧ a5 ≤ 2147483647) : z_O X 2 m_F_feed [(2, 0), (0, a1), (0, a2), (0, a3), (0, a4), (0, a5)] N σ gx (fun r gx' => z_O Y 2 m_M_feed [(2, 0), (0, a1), (0, a2), (0, a3), (0, a4), (0, a5)] K τ gm (fun r' gm' => r' = r ∧ Inv gx' gm')) := by
  have hF := I.2.2.2.1.2.1
  obtain ⟨f1, f2, f3, f4⟩ := hF
  refine b_F_feed_0 hx ⟨by omega, fun c => ?_, fun c => ?_⟩
  · have R0 : f_R gx gm gx gm := ⟨⟨f1, f2, f3, f4⟩, fun _ _ _ _ => rfl, fun _ _ _ _ => rfl⟩
    obtain ⟨R1, e1, x1⟩ := f_R_step R0 r1 (by omega)
    obtain ⟨R2, e2, x2⟩ := f_R_step R1 r2 (by omega)
    obtain ⟨R3, e3, x3⟩ := f_R_step R2 r3 (by omega)
    obtain ⟨R4, e4, x4⟩ := f_R_step R3 r4 (by omega)
    obtain ⟨R5, e5, x5⟩ := f_R_step R4 r5 (by omega)
    refine s_Ta_takeInt hx r1 (by omega) ?_
    refine s_Ta_takeInt hx r2 (by omega) ?_
    refine s_Ta_takeInt hx r3 (by omega) ?_
    refine s_Ta_takeInt hx r4 (by omega) ?_
    refine s_Ta_takeInt hx r5 (by omega) ?_
    refine b_M_feed_0 hm ⟨by omega, fun _ => ?_, fun q => absurd (by omega) q⟩
    refine s_M_four hm r1 (by omega) ?_
    refine s_M_four hm r2 (by omega) ?_
    refine s_M_four hm r3 (by omega) ?_
    refine s_M_four hm r4 (by omega) ?_
    refine s_M_four hm r5 (by omega) ?_
    exact ⟨by omega, f_R_inv I R5⟩
  · exact b_M_feed_0 hm ⟨by omega, fun q => absurd q (by omega), fun _ => ⟨rfl, I⟩⟩
theorem o_lived {X Y : z_X} {N K : Nat} {σ τ gx gm : z_G} (hx : z_lay X N σ 0 z_SF z_RF) (hm : z_lay Y K τ 0 z_SM z_RM) (I : Inv gx gm) {a1 : Int} (r1 : -2147483648 ≤ a1 ∧ a1 ≤ 2147483647) : z_O X 2 m_F_lived [(2, 0), (0, a1)] N σ gx (fun r gx' => z_O Y 2 m_M_lived [(2, 0), (0, a1)] K τ gm (fun r' gm' => r' = r ∧ Inv gx' gm')) := by
  have hl := I.2.2.2.1.2.2.2.1
  unfold iL at hl
  refine b_F_lived_0 hx ?_
  have bad : ¬ (0 ≤ a1 ∧ a1 ≤ 4) → z_O Y 2 m_M_lived [(2, 0), (0, a1)] K τ gm (fun r' gm' => r' = -1 ∧ Inv (z_up gx 0 0 1) gm') := by
    intro hb
    refine b_M_lived_0 hm ?_
    repeat' (first | refine And.intro (by omega) ?_ | refine And.intro (fun _ => ?_) (fun q => absurd (by omega) q) | refine And.intro (fun q => absurd q (by omega)) (fun _ => ?_) | refine And.intro (fun _ => ?_) (fun _ => ?_) | refine And.intro (fun q => absurd q (by omega)) ?_ | refine And.intro (fun _ => ?_) ?_ | with_reducible intro _)
    all_goals first | exact I.fin xA.rf yA.rf I.2.2.2.2 1 | (exfalso; omega)
  refine ⟨fun _ => bad (by omega), fun _ => ⟨fun _ => ⟨fun c => ?_, fun c => ?_⟩, fun _ => bad (by omega)⟩⟩
  · refine b_M_lived_0 hm ?_
    repeat' (first | refine And.intro (by omega) ?_ | refine And.intro (fun _ => ?_) (fun q => absurd (by omega) q) | refine And.intro (fun q => absurd q (by omega)) (fun _ => ?_) | refine And.intro (fun _ => ?_) (fun _ => ?_) | refine And.intro (fun q => absurd q (by omega)) ?_ | refine And.intro (fun _ => ?_) ?_ | with_reducible intro _)
    exact I.fin xA.rf yA.rf I.2.2.2.2 6
  · have fin : ∀ v : Int, gm 17 a1 = v → z_O Y 2 m_M_lived [(2, 0), (0, a1)] K τ gm (fun r' gm' => r' = v ∧ Inv (z_up gx 0 0 0) gm') := by
      intro v hv
      refine b_M_lived_0 hm ?_
      repeat' (first | refine And.intro (by omega) ?_ | refine And.intro (fun _ => ?_) (fun q => absurd (by omega) q) | refine And.intro (fun q => absurd q (by omega)) (fun _ => ?_) | refine And.intro (fun _ => ?_) (fun _ => ?_) | refine And.intro (fun q => absurd q (by omega)) ?_ | refine And.intro (fun _ => ?_) ?_ | with_reducible intro _)
      exact I.fin xA.rf yA.rf I.2.2.2.2 0
    refine ⟨fun e => ?_, fun e => ?_, fun e => ?_, fun e => ?_, fun e => ⟨fun e2 => ?_, fun e2 => ?_⟩⟩
    · subst e; exact fin _ (by omega)
    · subst e; exact fin _ (by omega)
    · subst e; exact fin _ (by omega)
    · subst e; exact fin _ (by omega)
    · have e : a1 = 4 := by omega
      subst e; exact fin _ (by omega)
    · have e : a1 = 4 := by omega
      subst e; exact fin _ (by omega)

/-! ## size, told, rule, coprimes, part -/
theorem rW.c {g : z_G} {o : Nat} (h : rW g o) (ho : 1 ≤ o ∧ o ≤ 200) : mC g := Or.inr ⟨by rw [h.1]; omega, by rw [h.1]; omega, h.ok⟩
/-- the reference has laid the row -/
def mL (g g' : z_G) : Prop := ∀ c i, c ≠ 8 → c ≠ 9 → ¬ (c = 0 ∧ (i = 24 ∨ i = 25)) → g' c i = g c i
theorem mL.y {g g' : z_G} (h : mL g g') : yA g g' := fun c i hk => h c i (by unfold yK at hk; omega) (by unfold yK at hk; omega) (by unfold yK at hk; omega)
theorem Inv_xR {gx gm : z_G} (I : Inv gx gm) : xR gx := I.2.2.2.1.2.2.2.2.2.2.2
theorem Inv_o {gx gm : z_G} (I : Inv gx gm) : ∃ o : Nat, 1 ≤ o ∧ o ≤ 200 ∧ gm 1 1 = o ∧ gx 23 0 = o := by
  have hO := I.2.2.2.1.2.2.2.2.2.2.1.1
  have o1 : gx 23 0 = gm 1 1 := hO.1
  have o2 : 1 ≤ gm 1 1 := hO.2.1
  have o3 : gm 1 1 ≤ 200 := hO.2.2.1
  exact ⟨(gm 1 1).toNat, by omega, by omega, by omega, by omega⟩
theorem o_size {X Y : z_X} {N K : Nat} {σ τ gx gm : z_G} (hx : z_lay X N σ 0 z_SF z_RF) (hm : z_lay Y K τ 0 z_SM z_RM) (I : Inv gx gm) {a1 : Int} (r1 : -2147483648 ≤ a1 ∧ a1 ≤ 2147483647) : z_O X 3 m_F_size [(2, 0), (0, a1)] N σ gx (fun r gx' => z_O Y 3 m_M_size [(2, 0), (0, a1)] K τ gm (fun r' gm' => r' = r ∧ Inv gx' gm')) := by
  have F : (-1 : Int) = -1 ∧ Inv (z_up gx 0 0 1) (z_up gm 0 1 1) := ⟨rfl, I.fin xA.rf yA.rf I.2.2.2.2 1⟩
  refine b_F_size_0 hx ⟨fun _ => b_M_size_0 hm ⟨fun _ => F, fun _ => ⟨fun _ => F, fun p => by exfalso; omega⟩⟩, fun _ => ⟨fun _ => ?_, fun _ => b_M_size_0 hm ⟨fun _ => F, fun _ => ⟨fun _ => F, fun p => by exfalso; omega⟩⟩⟩⟩
  obtain ⟨o, rfl⟩ : ∃ o : Nat, a1 = o := ⟨a1.toNat, by omega⟩
  exact s_Rw_valuesOf hx (Inv_xR I) (by omega) (b_M_size_0 hm ⟨fun p => absurd p (by omega), fun _ => ⟨fun p => absurd p (by omega), fun _ => s_M_lays hm (by omega) I.2.2.2.2 fun gm' (hf : mL gm gm') hw => ⟨hw.2.1, I.fin xA.rf hf.y (hw.c (by omega)) 0⟩⟩⟩)
theorem o_told {X Y : z_X} {N K : Nat} {σ τ gx gm : z_G} (hx : z_lay X N σ 0 z_SF z_RF) (hm : z_lay Y K τ 0 z_SM z_RM) (I : Inv gx gm) {a1 : Int} (r1 : -2147483648 ≤ a1 ∧ a1 ≤ 2147483647) : z_O X 4 m_F_told [(2, 0), (0, a1)] N σ gx (fun r gx' => z_O Y 4 m_M_told [(2, 0), (0, a1)] K τ gm (fun r' gm' => r' = r ∧ Inv gx' gm')) := by
  obtain ⟨o, o1, o2, o3, o4⟩ := Inv_o I
  have hB := I.2.2.2.1.2.2.2.2.2.2.1
  have F := I.fin xA.rf yA.rf I.2.2.2.2 0
  have e1 : gx 23 1 = gm 1 0 := hB.1.2.2.2.1
  have e2 : gx 25 3 = gm 1 4 := hB.2.2.1.1
  have e5 : gx 29 1 = gm 1 5 := hB.2.2.2.1.1
  obtain ⟨w0, w1, w2, w3, w4⟩ := I.bW
  have hl := n_sp_lt w0
  have w4' : gx 24 4 = n_D (gm 1 2) (gm 1 3) := w4
  have n4 := I.pI.2.2.1
  have n5 := I.pI.2.1
  have M : ∀ {Q : z_P}, ((a1 = 0) → Q (gm 1 1) (z_up gm 0 1 0)) → ((a1 = 1) → Q (gm 1 0) (z_up gm 0 1 0)) → ((a1 = 2) → Q (gm 1 4) (z_up gm 0 1 0)) → ((a1 = 3) → z_O Y 3 m_M_weightTo [(2, 0), (0, 1), (0, 1)] K τ gm (fun r0 g0 => Q r0 (z_up g0 0 1 0))) → ((a1 = 4) → z_O Y 2 m_M_lays [(2, 0), (0, gm 1 1)] K τ gm (fun r1 g1 => Q (g1 0 24) (z_up g1 0 1 0))) → ((a1 = 5) → Q (gm 1 5) (z_up gm 0 1 0)) → ((a1 = 6) → z_O Y 2 m_M_depthOf [(2, 0), (0, gm 1 2), (0, gm 1 3)] K τ gm (fun r2 g2 => Q r2 (z_up g2 0 1 0))) → ((¬ (a1 = 0) ∧ ¬ (a1 = 1) ∧ ¬ (a1 = 2) ∧ ¬ (a1 = 3) ∧ ¬ (a1 = 4) ∧ ¬ (a1 = 5) ∧ ¬ (a1 = 6)) → Q (-1) (z_up gm 0 1 1)) → z_O Y 4 m_M_told [(2, 0), (0, a1)] K τ gm Q := fun h0 h1 h2 h3 h4 h5 h6 h7 => b_M_told_0 hm ⟨h0, h1, h2, h3, h4, h5, h6, h7⟩
  refine b_F_told_0 hx ⟨fun e => ?_, fun e => ?_, fun e => ?_, fun e => ?_, fun e => ?_, fun e => ?_, fun e => ?_, fun e => ?_⟩
  · exact M (fun _ => ⟨by omega, F⟩) (fun p => by exfalso; omega) (fun p => by exfalso; omega) (fun p => by exfalso; omega) (fun p => by exfalso; omega) (fun p => by exfalso; omega) (fun p => by exfalso; omega) (fun p => by exfalso; omega)
  · exact M (fun p => by exfalso; omega) (fun _ => ⟨by omega, F⟩) (fun p => by exfalso; omega) (fun p => by exfalso; omega) (fun p => by exfalso; omega) (fun p => by exfalso; omega) (fun p => by exfalso; omega) (fun p => by exfalso; omega)
  · exact M (fun p => by exfalso; omega) (fun p => by exfalso; omega) (fun _ => ⟨by omega, F⟩) (fun p => by exfalso; omega) (fun p => by exfalso; omega) (fun p => by exfalso; omega) (fun p => by exfalso; omega) (fun p => by exfalso; omega)
  · refine b_Pi_weightOfAll_0 (o := 25) (ky_F_25 hx) (s_F_weightUpTo hx I.pI (fun _ _ _ _ => rfl) (by omega) (by omega) ?_)
    exact M (fun p => by exfalso; omega) (fun p => by exfalso; omega) (fun p => by exfalso; omega) (fun _ => s_M_weightTo hm I.pI (by omega) (by omega) ⟨rfl, F⟩) (fun p => by exfalso; omega) (fun p => by exfalso; omega) (fun p => by exfalso; omega) (fun p => by exfalso; omega)
  · rw [o4]
    refine s_Rw_valuesOf hx (Inv_xR I) (by omega) ?_
    refine M (fun p => by exfalso; omega) (fun p => by exfalso; omega) (fun p => by exfalso; omega) (fun p => by exfalso; omega) (fun _ => ?_) (fun p => by exfalso; omega) (fun p => by exfalso; omega) (fun p => by exfalso; omega)
    rw [o3]
    exact s_M_lays hm (by omega) I.2.2.2.2 fun gm' (hf : mL gm gm') hw => ⟨hw.2.1, I.fin xA.rf hf.y (hw.c (by omega)) 0⟩
  · exact M (fun p => by exfalso; omega) (fun p => by exfalso; omega) (fun p => by exfalso; omega) (fun p => by exfalso; omega) (fun p => by exfalso; omega) (fun _ => ⟨by omega, F⟩) (fun p => by exfalso; omega) (fun p => by exfalso; omega)
  · refine M (fun p => by exfalso; omega) (fun p => by exfalso; omega) (fun p => by exfalso; omega) (fun p => by exfalso; omega) (fun p => by exfalso; omega) (fun p => by exfalso; omega) (fun _ => ?_) (fun p => by exfalso; omega)
    exact s_M_depthOf hm (by omega) (by omega) (by omega) fun g3 hs h3 => ⟨w4'.symm, I.fin xA.rf hs.y (hs.c I.2.2.2.2) 0⟩
  · exact M (fun p => by exfalso; omega) (fun p => by exfalso; omega) (fun p => by exfalso; omega) (fun p => by exfalso; omega) (fun p => by exfalso; omega) (fun p => by exfalso; omega) (fun p => by exfalso; omega) (fun _ => ⟨rfl, I.fin xA.rf yA.rf I.2.2.2.2 1⟩)
theorem Inv_rule {gx gm gx' gm' : z_G} (I : Inv gx gm) {o d : Int} (ho : 1 ≤ o ∧ o ≤ 200) (hd : 0 ≤ d ∧ d ≤ 16) (x0 : gx' 23 0 = o) (x1 : gx' 23 1 = d) (y0 : gm' 1 1 = o) (y1 : gm' 1 0 = d) (hx : ∀ c i, xK c i → c ≠ 23 → gx' c i = gx c i) (hm : ∀ c i, yK c i → ¬ (c = 1 ∧ 0 ≤ i ∧ i ≤ 1) → gm' c i = gm c i) (hc : mC gm') (s : Int) : Inv (z_up gx' 0 0 s) (z_up gm' 0 1 s) := by
  obtain ⟨hO, hW, hP, hV, hG⟩ := I.2.2.2.1.2.2.2.2.2.2.1
  refine I.board (fun c i hk hn => hx c i hk (by omega)) (fun c i hk hn => hm c i hk (by omega)) hc ⟨?_, ?_, ?_, ?_, ?_⟩ s
  · refine ⟨?_, ?_, ?_, ?_, ?_, ?_⟩
    · show gx' 23 0 = gm' 1 1; omega
    · show 1 ≤ gm' 1 1; omega
    · show gm' 1 1 ≤ 200; omega
    · show gx' 23 1 = gm' 1 0; omega
    · show 0 ≤ gm' 1 0; omega
    · show gm' 1 0 ≤ 16; omega
  · exact hW.c (fun i => hx _ _ (by unfold xK; omega) (by omega)) (fun i i1 i2 => hm _ _ (by unfold yK; omega) (by omega))
  · exact hP.c (fun j i j1 j2 => hx _ _ (by unfold xK; omega) (by omega)) (fun i i1 => hm _ _ (by unfold yK; omega) (by omega))
  · exact hV.c (fun j i j1 j2 => hx _ _ (by unfold xK; omega) (by omega)) (fun i i1 => hm _ _ (by unfold yK; omega) (by omega))
  · exact hG.c (fun j i j1 j2 => hx _ _ (by unfold xK; omega) (by omega)) (fun i i1 => hm _ _ (by unfold yK; omega) (by omega))
theorem o_rule {X Y : z_X} {N K : Nat} {σ τ gx gm : z_G} (hx : z_lay X N σ 0 z_SF z_RF) (hm : z_lay Y K τ 0 z_SM z_RM) (I : Inv gx gm) {a1 a2 : Int} (r1 : -2147483648 ≤ a1 ∧ a1 ≤ 2147483647) (r2 : -2147483648 ≤ a2 ∧ a2 ≤ 2147483647) : z_O X 3 m_F_rule [(2, 0), (0, a1), (0, a2)] N σ gx (fun r gx' => z_O Y 4 m_M_rule [(2, 0), (0, a1), (0, a2)] K τ gm (fun r' gm' => r' = r ∧ Inv gx' gm')) := by
  obtain ⟨o, o1, o2, o3, o4⟩ := Inv_o I
  have hO := I.2.2.2.1.2.2.2.2.2.2.1.1
  have d1 : gx 23 1 = gm 1 0 := hO.2.2.2.1
  have d2 : 0 ≤ gm 1 0 ∧ gm 1 0 ≤ 16 := hO.2.2.2.2
  have xr : ∀ i v, xR (z_up gx 23 i v) := fun i v d hd => by
    have := Inv_xR I d hd
    rw [z_u2 (by omega), z_u2 (by omega)]; exact this
  have F1 : (-1 : Int) = -1 ∧ Inv (z_up gx 0 0 1) (z_up gm 0 1 1) := ⟨rfl, I.fin xA.rf yA.rf I.2.2.2.2 1⟩
  have F7 : (-1 : Int) = -1 ∧ Inv (z_up gx 0 0 7) (z_up gm 0 1 7) := ⟨rfl, I.fin xA.rf yA.rf I.2.2.2.2 7⟩
  have bad : ¬ (a1 = 0 ∧ 1 ≤ a2 ∧ a2 ≤ 200) → ¬ (a1 = 1 ∧ 0 ≤ a2 ∧ a2 ≤ 16) → z_O Y 4 m_M_rule [(2, 0), (0, a1), (0, a2)] K τ gm (fun r' gm' => r' = -1 ∧ Inv (z_up gx 0 0 1) gm') := by
    intro h1 h2
    refine b_M_rule_0 hm ⟨fun e => ⟨fun _ => F1, fun _ => ⟨fun _ => F1, fun p => by exfalso; omega⟩⟩, fun e => ⟨fun e2 => ⟨fun _ => F1, fun _ => ⟨fun _ => F1, fun p => by exfalso; omega⟩⟩, fun _ => F1⟩⟩
  have bo : a1 = 0 ∧ 1 ≤ a2 ∧ a2 ≤ 200 → gm 1 1 = a2 → z_O Y 4 m_M_rule [(2, 0), (0, a1), (0, a2)] K τ gm (fun r' gm' => r' = -1 ∧ Inv (z_up gx 0 0 7) gm') := fun h e => b_M_rule_0 hm ⟨fun _ => ⟨fun p => by exfalso; omega, fun _ => ⟨fun p => by exfalso; omega, fun _ => ⟨fun _ => F7, fun p => absurd e p⟩⟩⟩, fun p => absurd h.1 p⟩
  have bd : a1 = 1 ∧ 0 ≤ a2 ∧ a2 ≤ 16 → gm 1 0 = a2 → z_O Y 4 m_M_rule [(2, 0), (0, a1), (0, a2)] K τ gm (fun r' gm' => r' = -1 ∧ Inv (z_up gx 0 0 7) gm') := fun h e => b_M_rule_0 hm ⟨fun p => by exfalso; omega, fun _ => ⟨fun _ => ⟨fun p => by exfalso; omega, fun _ => ⟨fun p => by exfalso; omega, fun _ => ⟨fun _ => F7, fun p => absurd e p⟩⟩⟩, fun p => absurd h.1 p⟩⟩
  have go : a1 = 0 ∧ 1 ≤ a2 ∧ a2 ≤ 200 → ¬ gm 1 1 = a2 → z_O X 2 m_Rw_valuesOf [(2, 15), (0, a2)] N σ (z_up gx 23 0 a2) (fun r1 g1 => z_O Y 4 m_M_rule [(2, 0), (0, a1), (0, a2)] K τ gm (fun r' gm' => r' = r1 ∧ Inv (z_up g1 0 0 0) gm')) := by
    intro h e
    obtain ⟨p, rfl⟩ : ∃ p : Nat, a2 = p := ⟨a2.toNat, by omega⟩
    refine s_Rw_valuesOf hx (xr _ _) (by omega) (b_M_rule_0 hm ⟨fun _ => ⟨fun p => by exfalso; omega, fun _ => ⟨fun p => by exfalso; omega, fun _ => ⟨fun p => absurd p e, fun _ => ?_⟩⟩⟩, fun p => absurd h.1 p⟩)
    rw [z_u1]
    refine s_M_lays hm (by omega) (I.2.2.2.2.up (by omega) (by omega) (by omega)) fun gm' (hf : mL _ gm') hw => ⟨hw.2.1, Inv_rule I (o := p) (d := gm 1 0) (by omega) d2 z_u1 (by rw [z_u2 (by omega)]; exact d1) ?_ ?_ (fun c i hk hn => z_u2 (by omega)) (fun c i hk hn => ?_) (hw.c (by omega)) 0⟩
    · rw [hf _ _ (by omega) (by omega) (by omega), z_u1]
    · rw [hf _ _ (by omega) (by omega) (by omega), z_u2 (by omega)]
    · rw [hf.y c i hk, z_u2 (by omega)]
  have gd : a1 = 1 ∧ 0 ≤ a2 ∧ a2 ≤ 16 → ¬ gm 1 0 = a2 → z_O X 2 m_Rw_valuesOf [(2, 15), (0, gx 23 0)] N σ (z_up gx 23 1 a2) (fun r1 g1 => z_O Y 4 m_M_rule [(2, 0), (0, a1), (0, a2)] K τ gm (fun r' gm' => r' = r1 ∧ Inv (z_up g1 0 0 0) gm')) := by
    intro h e
    rw [o4]
    refine s_Rw_valuesOf hx (xr _ _) (by omega) (b_M_rule_0 hm ⟨fun p => by exfalso; omega, fun _ => ⟨fun _ => ⟨fun p => by exfalso; omega, fun _ => ⟨fun p => by exfalso; omega, fun _ => ⟨fun p => absurd p e, fun _ => ?_⟩⟩⟩, fun p => absurd h.1 p⟩⟩)
    rw [z_u2 (by omega), o3]
    refine s_M_lays hm (by omega) (I.2.2.2.2.up (by omega) (by omega) (by omega)) fun gm' (hf : mL _ gm') hw => ⟨hw.2.1, Inv_rule I (o := o) (d := a2) (by omega) (by omega) (by rw [z_u2 (by omega)]; exact o4) z_u1 ?_ ?_ (fun c i hk hn => z_u2 (by omega)) (fun c i hk hn => ?_) (hw.c (by omega)) 0⟩
    · rw [hf _ _ (by omega) (by omega) (by omega), z_u2 (by omega)]; exact o3
    · rw [hf _ _ (by omega) (by omega) (by omega), z_u1]
    · rw [hf.y c i hk, z_u2 (by omega)]
  refine b_F_rule_0 hx ⟨fun c => ⟨fun c2 => ⟨fun c3 => by exfalso; omega, fun c3 => bad (by omega) (by omega)⟩, fun c2 => ⟨fun c3 => ⟨fun c4 => by exfalso; omega, fun _ => bad (by omega) (by omega)⟩, fun c3 => ⟨fun c4 => by exfalso; omega, fun _ => ⟨fun e => bo (by omega) (by omega), fun e => go (by omega) (by omega)⟩⟩⟩⟩, fun c => ⟨fun c2 => ⟨fun c3 => bad (by omega) (by omega), fun c3 => ⟨fun c4 => bad (by omega) (by omega), fun c4 => ⟨fun e => bd (by omega) (by omega), fun e => gd (by omega) (by omega)⟩⟩⟩, fun c2 => bad (by omega) (by omega)⟩⟩
def n_h (x b : Nat) : Int := n_S (fun d => if x % d = 0 then n_Mu d * ((b / d : Nat) : Int) else 0) 200
theorem n_G_s (a b : Nat) : n_G (a + 1) b = n_G a b + n_h (a + 1) b := by
  unfold n_G n_h
  rw [← n_S_add]
  refine n_S_congr 200 (fun d d1 d2 => ?_)
  rw [n_sd d1]
  by_cases c : (a + 1) % d = 0
  · rw [if_pos c, if_pos c, Int.natCast_add, Int.mul_add, Int.add_mul]; simp
  · rw [if_neg c, if_neg c]; simp
theorem n_h_s {x b : Nat} (hx : 1 ≤ x ∧ x ≤ 200) : n_h x (b + 1) = n_h x b + (if Nat.gcd x (b + 1) = 1 then 1 else 0) := by
  have g1 : 1 ≤ Nat.gcd x (b + 1) := Nat.gcd_pos_of_pos_left _ (by omega)
  have g2 : Nat.gcd x (b + 1) ≤ x := Nat.gcd_le_left _ (by omega)
  rw [← n_Mu_1 (Nat.gcd x (b + 1)) (by omega) g1]
  unfold n_h
  rw [← n_S_add]
  refine n_S_congr 200 (fun d d1 d2 => ?_)
  have iff1 : Nat.gcd x (b + 1) % d = 0 ↔ x % d = 0 ∧ (b + 1) % d = 0 := by
    constructor
    · intro h
      have hd := Nat.dvd_of_mod_eq_zero h
      exact ⟨Nat.mod_eq_zero_of_dvd (Nat.dvd_trans hd (Nat.gcd_dvd_left _ _)), Nat.mod_eq_zero_of_dvd (Nat.dvd_trans hd (Nat.gcd_dvd_right _ _))⟩
    · intro h
      exact Nat.mod_eq_zero_of_dvd (Nat.dvd_gcd (Nat.dvd_of_mod_eq_zero h.1) (Nat.dvd_of_mod_eq_zero h.2))
  rw [n_sd d1]
  by_cases c : x % d = 0
  · rw [if_pos c, if_pos c]
    by_cases c2 : (b + 1) % d = 0
    · rw [if_pos c2, if_pos (iff1.mpr ⟨c, c2⟩), Int.natCast_add, Int.mul_add]; simp
    · rw [if_neg c2, if_neg (fun h => c2 (iff1.mp h).2)]; simp
  · rw [if_neg c, if_neg c, if_neg (fun h => c (iff1.mp h).1)]; rfl
theorem n_h_0 (x : Nat) : n_h x 0 = 0 := n_S_zero 200 (fun d d1 d2 => by rw [Nat.zero_div]; split <;> simp)
theorem n_G_0 (b : Nat) : n_G 0 b = 0 := n_S_zero 200 (fun d d1 d2 => by rw [Nat.zero_div]; simp)
theorem n_h_le {x : Nat} (hx : 1 ≤ x ∧ x ≤ 200) : ∀ b : Nat, 0 ≤ n_h x b ∧ n_h x b ≤ b
  | 0 => by rw [n_h_0]; omega
  | b + 1 => by
    have := n_h_le hx b
    rw [n_h_s hx]
    split <;> omega
theorem n_G_le {b : Nat} (hb : b ≤ 200) : ∀ a : Nat, a ≤ 200 → 0 ≤ n_G a b ∧ n_G a b ≤ a * 200
  | 0, _ => by rw [n_G_0]; omega
  | a + 1, ha => by
    have := n_G_le hb a (by omega)
    have h := n_h_le (x := a + 1) (by omega) b
    rw [n_G_s]
    omega
theorem o_coprimes {X Y : z_X} {N K : Nat} {σ τ gx gm : z_G} (hx : z_lay X N σ 0 z_SF z_RF) (hm : z_lay Y K τ 0 z_SM z_RM) (I : Inv gx gm) {a1 a2 : Int} (r1 : -2147483648 ≤ a1 ∧ a1 ≤ 2147483647) (r2 : -2147483648 ≤ a2 ∧ a2 ≤ 2147483647) : z_O X 2 m_F_coprimes [(2, 0), (0, a1), (0, a2)] N σ gx (fun r gx' => z_O Y 2 m_M_coprimes [(2, 0), (0, a1), (0, a2)] K τ gm (fun r' gm' => r' = r ∧ Inv gx' gm')) := by
  have F : (-1 : Int) = -1 ∧ Inv (z_up gx 0 0 1) (z_up gm 0 1 1) := ⟨rfl, I.fin xA.rf yA.rf I.2.2.2.2 1⟩
  have bad : ¬ (0 ≤ a1 ∧ a1 ≤ 200 ∧ 0 ≤ a2 ∧ a2 ≤ 200) → z_O Y 2 m_M_coprimes [(2, 0), (0, a1), (0, a2)] K τ gm (fun r' gm' => r' = -1 ∧ Inv (z_up gx 0 0 1) gm') := fun h => b_M_coprimes_0 hm ⟨fun _ => F, fun _ => ⟨fun _ => F, fun _ => ⟨fun _ => F, fun _ => ⟨fun _ => F, fun p => by exfalso; omega⟩⟩⟩⟩
  refine b_F_coprimes_0 hx ⟨fun _ => bad (by omega), fun _ => ⟨fun _ => bad (by omega), fun _ => ⟨fun _ => bad (by omega), fun _ => ⟨fun _ => ?_, fun _ => bad (by omega)⟩⟩⟩⟩
  obtain ⟨a, rfl⟩ : ∃ a : Nat, a1 = a := ⟨a1.toNat, by omega⟩
  obtain ⟨b, rfl⟩ : ∃ b : Nat, a2 = b := ⟨a2.toNat, by omega⟩
  refine s_Rw_pairs hx (Inv_xR I) (by omega) (by omega) (b_M_coprimes_0 hm ⟨fun p => absurd p (by omega), fun _ => ⟨fun p => absurd p (by omega), fun _ => ⟨fun p => absurd p (by omega), fun _ => ⟨fun p => absurd p (by omega), fun _ => ?_⟩⟩⟩⟩)
  have outer : ∀ (m x : Nat), x + m = a → L_M_coprimes_35 Y K τ a b (n_G x b) ((x : Int) + 1) gm (fun r' gm' => r' = n_G a b ∧ Inv (z_up gx 0 0 0) gm') := by
    intro m
    induction m with
    | zero =>
      intro x h1
      have : x = a := by omega
      subst this
      exact b_M_coprimes_35 hm ⟨fun _ => ⟨rfl, I.fin xA.rf yA.rf I.2.2.2.2 0⟩, fun p => absurd (by omega) p⟩
    | succ m ih =>
      intro x h1
      have i1 := ih (x + 1) (by omega)
      have gl := n_G_le (b := b) (by omega) x (by omega)
      refine b_M_coprimes_35 hm ⟨fun p => absurd p (by omega), fun _ => ?_⟩
      have inner : ∀ (r y : Nat), y + r = b → L_M_coprimes_44 Y K τ a b (n_G x b + n_h (x + 1) y) ((x : Int) + 1) ((y : Int) + 1) gm (fun r' gm' => r' = n_G a b ∧ Inv (z_up gx 0 0 0) gm') := by
        intro r
        induction r with
        | zero =>
          intro y h2
          have : y = b := by omega
          subst this
          rw [← n_G_s]
          exact b_M_coprimes_44 hm ⟨fun _ => ⟨by omega, i1⟩, fun p => absurd (by omega) p⟩
        | succ r ihr =>
          intro y h2
          have i2 := ihr (y + 1) (by omega)
          have hl := n_h_le (x := x + 1) (by omega) y
          refine b_M_coprimes_44 hm ⟨fun p => absurd p (by omega), fun _ => s_M_common (by omega) (by omega) ?_⟩
          rw [n_h_s (by omega)] at i2
          have eg : Int.gcd ((x : Int) + 1) ((y : Int) + 1) = Nat.gcd (x + 1) (y + 1) := rfl
          rw [eg]
          refine ⟨fun e => ⟨by omega, by omega, ?_⟩, fun e => ⟨by omega, by omega, ?_⟩⟩
          · rw [if_pos (by omega), ← Int.add_assoc] at i2; exact i2
          · rw [if_neg (by omega), ← Int.add_assoc] at i2; exact i2
      have := inner b 0 (by omega)
      rw [n_h_0, Int.add_zero] at this
      exact this
  have := outer a 0 (by omega)
  rw [n_G_0] at this
  exact this
theorem o_part {X Y : z_X} {N K : Nat} {σ τ gx gm : z_G} (hx : z_lay X N σ 0 z_SF z_RF) (hm : z_lay Y K τ 0 z_SM z_RM) (I : Inv gx gm) {a1 : Int} (r1 : -2147483648 ≤ a1 ∧ a1 ≤ 2147483647) : z_O X 3 m_F_part [(2, 0), (0, a1)] N σ gx (fun r gx' => z_O Y 4 m_M_part [(2, 0), (0, a1)] K τ gm (fun r' gm' => r' = r ∧ Inv gx' gm')) := by
  obtain ⟨o, o1, o2, o3, o4⟩ := Inv_o I
  have F : (0 : Int) = 0 ∧ Inv (z_up gx 0 0 1) (z_up gm 0 1 1) := ⟨rfl, I.fin xA.rf yA.rf I.2.2.2.2 1⟩
  have bad : ¬ (1 ≤ a1 ∧ a1 ≤ 200) → z_O Y 4 m_M_part [(2, 0), (0, a1)] K τ gm (fun r' gm' => r' = 0 ∧ Inv (z_up gx 0 0 1) gm') := fun h => b_M_part_0 hm ⟨fun _ => F, fun _ => ⟨fun _ => F, fun p => by exfalso; omega⟩⟩
  have vo := (n_CU_11 o (by omega) o1).2
  have mrun : ∀ c : Nat, 1 ≤ c → c ≤ o → (a1 = c ∨ (c = o ∧ (o : Int) < a1)) → 1 ≤ a1 → a1 ≤ 200 → 2 ≤ n_VO o ∧ 1 ≤ n_VO c ∧ z_O Y 4 m_M_part [(2, 0), (0, a1)] K τ gm (fun r' gm' => r' = 1 ∧ Inv (z_up (z_up (z_up gx 0 1 (n_VO c / Int.gcd (n_VO c) (n_VO o))) 0 2 (n_VO o / Int.gcd (n_VO c) (n_VO o))) 0 0 0) gm') := by
    intro c c1 c2 c3 c4 c5
    have vc := n_CU_11 c (by omega) c1
    have gc : 0 ≤ n_G c c := n_G_pos c (by omega)
    have go : 0 ≤ n_G o o := n_G_pos o (by omega)
    have ec : n_VO c = 1 + (n_G c c + 1) / 2 := rfl
    have eo : n_VO o = 1 + (n_G o o + 1) / 2 := rfl
    have hgo : 1 ≤ n_G o o := by
      obtain ⟨p, rfl⟩ : ∃ p, o = p + 1 := ⟨o - 1, by omega⟩
      rw [n_G_s]
      have := n_G_le (b := p + 1) (by omega) p (by omega)
      have h1 := n_h_s (x := p + 1) (b := 0) (by omega)
      rw [n_h_0, if_pos (show Nat.gcd (p + 1) (0 + 1) = 1 from Nat.gcd_one_right _)] at h1
      have mono : ∀ b : Nat, 1 ≤ n_h (p + 1) (b + 1) := fun b => by
        induction b with
        | zero => omega
        | succ b ih =>
          rw [n_h_s (by omega)]
          split <;> omega
      have := mono p
      omega
    refine ⟨by omega, by omega, b_M_part_0 hm ⟨fun p => by exfalso; omega, fun _ => ⟨fun p => by exfalso; omega, fun _ => ?_⟩⟩⟩
    rw [o3]
    refine s_M_lays hm ⟨o1, o2⟩ I.2.2.2.2 fun gm' (hf : mL gm gm') hw => ?_
    obtain ⟨w1, w2, w3, w4, w5, w6, w7⟩ := hw
    have cnt := w5.count (c := c) ⟨c1, c2⟩ o2
    have fin : rC (gm' 9) c ((n_VO o - 1).toNat + 1) = n_VO c := by
      unfold rC
      rw [← cnt (n_VO o - 1).toNat (by omega), show (((n_VO o - 1).toNat : Nat) : Int) = n_VO o - 1 by omega, w6, w7, n_CU_one ⟨c1, by omega⟩, if_pos (by omega)]; omega
    have rl : ∀ x : Nat, 0 ≤ rC (gm' 9) c x ∧ rC (gm' 9) c x ≤ x := fun x => by
      induction x with
      | zero => unfold rC; omega
      | succ x ih => unfold rC; split <;> omega
    have loop : ∀ (m x : Nat), x + m = (n_VO o - 1).toNat + 1 → L_M_part_26 Y K τ a1 (rC (gm' 9) c x) x gm' (fun r' gm'' => r' = 1 ∧ Inv (z_up (z_up (z_up gx 0 1 (n_VO c / Int.gcd (n_VO c) (n_VO o))) 0 2 (n_VO o / Int.gcd (n_VO c) (n_VO o))) 0 0 0) gm'') := by
      intro m
      induction m with
      | zero =>
        intro x h1
        have : x = (n_VO o - 1).toNat + 1 := by omega
        rw [this, fin]
        refine b_M_part_26 hm ?_
        rw [w2]
        exact ⟨fun _ => s_M_tellsBy hm (by omega) (by omega) fun _ => ⟨rfl, I.tell xA.rf hf.y (rW.c ⟨w1, w2, w3, w4, w5, w6, w7⟩ ⟨o1, o2⟩) _ _⟩, fun p => absurd (by omega) p⟩
      | succ m ih =>
        intro x h1
        have i1 := ih (x + 1) (by omega)
        have rx := rl x
        have hb := w5.2.2.2.2.1 x (by omega)
        unfold rC at i1
        refine b_M_part_26 hm ⟨fun p => absurd p (by omega), fun _ => ⟨by omega, fun q => ⟨by omega, by omega, ?_⟩, fun q => ⟨by omega, by omega, ?_⟩⟩⟩
        · rw [if_neg (by omega)] at i1; exact i1
        · rw [if_pos (by omega)] at i1; exact i1
    have := loop ((n_VO o - 1).toNat + 1) 0 (by omega)
    exact this
  refine b_F_part_0 hx ⟨fun _ => bad (by omega), fun _ => ⟨fun _ => ?_, fun _ => bad (by omega)⟩⟩
  rw [o4]
  refine ⟨fun c => ?_, fun c => ?_⟩
  · obtain ⟨m1, m2, m3⟩ := mrun o o1 (by omega) (Or.inr ⟨rfl, c⟩) (by omega) (by omega)
    refine s_Rw_valuesOf hx (Inv_xR I) ⟨o1, o2⟩ ?_
    rw [o4]
    exact s_Rw_valuesOf hx (Inv_xR I) ⟨o1, o2⟩ (s_F_tell hx (by omega) (by omega) (by omega) fun _ => m3)
  · obtain ⟨c', rfl⟩ : ∃ c' : Nat, a1 = c' := ⟨a1.toNat, by omega⟩
    obtain ⟨m1, m2, m3⟩ := mrun c' (by omega) (by omega) (Or.inl rfl) (by omega) (by omega)
    refine s_Rw_valuesOf hx (Inv_xR I) (by omega) ?_
    rw [o4]
    exact s_Rw_valuesOf hx (Inv_xR I) ⟨o1, o2⟩ (s_F_tell hx (by omega) (by omega) (by omega) fun _ => m3)

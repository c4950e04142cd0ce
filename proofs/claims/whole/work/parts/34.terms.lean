/-! a FRACTION told; TERMS, DEPTH, turns -/
theorem s_F_tell {X : z_X} {N : Nat} {σ g : z_G} {Q : z_P} (hx : z_lay X N σ 0 z_SF z_RF) {a b : Int} (ha : 0 ≤ a) (hb : 0 < b) (hb2 : b ≤ 9223372036854775807) (hq : Q 1 (z_up (z_up (z_up g 0 1 (a / Int.gcd a b)) 0 2 (b / Int.gcd a b)) 0 0 0)) : z_O X 2 m_F_tell [(2, 0), (1, a), (1, b)] N σ g Q := by
  refine b_F_tell_0 hx ?_
  refine b_F_divisorOf_0 ?_
  have hp : 0 < Int.gcd a b := Int.gcd_pos_of_ne_zero_right a (by omega)
  have fin : ∀ x : Int, 0 ≤ x → Int.gcd x 0 = Int.gcd a b → (x ≤ 0 → Q 1 (z_up g 0 0 0)) ∧ (¬ x ≤ 0 → (0 < x) ∧ Q 1 (z_up (z_up (z_up g 0 1 (Int.tdiv a x)) 0 2 (Int.tdiv b x)) 0 0 0)) := by
    intro x hx0 hg
    rw [Int.gcd_zero_right] at hg
    have ex : x = (Int.gcd a b : Int) := by omega
    refine ⟨fun q => absurd q (by omega), fun _ => ⟨by omega, ?_⟩⟩
    rw [ex, n_td ha, n_td (Int.le_of_lt hb)]
    exact hq
  have key : ∀ (n : Nat) (x y : Nat) (j : Int), y ≤ n → 0 ≤ j → j + n_K x y < 200 → Int.gcd x y = Int.gcd a b → L_F_divisorOf_9 X N σ x y j g (fun r0 g0 => ((r0 ≤ 0 → Q 1 (z_up g0 0 0 0)) ∧ (¬ r0 ≤ 0 → (0 < r0) ∧ Q 1 (z_up (z_up (z_up g0 0 1 (Int.tdiv a r0)) 0 2 (Int.tdiv b r0)) 0 0 0)))) := by
    intro n
    induction n with
    | zero =>
      intro x y j hn hj hk hg
      rw [show y = 0 by omega] at hg ⊢
      exact b_F_divisorOf_9 ⟨fun q => absurd q (by omega), fun _ => ⟨fun _ => fin x (by omega) hg, fun q => absurd rfl q⟩⟩
    | succ n ih =>
      intro x y j hn hj hk hg
      by_cases hy : y = 0
      · rw [hy] at hg ⊢
        exact b_F_divisorOf_9 ⟨fun q => absurd q (by omega), fun _ => ⟨fun _ => fin x (by omega) hg, fun q => absurd rfl q⟩⟩
      · refine b_F_divisorOf_9 ⟨fun q => absurd q (by omega), fun _ => ⟨fun q => absurd q (by omega), fun _ => ⟨by omega, by omega, ?_⟩⟩⟩
        rw [n_tm (by omega), show ((x : Int) % (y : Int)) = ((x % y : Nat) : Int) by omega]
        have hm := Nat.mod_lt x (Nat.pos_of_ne_zero hy)
        rw [n_K_s hy] at hk
        refine ih y (x % y) (j + 1) (by omega) (by omega) (by omega) ?_
        rw [← hg, show ((x % y : Nat) : Int) = (x : Int) % (y : Int) by omega]
        exact n_gcd_step (by omega) (by omega)
  have hk := n_K_le 63 a.toNat b.toNat (by omega)
  have := key _ a.toNat b.toNat 0 (Nat.le_refl _) (by omega) (by omega) (by rw [Int.toNat_of_nonneg ha, Int.toNat_of_nonneg (Int.le_of_lt hb)])
  rw [Int.toNat_of_nonneg ha, Int.toNat_of_nonneg (Int.le_of_lt hb)] at this
  exact this
theorem xA.ch {g g' : z_G} (h : ∀ c i, c ≠ 18 → c ≠ 18 + 1 → g' c i = g c i) : xA g g' := fun c i hk => h c i (by unfold xK at hk; omega) (by unfold xK at hk; omega)
theorem n_tree {t b : Int} (h : 1 ≤ b ∧ 0 ≤ t ∧ t ≤ b) : (b / Int.gcd t b ≤ 1) ↔ ¬ (0 < t ∧ t < b) := by
  have hp : 0 < Int.gcd t b := Int.gcd_pos_of_ne_zero_right t (by omega)
  obtain ⟨y, hy⟩ := Int.gcd_dvd_right t b
  obtain ⟨x, hx⟩ := Int.gcd_dvd_left t b
  generalize hG : ((Int.gcd t b : Nat) : Int) = G at hx hy
  have hG1 : 1 ≤ G := by omega
  have e : b / G = y := by rw [hy, Int.mul_comm, Int.mul_ediv_cancel _ (by omega)]
  rw [e]
  constructor
  · rintro h1 ⟨h2, h3⟩
    have y1 : y = 1 := by
      rcases Int.lt_trichotomy y 1 with q | q | q
      · have := Int.mul_le_mul_of_nonneg_left (show y ≤ 0 by omega) (show 0 ≤ G by omega)
        omega
      · exact q
      · omega
    subst y1
    have x1 : x < 1 := by
      rcases Int.lt_or_le x 1 with q | q
      · exact q
      · have := Int.mul_le_mul_of_nonneg_left q (show 0 ≤ G by omega)
        omega
    have := Int.mul_le_mul_of_nonneg_left (show x ≤ 0 by omega) (show 0 ≤ G by omega)
    omega
  · intro h1
    rcases Int.lt_or_le 0 t with q | q
    · have : t = b := by omega
      subst this
      have : Int.gcd t t = t.natAbs := Int.gcd_self
      have gt : G = t := by omega
      rw [gt] at hy
      rcases Int.lt_or_le y 2 with q2 | q2
      · omega
      · have := Int.mul_le_mul_of_nonneg_left q2 (show 0 ≤ t by omega)
        omega
    · have : t = 0 := by omega
      subst this
      have : Int.gcd 0 b = b.natAbs := Int.gcd_zero_left b
      have gt : G = b := by omega
      rw [gt] at hy
      rcases Int.lt_or_le y 2 with q2 | q2
      · omega
      · have := Int.mul_le_mul_of_nonneg_left q2 (show 0 ≤ b by omega)
        omega
theorem s_F_why {X : z_X} {N : Nat} {σ g : z_G} {Q : z_P} (hx : z_lay X N σ 0 z_SF z_RF) {t b : Int} (h1 : ¬ (1 ≤ b ∧ b ≤ 9999 ∧ 0 ≤ t ∧ t ≤ b) → Q 1 g) (h7 : 1 ≤ b ∧ b ≤ 9999 ∧ 0 ≤ t ∧ t ≤ b → ¬ (0 < t ∧ t < b) → ∀ g', xA g g' → Q 7 g') (h0 : b ≤ 9999 ∧ 0 < t ∧ t < b → ∀ g', cCh g' 18 t b → (∀ c i, c ≠ 18 → c ≠ 18 + 1 → g' c i = g c i) → Q 0 g') : z_O X 4 m_F_whyNotOfTree [(2, 0), (0, t), (0, b)] N σ g Q := by
  refine b_F_whyNotOfTree_0 hx (s_Ch_take (ky_F_18 hx) (fun q => ?_) (fun q g' hc hf => ?_))
  · exact fun _ => ⟨fun _ => h1 q, fun e => absurd rfl e⟩
  · have e4 : g' 18 4 = b / Int.gcd t b := hc.2.2.2.2.2.1
    have e5 := n_tree (t := t) (b := b) (by omega)
    rw [← e4] at e5
    exact fun _ => ⟨fun e => absurd e (by omega), fun _ => ⟨fun e => h7 q (e5.mp e) g' (xA.ch hf), fun e => h0 (by have := fun z => e (e5.mpr z); omega) g' hc hf⟩⟩
theorem o_terms {X Y : z_X} {N K : Nat} {σ τ gx gm : z_G} (hx : z_lay X N σ 0 z_SF z_RF) (hm : z_lay Y K τ 0 z_SM z_RM) (I : Inv gx gm) {a1 a2 : Int} (r1 : -2147483648 ≤ a1 ∧ a1 ≤ 2147483647) (r2 : -2147483648 ≤ a2 ∧ a2 ≤ 2147483647) : z_O X 4 m_F_terms [(2, 0), (0, a1), (0, a2)] N σ gx (fun r gx' => z_O Y 2 m_M_terms [(2, 0), (0, a1), (0, a2)] K τ gm (fun r' gm' => r' = r ∧ Inv gx' gm')) := by
  refine b_F_terms_0 hx (s_Ch_take (ky_F_18 hx) (fun q => ?_) (fun q g' hc hf => ?_))
  · refine fun _ => ⟨fun _ => b_M_terms_0 hm ?_, fun e => absurd rfl e⟩
    repeat' (first | refine And.intro (by omega) ?_ | refine And.intro (fun _ => ?_) (fun q => absurd (by omega) q) | refine And.intro (fun q => absurd q (by omega)) (fun _ => ?_) | refine And.intro (fun _ => ?_) (fun _ => ?_) | refine And.intro (fun q => absurd q (by omega)) ?_ | refine And.intro (fun _ => ?_) ?_ | with_reducible intro _)
    all_goals first | exact I.fin xA.rf yA.rf I.2.2.2.2 1 | (exfalso; omega)
  · refine fun _ => ⟨fun e => absurd e (by omega), fun _ => b_M_terms_0 hm ?_⟩
    repeat' (first | refine And.intro (by omega) ?_ | refine And.intro (fun _ => ?_) (fun q => absurd (by omega) q) | refine And.intro (fun q => absurd q (by omega)) (fun _ => ?_) | refine And.intro (fun _ => ?_) (fun _ => ?_) | refine And.intro (fun q => absurd q (by omega)) ?_ | refine And.intro (fun _ => ?_) ?_ | with_reducible intro _)
    refine s_M_laysTerms hm (by omega) (by omega) (by omega) fun g2 hs h1 h2 h3 => ?_
    exact ⟨by rw [h1, hc.1], I.fin (xA.ch hf) hs.y (hs.c I.2.2.2.2) 0⟩
theorem o_termAt {X Y : z_X} {N K : Nat} {σ τ gx gm : z_G} (hx : z_lay X N σ 0 z_SF z_RF) (hm : z_lay Y K τ 0 z_SM z_RM) (I : Inv gx gm) {a1 a2 a3 : Int} (r1 : -2147483648 ≤ a1 ∧ a1 ≤ 2147483647) (r2 : -2147483648 ≤ a2 ∧ a2 ≤ 2147483647) (r3 : -2147483648 ≤ a3 ∧ a3 ≤ 2147483647) : z_O X 4 m_F_termAt [(2, 0), (0, a1), (0, a2), (0, a3)] N σ gx (fun r gx' => z_O Y 2 m_M_termAt [(2, 0), (0, a1), (0, a2), (0, a3)] K τ gm (fun r' gm' => r' = r ∧ Inv gx' gm')) := by
  refine b_F_termAt_0 hx ?_
  have bad : ¬ (0 ≤ a3 ∧ 1 ≤ a2 ∧ a2 ≤ 9999 ∧ 0 ≤ a1 ∧ a1 ≤ a2) → z_O Y 2 m_M_termAt [(2, 0), (0, a1), (0, a2), (0, a3)] K τ gm (fun r' gm' => r' = -1 ∧ Inv (z_up gx 0 0 1) gm') := by
    intro hb
    refine b_M_termAt_0 hm ?_
    repeat' (first | refine And.intro (by omega) ?_ | refine And.intro (fun _ => ?_) (fun q => absurd (by omega) q) | refine And.intro (fun q => absurd q (by omega)) (fun _ => ?_) | refine And.intro (fun _ => ?_) (fun _ => ?_) | refine And.intro (fun q => absurd q (by omega)) ?_ | refine And.intro (fun _ => ?_) ?_ | with_reducible intro _)
    all_goals first | exact I.fin xA.rf yA.rf I.2.2.2.2 1 | (exfalso; omega)
  refine ⟨fun _ => bad (by omega), fun c => s_Ch_take (ky_F_18 hx) (fun q => ?_) (fun q g' hc hf => ?_)⟩
  · exact fun _ => ⟨fun _ => bad (by omega), fun e => absurd rfl e⟩
  · obtain ⟨c1, c2, c3, -⟩ := hc
    have c4 : g' 18 1 = ((n_cf a1.toNat a2.toNat).length : Int) := c1
    refine fun _ => ⟨fun e => absurd e (by omega), fun _ => ⟨fun e => ⟨fun e2 => absurd e2 (by omega), fun _ => ⟨fun e2 => absurd e2 (by omega), fun _ => ⟨by omega, b_M_termAt_0 hm ?_⟩⟩⟩, fun e => b_M_termAt_0 hm ?_⟩⟩
    · repeat' (first | refine And.intro (by omega) ?_ | refine And.intro (fun _ => ?_) (fun q => absurd (by omega) q) | refine And.intro (fun q => absurd q (by omega)) (fun _ => ?_) | refine And.intro (fun _ => ?_) (fun _ => ?_) | refine And.intro (fun q => absurd q (by omega)) ?_ | refine And.intro (fun _ => ?_) ?_ | with_reducible intro _)
      refine s_M_laysTerms hm (by omega) (by omega) (by omega) fun g2 hs h1 h2 h3 => ?_
      have k1 := c3 a3.toNat (by omega)
      have k2 := h2 a3.toNat (by omega)
      rw [show ((a3.toNat : Nat) : Int) = a3 by omega] at k1 k2
      refine ⟨fun e2 => absurd e2 (by omega), fun _ => ⟨by omega, ?_, I.fin (xA.ch hf) hs.y (hs.c I.2.2.2.2) 0⟩⟩
      rw [k2]; exact k1.symm
    · repeat' (first | refine And.intro (by omega) ?_ | refine And.intro (fun _ => ?_) (fun q => absurd (by omega) q) | refine And.intro (fun q => absurd q (by omega)) (fun _ => ?_) | refine And.intro (fun _ => ?_) (fun _ => ?_) | refine And.intro (fun q => absurd q (by omega)) ?_ | refine And.intro (fun _ => ?_) ?_ | with_reducible intro _)
      refine s_M_laysTerms hm (by omega) (by omega) (by omega) fun g2 hs h1 h2 h3 => ?_
      exact ⟨fun _ => ⟨rfl, I.fin (xA.ch hf) hs.y (hs.c I.2.2.2.2) 6⟩, fun e2 => absurd (by omega) e2⟩
theorem o_depth {X Y : z_X} {N K : Nat} {σ τ gx gm : z_G} (hx : z_lay X N σ 0 z_SF z_RF) (hm : z_lay Y K τ 0 z_SM z_RM) (I : Inv gx gm) {a1 a2 : Int} (r1 : -2147483648 ≤ a1 ∧ a1 ≤ 2147483647) (r2 : -2147483648 ≤ a2 ∧ a2 ≤ 2147483647) : z_O X 5 m_F_depth [(2, 0), (0, a1), (0, a2)] N σ gx (fun r gx' => z_O Y 3 m_M_depth [(2, 0), (0, a1), (0, a2)] K τ gm (fun r' gm' => r' = r ∧ Inv gx' gm')) := by
  refine b_F_depth_0 hx (s_F_why hx (fun q => ?_) (fun q q2 g' hA => ?_) (fun q g' hc hf => ?_))
  · refine ⟨fun e => absurd e (by omega), fun _ => b_M_depth_0 hm ?_⟩
    repeat' (first | refine And.intro (by omega) ?_ | refine And.intro (fun _ => ?_) (fun q => absurd (by omega) q) | refine And.intro (fun q => absurd q (by omega)) (fun _ => ?_) | refine And.intro (fun _ => ?_) (fun _ => ?_) | refine And.intro (fun q => absurd q (by omega)) ?_ | refine And.intro (fun _ => ?_) ?_ | with_reducible intro _)
    all_goals first | exact I.fin xA.rf yA.rf I.2.2.2.2 1 | (exfalso; omega)
  · refine ⟨fun e => absurd e (by omega), fun _ => b_M_depth_0 hm ?_⟩
    repeat' (first | refine And.intro (by omega) ?_ | refine And.intro (fun _ => ?_) (fun q => absurd (by omega) q) | refine And.intro (fun q => absurd q (by omega)) (fun _ => ?_) | refine And.intro (fun _ => ?_) (fun _ => ?_) | refine And.intro (fun q => absurd q (by omega)) ?_ | refine And.intro (fun _ => ?_) ?_ | with_reducible intro _)
    all_goals first | exact I.fin hA yA.rf I.2.2.2.2 7 | (exfalso; omega)
  · have e2 : g' 18 2 = (n_E a1.toNat a2.toNat : Int) := hc.2.2.2.1
    have hE : n_E a1.toNat a2.toNat ≤ 28 * 9999 := by
      rw [← n_cf_sum _ _ _ (Nat.le_refl _)]
      have := n_take_le (L := n_cf a1.toNat a2.toNat) (m := 9999) (fun q hq => by rcases n_cf_le _ _ _ (Nat.le_refl _) q hq with h | h <;> omega) 28
      rw [List.take_of_length_le hc.2.1] at this
      exact this
    refine ⟨fun _ => ⟨by omega, b_M_depth_0 hm ?_⟩, fun e => absurd rfl e⟩
    repeat' (first | refine And.intro (by omega) ?_ | refine And.intro (fun _ => ?_) (fun q => absurd (by omega) q) | refine And.intro (fun q => absurd q (by omega)) (fun _ => ?_) | refine And.intro (fun _ => ?_) (fun _ => ?_) | refine And.intro (fun q => absurd q (by omega)) ?_ | refine And.intro (fun _ => ?_) ?_ | with_reducible intro _)
    refine s_M_depthOf hm (by omega) (by omega) (by omega) fun g2 hs h3 => ?_
    exact ⟨by unfold n_D; omega, I.fin (xA.ch hf) hs.y (hs.c I.2.2.2.2) 0⟩
theorem s_Ch_turnOf {X : z_X} {N : Nat} {σ g : z_G} {Q : z_P} {o : Nat} (ho : z_lay X N σ o z_SCh z_RCh) {t b k : Int} (hc : cCh g o t b) (h0 : 0 < t ∧ t < b ∧ b ≤ 9999) (hk : 0 ≤ k ∧ k < n_D t b) (hq : ∀ i : Nat, 1 ≤ i → i < (n_cf t.toNat b.toNat).length → (∀ j, 1 ≤ j → j < i → (((n_cf t.toNat b.toNat).take (j + 1)).sum : Int) ≤ k + 1) → k + 1 < (((n_cf t.toNat b.toNat).take (i + 1)).sum : Int) → Q (if i % 2 = 1 then 0 else 1) g) : z_O X 2 m_Ch_turnOf [(2, ((o : Nat) : Int)), (0, k)] N σ g Q := by
  obtain ⟨c1, c2, c3, -⟩ := hc
  have hle : ∀ q ∈ n_cf t.toNat b.toNat, q ≤ 9999 := fun q hq => by
    rcases n_cf_le _ _ _ (Nat.le_refl _) q hq with h | h <;> omega
  have hsum : (n_cf t.toNat b.toNat).sum = n_E t.toNat b.toNat := n_cf_sum _ _ _ (Nat.le_refl _)
  have hL0 : ((n_cf t.toNat b.toNat).take 1).sum = 0 ∧ 2 ≤ (n_cf t.toNat b.toNat).length := by
    rw [n_cf_s (by omega), n_cf_s (b := t.toNat % b.toNat) (by rw [Nat.mod_eq_of_lt (by omega)]; omega), Nat.div_eq_of_lt (by omega)]
    simp
  unfold n_D at hk
  rw [← hsum] at hk
  generalize n_cf t.toNat b.toNat = L at *
  have hs9 := n_take_le hle 28
  rw [List.take_of_length_le c2] at hs9
  refine b_Ch_turnOf_0 ho ⟨by omega, ?_⟩
  have key : ∀ (n i : Nat), L.length ≤ i + n → 1 ≤ i → i ≤ L.length → ((L.take i).sum : Int) ≤ k + 1 → (∀ j, 1 ≤ j → j < i → ((L.take (j + 1)).sum : Int) ≤ k + 1) → L_Ch_turnOf_6 X N σ (k + 1 - ((L.take i).sum : Int)) i o g Q := by
    intro n
    induction n with
    | zero =>
      intro i hn h1 h2 h3 h4
      rw [show i = L.length by omega, List.take_length] at h3
      omega
    | succ n ih =>
      intro i hn h1 h2 h3 h4
      by_cases hi : i = L.length
      · rw [hi, List.take_length] at h3
        omega
      · have hil : i < L.length := by omega
        have e1 := n_take_sum L hil
        have e2 := c3 i hil
        have b2 : L[i]?.getD 0 ≤ 9999 := by rw [List.getElem?_eq_getElem hil]; exact hle _ (List.getElem_mem hil)
        have e3 : ((L.take (i + 1)).sum : Int) = ((L.take i).sum : Int) + ((L[i]?.getD 0 : Nat) : Int) := by omega
        refine b_Ch_turnOf_6 ho ⟨fun q => absurd q (by omega), fun _ => ⟨fun q => absurd q (by omega), fun _ => ⟨fun q => absurd q (by omega), fun _ => ⟨by omega, by omega, ?_⟩⟩⟩⟩
        rw [e2]
        refine ⟨fun q => ⟨by omega, ?_⟩, fun q => ?_⟩
        · have := ih (i + 1) (by omega) (by omega) (by omega) (by omega) (fun j j1 j2 => by
            by_cases hj : j = i
            · rw [hj]; omega
            · exact h4 j j1 (by omega))
          rw [e3] at this
          rw [show k + 1 - ((L.take i).sum : Int) - ((L[i]?.getD 0 : Nat) : Int) = k + 1 - (((L.take i).sum : Int) + ((L[i]?.getD 0 : Nat) : Int)) by omega]
          exact this
        · have := hq i h1 hil h4 (by omega)
          rw [n_tm (by omega)]
          refine ⟨fun p => ?_, fun p => ?_⟩
          · rw [if_pos (by omega)] at this; exact this
          · rw [if_neg (by omega)] at this; exact this
  have := key L.length 1 (by omega) (by omega) (by omega) (by rw [hL0.1]; omega) (fun j j1 j2 => by omega)
  rw [hL0.1] at this
  simpa using this
theorem n_cf_pos : ∀ (n a b : Nat), b ≤ n → b ≤ a → ∀ q ∈ n_cf a b, 1 ≤ q := by
  intro n
  induction n with
  | zero => intro a b h h2; rw [show b = 0 by omega, n_cf_0]; intro q hq; cases hq
  | succ n ih =>
    intro a b h h2
    by_cases hb : b = 0
    · rw [hb, n_cf_0]; intro q hq; cases hq
    · have hm := Nat.mod_lt a (Nat.pos_of_ne_zero hb)
      rw [n_cf_s hb]
      intro q hq
      rcases List.mem_cons.mp hq with rfl | hq
      · exact Nat.div_pos h2 (Nat.pos_of_ne_zero hb)
      · exact ih b (a % b) (by omega) (by omega) q hq
theorem n_cf_pos1 (a b : Nat) {j : Nat} (h1 : 1 ≤ j) (h2 : j < (n_cf a b).length) : 1 ≤ (n_cf a b)[j]?.getD 0 := by
  by_cases hb : b = 0
  · rw [hb, n_cf_0] at h2; simp at h2
  · have hm := Nat.mod_lt a (Nat.pos_of_ne_zero hb)
    rw [List.getElem?_eq_getElem h2, Option.getD_some]
    obtain ⟨k, rfl⟩ : ∃ k, j = k + 1 := ⟨j - 1, by omega⟩
    refine n_cf_pos b b (a % b) (by omega) (by omega) _ ?_
    have e : (n_cf a b)[k + 1] = (n_cf b (a % b))[k]'(by rw [n_cf_s hb] at h2; simpa using h2) := by
      simp only [n_cf_s hb (a := a), List.getElem_cons_succ]
    rw [e]; exact List.getElem_mem _
theorem n_cf_last : ∀ (n a b : Nat), b ≤ n → 1 ≤ b → b < a → 2 ≤ (n_cf a b)[(n_cf a b).length - 1]?.getD 0 := by
  intro n
  induction n with
  | zero => intro a b h h1 h2; omega
  | succ n ih =>
    intro a b h h1 h2
    have hm := Nat.mod_lt a h1
    by_cases hb : a % b = 0
    · rw [n_cf_s (by omega), hb, n_cf_0]
      have e1 := Nat.div_add_mod a b
      rw [hb] at e1
      generalize a / b = q at *
      simp
      rcases q with _ | _ | q
      · simp at e1; omega
      · simp at e1; omega
      · omega
    · have := ih b (a % b) (by omega) (by omega) hm
      rw [n_cf_s (by omega)]
      have hl : 1 ≤ (n_cf b (a % b)).length := by rw [n_cf_s hb]; simp
      rw [List.length_cons, show (n_cf b (a % b)).length + 1 - 1 = ((n_cf b (a % b)).length - 1) + 1 by omega, List.getElem?_cons_succ]
      exact this
theorem o_turnAt {X Y : z_X} {N K : Nat} {σ τ gx gm : z_G} (hx : z_lay X N σ 0 z_SF z_RF) (hm : z_lay Y K τ 0 z_SM z_RM) (I : Inv gx gm) {a1 a2 a3 : Int} (r1 : -2147483648 ≤ a1 ∧ a1 ≤ 2147483647) (r2 : -2147483648 ≤ a2 ∧ a2 ≤ 2147483647) (r3 : -2147483648 ≤ a3 ∧ a3 ≤ 2147483647) : z_O X 5 m_F_turnAt [(2, 0), (0, a1), (0, a2), (0, a3)] N σ gx (fun r gx' => z_O Y 2 m_M_turnAt [(2, 0), (0, a1), (0, a2), (0, a3)] K τ gm (fun r' gm' => r' = r ∧ Inv gx' gm')) := by
  refine b_F_turnAt_0 hx ?_
  have bad : ¬ (0 ≤ a3 ∧ 1 ≤ a2 ∧ a2 ≤ 9999 ∧ 0 ≤ a1 ∧ a1 ≤ a2) → z_O Y 2 m_M_turnAt [(2, 0), (0, a1), (0, a2), (0, a3)] K τ gm (fun r' gm' => r' = -1 ∧ Inv (z_up gx 0 0 1) gm') := by
    intro hb
    refine b_M_turnAt_0 hm ?_
    repeat' (first | refine And.intro (by omega) ?_ | refine And.intro (fun _ => ?_) (fun q => absurd (by omega) q) | refine And.intro (fun q => absurd q (by omega)) (fun _ => ?_) | refine And.intro (fun _ => ?_) (fun _ => ?_) | refine And.intro (fun q => absurd q (by omega)) ?_ | refine And.intro (fun _ => ?_) ?_ | with_reducible intro _)
    all_goals first | exact I.fin xA.rf yA.rf I.2.2.2.2 1 | (exfalso; omega)
  refine ⟨fun c => s_F_why hx (fun q => ?_) (fun q q2 g' hA => ?_) (fun q g' hc hf => ?_), fun _ => bad (by omega)⟩
  · exact ⟨fun e => absurd e (by omega), fun _ => bad (by omega)⟩
  · refine ⟨fun e => absurd e (by omega), fun _ => b_M_turnAt_0 hm ?_⟩
    repeat' (first | refine And.intro (by omega) ?_ | refine And.intro (fun _ => ?_) (fun q => absurd (by omega) q) | refine And.intro (fun q => absurd q (by omega)) (fun _ => ?_) | refine And.intro (fun _ => ?_) (fun _ => ?_) | refine And.intro (fun q => absurd q (by omega)) ?_ | refine And.intro (fun _ => ?_) ?_ | with_reducible intro _)
    all_goals first | exact I.fin hA yA.rf I.2.2.2.2 7 | (exfalso; omega)
  · have e2 : g' 18 2 = (n_E a1.toNat a2.toNat : Int) := hc.2.2.2.1
    have hle : ∀ q ∈ n_cf a1.toNat a2.toNat, q ≤ 9999 := fun q hq => by
      rcases n_cf_le _ _ _ (Nat.le_refl _) q hq with h | h <;> omega
    have hsum : (n_cf a1.toNat a2.toNat).sum = n_E a1.toNat a2.toNat := n_cf_sum _ _ _ (Nat.le_refl _)
    have hL0 : ((n_cf a1.toNat a2.toNat).take 1).sum = 0 ∧ 2 ≤ (n_cf a1.toNat a2.toNat).length := by
      rw [n_cf_s (by omega), n_cf_s (b := a1.toNat % a2.toNat) (by rw [Nat.mod_eq_of_lt (by omega)]; omega), Nat.div_eq_of_lt (by omega)]
      simp
    have c2 := hc.2.1
    have hpos : ∀ j : Nat, 1 ≤ j → j < (n_cf a1.toNat a2.toNat).length → 1 ≤ (n_cf a1.toNat a2.toNat)[j]?.getD 0 := fun j j1 j2 => n_cf_pos1 _ _ j1 j2
    have hlast : ∀ j : Nat, j + 1 = (n_cf a1.toNat a2.toNat).length → 2 ≤ (n_cf a1.toNat a2.toNat)[j]?.getD 0 := fun j j1 => by
      have e0 := n_cf_s (a := a1.toNat) (b := a2.toNat) (by omega)
      have := n_cf_last a1.toNat a2.toNat (a1.toNat % a2.toNat) (by rw [Nat.mod_eq_of_lt (by omega)]; omega) (by rw [Nat.mod_eq_of_lt (by omega)]; omega) (Nat.mod_lt _ (by omega))
      rw [e0, List.length_cons] at j1
      have hl : 1 ≤ (n_cf a2.toNat (a1.toNat % a2.toNat)).length := by rw [n_cf_s (by rw [Nat.mod_eq_of_lt (by omega)]; omega)]; simp
      rw [e0, show j = ((n_cf a2.toNat (a1.toNat % a2.toNat)).length - 1) + 1 by omega, List.getElem?_cons_succ]
      exact this
    -- the reference's loop: up to the place i (or to the end)
    have mloop : ∀ (r s : Int) (gx' gm' : z_G), gm' 0 27 = (n_cf a1.toNat a2.toNat).length → (∀ k : Nat, k < (n_cf a1.toNat a2.toNat).length → gm' 10 k = ((n_cf a1.toNat a2.toNat)[k]?.getD 0 : Nat)) → ∀ e : Nat, 1 ≤ e → e ≤ (n_cf a1.toNat a2.toNat).length → (∀ j : Nat, 1 ≤ j → j < e → ((n_cf a1.toNat a2.toNat).take (j + 1)).sum ≤ a3 + 1 + (if j + 1 = (n_cf a1.toNat a2.toNat).length then 1 else 0)) → (e < (n_cf a1.toNat a2.toNat).length → a3 + 1 + (if e + 1 = (n_cf a1.toNat a2.toNat).length then 1 else 0) < ((n_cf a1.toNat a2.toNat).take (e + 1)).sum ∧ r = (if e % 2 = 1 then 0 else 1) ∧ Inv gx' (z_up gm' 0 1 0)) → (e = (n_cf a1.toNat a2.toNat).length → r = -1 ∧ Inv gx' (z_up gm' 0 1 6)) → L_M_turnAt_45 Y K τ a3 1 gm' (fun r' gm2 => r' = r ∧ Inv gx' gm2) := by
      intro r s gx' gm' h1 h2 e he1 he2 he3 he4 he5
      generalize n_cf a1.toNat a2.toNat = L at *
      have hs9 := n_take_le hle 28
      rw [List.take_of_length_le c2] at hs9
      have key : ∀ (n i : Nat) (x : Int), e ≤ i + n → 1 ≤ i → i ≤ e → x = a3 - ((L.take i).sum : Int) + (if 1 < i then 1 else 0) + (if i = L.length then 1 else 0) → 0 ≤ x → L_M_turnAt_45 Y K τ x i gm' (fun r' gm2 => r' = r ∧ Inv gx' gm2) := by
        intro n
        induction n with
        | zero =>
          intro i x hn i1 i2 hxx hx0
          have hie : i = e := by omega
          subst hie
          by_cases hi : i = L.length
          · obtain ⟨q1, q2⟩ := he5 hi
            exact b_M_turnAt_45 hm ⟨fun _ => ⟨q1.symm, q2⟩, fun p => absurd (by omega) p⟩
          · have hil : i < L.length := by omega
            obtain ⟨q1, q2, q3⟩ := he4 hil
            have e1 := n_take_sum L hil
            have e3 := h2 i hil
            have b2 : L[i]?.getD 0 ≤ 9999 := by rw [List.getElem?_eq_getElem hil]; exact hle _ (List.getElem_mem hil)
            generalize L[i]?.getD 0 = a at e1 e3 b2
            rw [if_neg hi] at hxx
            refine b_M_turnAt_45 hm ⟨fun p => absurd p (by omega), fun _ => ⟨by omega, ?_⟩⟩
            rw [e3, h1, n_tm (by omega)]
            have fin : (((i : Int) % 2 = 1) → (0 : Int) = r ∧ Inv gx' (z_up gm' 0 1 0)) ∧ (¬ ((i : Int) % 2 = 1) → (1 : Int) = r ∧ Inv gx' (z_up gm' 0 1 0)) := by
              refine ⟨fun p => ⟨?_, q3⟩, fun p => ⟨?_, q3⟩⟩
              · rw [q2, if_pos (by omega)]
              · rw [q2, if_neg (by omega)]
            by_cases c1 : i = 1
            · rw [if_neg (by omega)] at hxx
              by_cases c3 : i + 1 = L.length
              · rw [if_pos c3] at q1
                exact ⟨fun _ => ⟨by omega, by omega, fun _ => ⟨by omega, fun p => absurd p (by omega), fun _ => fin⟩, fun p => absurd (by omega) p⟩, fun p => absurd (by omega) p⟩
              · rw [if_neg c3] at q1
                exact ⟨fun _ => ⟨by omega, by omega, fun p => absurd p (by omega), fun _ => ⟨by omega, fun p => absurd p (by omega), fun _ => fin⟩⟩, fun p => absurd (by omega) p⟩
            · rw [if_pos (by omega)] at hxx
              by_cases c3 : i + 1 = L.length
              · rw [if_pos c3] at q1
                exact ⟨fun p => absurd p (by omega), fun _ => ⟨by omega, by omega, fun _ => ⟨by omega, fun p => absurd p (by omega), fun _ => fin⟩, fun p => absurd (by omega) p⟩⟩
              · rw [if_neg c3] at q1
                exact ⟨fun p => absurd p (by omega), fun _ => ⟨by omega, by omega, fun p => absurd p (by omega), fun _ => ⟨by omega, fun p => absurd p (by omega), fun _ => fin⟩⟩⟩
        | succ n ih =>
          intro i x hn i1 i2 hxx hx0
          by_cases hie : i = e
          · -- as above: reuse by a shorter way
            exact (show ∀ m, e ≤ i + m → L_M_turnAt_45 Y K τ x i gm' (fun r' gm2 => r' = r ∧ Inv gx' gm2) from fun m _ => ih i x (by omega) i1 i2 hxx hx0) 0 (by omega)
          · have hil : i < L.length := by omega
            have q1 := he3 i i1 (by omega)
            have e1 := n_take_sum L hil
            have e3 := h2 i hil
            have b2 : L[i]?.getD 0 ≤ 9999 := by rw [List.getElem?_eq_getElem hil]; exact hle _ (List.getElem_mem hil)
            have b3 := hpos i i1 hil
            have b4 := hlast i
            generalize L[i]?.getD 0 = a at e1 e3 b2 b3 b4
            rw [if_neg (show ¬ i = L.length by omega)] at hxx
            refine b_M_turnAt_45 hm ⟨fun p => absurd p (by omega), fun _ => ⟨by omega, ?_⟩⟩
            rw [e3, h1]
            have next : ∀ y : Int, y = a3 - ((L.take (i + 1)).sum : Int) + 1 + (if i + 1 = L.length then 1 else 0) → 0 ≤ y → L_M_turnAt_45 Y K τ y ((i : Int) + 1) gm' (fun r' gm2 => r' = r ∧ Inv gx' gm2) := fun y hy hy0 => ih (i + 1) y (by omega) (by omega) (by omega) (by rw [hy, if_pos (show 1 < i + 1 by omega)]) hy0
            by_cases c1 : i = 1
            · rw [if_neg (by omega)] at hxx
              by_cases c3 : i + 1 = L.length
              · rw [if_pos c3] at q1
                have b4 := b4 c3
                exact ⟨fun _ => ⟨by omega, by omega, fun _ => ⟨by omega, fun _ => ⟨by omega, by omega, next _ (by rw [if_pos c3]; omega) (by omega)⟩, fun p => absurd (by omega) p⟩, fun p => absurd (by omega) p⟩, fun p => absurd (by omega) p⟩
              · rw [if_neg c3] at q1
                exact ⟨fun _ => ⟨by omega, by omega, fun p => absurd p (by omega), fun _ => ⟨by omega, fun _ => ⟨by omega, by omega, next _ (by rw [if_neg c3]; omega) (by omega)⟩, fun p => absurd (by omega) p⟩⟩, fun p => absurd (by omega) p⟩
            · rw [if_pos (by omega)] at hxx
              by_cases c3 : i + 1 = L.length
              · rw [if_pos c3] at q1
                have b4 := b4 c3
                exact ⟨fun p => absurd p (by omega), fun _ => ⟨by omega, by omega, fun _ => ⟨by omega, fun _ => ⟨by omega, by omega, next _ (by rw [if_pos c3]; omega) (by omega)⟩, fun p => absurd (by omega) p⟩, fun p => absurd (by omega) p⟩⟩
              · rw [if_neg c3] at q1
                exact ⟨fun p => absurd p (by omega), fun _ => ⟨by omega, by omega, fun p => absurd p (by omega), fun _ => ⟨by omega, fun _ => ⟨by omega, by omega, next _ (by rw [if_neg c3]; omega) (by omega)⟩, fun p => absurd (by omega) p⟩⟩⟩
      exact key e 1 a3 (by omega) (by omega) he1 (by rw [hL0.1, if_neg (by omega), if_neg (by omega)]; omega) c
    have hE : (n_cf a1.toNat a2.toNat).sum ≤ 28 * 9999 := by
      have := n_take_le hle 28
      rw [List.take_of_length_le c2] at this
      exact this
    refine ⟨fun _ => ⟨by omega, fun k1 => ?_, fun k1 => ?_⟩, fun e => absurd rfl e⟩
    · refine s_Ch_turnOf (ky_F_18 hx) hc (by omega) ⟨c, by unfold n_D; omega⟩ fun i i1 i2 i3 i4 => b_M_turnAt_0 hm ?_
      repeat' (first | refine And.intro (by omega) ?_ | refine And.intro (fun _ => ?_) (fun q => absurd (by omega) q) | refine And.intro (fun q => absurd q (by omega)) (fun _ => ?_) | refine And.intro (fun _ => ?_) (fun _ => ?_) | refine And.intro (fun q => absurd q (by omega)) ?_ | refine And.intro (fun _ => ?_) ?_ | with_reducible intro _)
      refine s_M_laysTerms hm (by omega) (by omega) (by omega) fun g2 hs h1 h2 h3 => ?_
      refine mloop _ 0 _ g2 h1 h2 i i1 (by omega) (fun j j1 j2 => ?_) (fun _ => ⟨?_, rfl, I.fin (xA.ch hf) hs.y (hs.c I.2.2.2.2) 0⟩) (fun e => absurd e (by omega))
      · have := i3 j j1 j2
        split <;> omega
      · split
        · rename_i e9
          rw [e9, List.take_length, hsum]
          omega
        · omega
    · refine b_M_turnAt_0 hm ?_
      repeat' (first | refine And.intro (by omega) ?_ | refine And.intro (fun _ => ?_) (fun q => absurd (by omega) q) | refine And.intro (fun q => absurd q (by omega)) (fun _ => ?_) | refine And.intro (fun _ => ?_) (fun _ => ?_) | refine And.intro (fun q => absurd q (by omega)) ?_ | refine And.intro (fun _ => ?_) ?_ | with_reducible intro _)
      refine s_M_laysTerms hm (by omega) (by omega) (by omega) fun g2 hs h1 h2 h3 => ?_
      refine mloop _ 0 _ g2 h1 h2 (n_cf a1.toNat a2.toNat).length (by omega) (Nat.le_refl _) (fun j j1 j2 => ?_) (fun e => absurd e (by omega)) (fun _ => ⟨rfl, I.fin (xA.ch hf) hs.y (hs.c I.2.2.2.2) 6⟩)
      split
      · rename_i e9
        rw [e9, List.take_length, hsum]
        omega
      · -- below the last one: its last term is 2 at least
        have := n_take_sum (n_cf a1.toNat a2.toNat) (j := j + 1) (by omega)
        have h8 : ((n_cf a1.toNat a2.toNat).take (j + 1 + 1)).sum ≤ (n_cf a1.toNat a2.toNat).sum := by
          conv => rhs; rw [← List.take_append_drop (j + 1 + 1) (n_cf a1.toNat a2.toNat), List.sum_append]
          omega
        have h9 : 1 ≤ (n_cf a1.toNat a2.toNat)[j + 1]?.getD 0 := n_cf_pos1 _ _ (by omega) (by omega)
        omega

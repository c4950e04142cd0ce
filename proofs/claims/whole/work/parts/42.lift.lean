/-! ## weight, lift -/
theorem s_M_findPin {X : z_X} {N : Nat} {σ g : z_G} {Q : z_P} (hm : z_lay X N σ 0 z_SM z_RM) {s t b : Int} (hs : 0 ≤ s ∧ s ≤ 2440) (hn : 0 ≤ g 1 (s + 4) ∧ g 1 (s + 4) ≤ 12) (h1 : ∀ k : Int, 0 ≤ k → k < g 1 (s + 4) → g 1 (s + 10 + 3 * k) = t → g 1 (s + 10 + 3 * k + 1) = b → Q k g) (h0 : (∀ k : Int, 0 ≤ k → k < g 1 (s + 4) → ¬ (g 1 (s + 10 + 3 * k) = t ∧ g 1 (s + 10 + 3 * k + 1) = b)) → Q (-1) g) : z_O X 1 m_M_findPin [(2, 0), (0, s), (0, t), (0, b)] N σ g Q := by
  refine b_M_findPin_0 hm ?_
  have loop : ∀ (m : Nat) (x : Int), g 1 (s + 4) ≤ x + m → 0 ≤ x → (∀ k : Int, 0 ≤ k → k < x → ¬ (g 1 (s + 10 + 3 * k) = t ∧ g 1 (s + 10 + 3 * k + 1) = b)) → x ≤ g 1 (s + 4) → L_M_findPin_3 X N σ s t b x g Q := by
    intro m
    induction m with
    | zero => exact fun x k1 k2 k3 k4 => b_M_findPin_3 hm ⟨by omega, by omega, fun _ => h0 fun k j1 j2 => k3 k j1 (by omega), fun p => absurd (by omega) p⟩
    | succ m ih =>
      intro x k1 k2 k3 k4
      by_cases c : g 1 (s + 4) ≤ x
      · exact ih x (by omega) k2 k3 k4
      · have next : ¬ (g 1 (s + 10 + 3 * x) = t ∧ g 1 (s + 10 + 3 * x + 1) = b) → L_M_findPin_3 X N σ s t b (x + 1) g Q := fun p => ih (x + 1) (by omega) (by omega) (fun k j1 j2 => by
          by_cases e : k = x
          · rw [e]; exact p
          · exact k3 k j1 (by omega)) (by omega)
        exact b_M_findPin_3 hm ⟨by omega, by omega, fun p => absurd p c, fun _ => ⟨by omega, by omega, by omega, by omega, fun p => ⟨by omega, by omega, fun q => h1 x k2 (by omega) p q, fun q => ⟨by omega, next fun r => q r.2⟩⟩, fun p => ⟨by omega, next fun r => p r.1⟩⟩⟩
  exact loop (g 1 (s + 4)).toNat 0 (by omega) (by omega) (fun k _ _ => by omega) hn.1
/-- the place of a pin, the same for both -/
def pAt (gm : z_G) (T B r : Int) : Prop := (r = -1 ∧ ∀ k : Int, 0 ≤ k → k < gm 1 4 → ¬ (gm 1 (10 + 3 * k) = T ∧ gm 1 (10 + 3 * k + 1) = B)) ∨ (0 ≤ r ∧ r < gm 1 4 ∧ gm 1 (10 + 3 * r) = T ∧ gm 1 (10 + 3 * r + 1) = B)
def pI (gx gm : z_G) : Prop := gx 25 3 = gm 1 4 ∧ 0 ≤ gm 1 4 ∧ gm 1 4 ≤ 12 ∧ (∀ k : Int, 0 ≤ k → k < gm 1 4 → gx 26 k = gm 1 (10 + 3 * k) ∧ gx 27 k = gm 1 (10 + 3 * k + 1) ∧ gx 28 k = gm 1 (10 + 3 * k + 2) ∧ iVal (gm 1 (10 + 3 * k)) (gm 1 (10 + 3 * k + 1)) ∧ 1 ≤ gm 1 (10 + 3 * k + 2) ∧ gm 1 (10 + 3 * k + 2) ≤ 999) ∧ ∀ j k : Int, 0 ≤ j → j < k → k < gm 1 4 → ¬ (gm 1 (10 + 3 * j) = gm 1 (10 + 3 * k) ∧ gm 1 (10 + 3 * j + 1) = gm 1 (10 + 3 * k + 1))
theorem pI_iff {gx gm : z_G} : iP (fX gx 23) (fM gm 0) ↔ pI gx gm := by
  unfold iP pI fX fM
  simp only [Int.zero_add]
theorem Inv.pI {gx gm : z_G} (I : Inv gx gm) : pI gx gm := pI_iff.mp I.2.2.2.1.2.2.2.2.2.2.1.2.2.1
theorem pAt.eq {gx gm : z_G} {T B r r' : Int} (h : pI gx gm) (h1 : pAt gm T B r) (h2 : pAt gm T B r') : r = r' := by
  obtain ⟨p1, p2, p3, p4, p5⟩ := h
  rcases h1 with ⟨a1, a2⟩ | ⟨a1, a2, a3, a4⟩
  · rcases h2 with ⟨b1, b2⟩ | ⟨b1, b2, b3, b4⟩
    · omega
    · exact absurd ⟨b3, b4⟩ (a2 r' b1 b2)
  · rcases h2 with ⟨b1, b2⟩ | ⟨b1, b2, b3, b4⟩
    · exact absurd ⟨a3, a4⟩ (b2 r a1 a2)
    · rcases Int.lt_trichotomy r r' with c | c | c
      · exact absurd ⟨a3.trans b3.symm, a4.trans b4.symm⟩ (p5 r r' a1 c b2)
      · exact c
      · exact absurd ⟨b3.trans a3.symm, b4.trans a4.symm⟩ (p5 r' r b1 c a2)
theorem s_M_pinOf {X : z_X} {N : Nat} {σ gx g : z_G} {Q : z_P} (hm : z_lay X N σ 0 z_SM z_RM) (h : pI gx g) {t b : Int} (ht : 0 ≤ t) (hb : 1 ≤ b) (hq : ∀ r, pAt g (t / Int.gcd t b) (b / Int.gcd t b) r → Q r g) : z_O X 2 m_M_pinOf [(2, 0), (0, t), (0, b)] N σ g Q := by
  have hp : 0 < Int.gcd t b := Int.gcd_pos_of_ne_zero_right t (by omega)
  refine b_M_pinOf_0 hm (s_M_common (by omega) (by omega) ?_)
  rw [n_td (by omega), n_td (by omega)]
  obtain ⟨p1, p2, p3, p4, p5⟩ := h
  refine ⟨by omega, s_M_findPin hm (s := 0) (by omega) (by rw [Int.zero_add]; omega) (fun k k1 k2 k3 k4 => hq k (Or.inr ?_)) (fun k => hq _ (Or.inl ?_))⟩
  · simp only [Int.zero_add] at k2 k3 k4; exact ⟨k1, k2, k3, k4⟩
  · simp only [Int.zero_add] at k; exact ⟨rfl, k⟩
theorem s_F_findPin {X : z_X} {N : Nat} {σ gx g gm : z_G} {Q : z_P} (hx : z_lay X N σ 0 z_SF z_RF) (h : pI gx gm) (hf : ∀ c i, c ≠ 18 → c ≠ 18 + 1 → g c i = gx c i) {T B : Int} (hq : ∀ r, pAt gm T B r → Q r g) : z_O X 1 m_Pi_find [(2, 25), (0, T), (0, B)] N σ g Q := by
  obtain ⟨p1, p2, p3, p4, p5⟩ := h
  have e : g 25 3 = gm 1 4 := by rw [hf 25 3 (by omega) (by omega)]; exact p1
  refine s_Pi_find (o := 25) (ky_F_25 hx) (by omega) (fun k k1 k2 k3 k4 => hq k (Or.inr ?_)) (fun k => hq _ (Or.inl ⟨rfl, fun j j1 j2 => ?_⟩))
  · have k3 : g 26 k = T := k3
    have k4 : g 27 k = B := k4
    rw [hf _ _ (by omega) (by omega)] at k3 k4
    have := p4 k k1 (by omega)
    exact ⟨k1, by omega, by omega, by omega⟩
  · have := k j j1 (by omega)
    have k3 : g (25 + 1) j = gx 26 j := hf _ _ (by omega) (by omega)
    have k4 : g (25 + 2) j = gx 27 j := hf _ _ (by omega) (by omega)
    rw [k3, k4] at this
    have := p4 j j1 j2
    omega
theorem o_weight {X Y : z_X} {N K : Nat} {σ τ gx gm : z_G} (hx : z_lay X N σ 0 z_SF z_RF) (hm : z_lay Y K τ 0 z_SM z_RM) (I : Inv gx gm) {a1 a2 : Int} (r1 : -2147483648 ≤ a1 ∧ a1 ≤ 2147483647) (r2 : -2147483648 ≤ a2 ∧ a2 ≤ 2147483647) : z_O X 4 m_F_weight [(2, 0), (0, a1), (0, a2)] N σ gx (fun r gx' => z_O Y 3 m_M_weight [(2, 0), (0, a1), (0, a2)] K τ gm (fun r' gm' => r' = r ∧ Inv gx' gm')) := by
  refine b_F_weight_0 hx (s_Ch_take (ky_F_18 hx) (fun q => ?_) (fun q g' hc hf => ?_))
  · refine fun _ => ⟨fun _ => b_M_weight_0 hm ?_, fun e => absurd rfl e⟩
    repeat' (first | refine And.intro (by omega) ?_ | refine And.intro (fun _ => ?_) (fun q => absurd (by omega) q) | refine And.intro (fun q => absurd q (by omega)) (fun _ => ?_) | refine And.intro (fun _ => ?_) (fun _ => ?_) | refine And.intro (fun q => absurd q (by omega)) ?_ | refine And.intro (fun _ => ?_) ?_ | with_reducible intro _)
    all_goals first | exact I.fin xA.rf yA.rf I.2.2.2.2 1 | (exfalso; omega)
  · refine fun _ => ⟨fun e => absurd e (by omega), fun _ => ?_⟩
    rw [show g' 18 3 = a1 / Int.gcd a1 a2 from hc.2.2.2.2.1, show g' 18 4 = a2 / Int.gcd a1 a2 from hc.2.2.2.2.2.1]
    have hn := I.pI.2.2.1
    refine s_F_findPin hx I.pI hf fun r hr => ⟨fun r0 => ?_, fun r0 => b_M_weight_0 hm ?_⟩
    · have hr0 : r < gm 1 4 := by
        rcases hr with ⟨a, -⟩ | ⟨-, a, -, -⟩ <;> omega
      refine ⟨by omega, b_M_weight_0 hm ?_⟩
      repeat' (first | refine And.intro (by omega) ?_ | refine And.intro (fun _ => ?_) (fun q => absurd (by omega) q) | refine And.intro (fun q => absurd q (by omega)) (fun _ => ?_) | refine And.intro (fun _ => ?_) (fun _ => ?_) | refine And.intro (fun q => absurd q (by omega)) ?_ | refine And.intro (fun _ => ?_) ?_ | with_reducible intro _)
      refine s_M_pinOf hm I.pI (by omega) (by omega) fun r' hr' => ?_
      have e := pAt.eq I.pI hr hr'
      subst e
      have hw := (I.pI.2.2.2.1 r r0 hr0).2.2.1
      refine ⟨fun e => absurd e (by omega), fun _ => ⟨by omega, by omega, by omega, by omega, ?_, I.fin (xA.ch hf) yA.rf I.2.2.2.2 0⟩⟩
      rw [hf 28 r (by omega) (by omega), hw]
    · repeat' (first | refine And.intro (by omega) ?_ | refine And.intro (fun _ => ?_) (fun q => absurd (by omega) q) | refine And.intro (fun q => absurd q (by omega)) (fun _ => ?_) | refine And.intro (fun _ => ?_) (fun _ => ?_) | refine And.intro (fun q => absurd q (by omega)) ?_ | refine And.intro (fun _ => ?_) ?_ | with_reducible intro _)
      refine s_M_pinOf hm I.pI (by omega) (by omega) fun r' hr' => ?_
      have e := pAt.eq I.pI hr hr'
      have hr0 : r = -1 := by
        rcases hr with ⟨a, -⟩ | ⟨a, -, -, -⟩ <;> omega
      exact ⟨fun _ => ⟨rfl, I.fin (xA.ch hf) yA.rf I.2.2.2.2 6⟩, fun p => absurd (by omega) p⟩
theorem s_Pi_drop {X : z_X} {N : Nat} {σ g : z_G} {Q : z_P} {o : Nat} (ho : z_lay X N σ o z_SPi z_RPi) {k : Int} (hn : g o 3 ≤ 12) (hk : 0 ≤ k ∧ k < g o 3) (hq : ∀ g', g' o 3 = g o 3 - 1 → (∀ j : Nat, 1 ≤ j → j ≤ 3 → ∀ i : Int, i < g o 3 - 1 → g' (o + j) i = g (o + j) (if i < k then i else i + 1)) → (∀ c i, ¬ (c = o ∧ i = 3) → ¬ (o + 1 ≤ c ∧ c ≤ o + 3) → g' c i = g c i) → Q (g (o + 3) k) g') : z_O X 1 m_Pi_drop [(2, ((o : Nat) : Int)), (0, k)] N σ g Q := by
  refine b_Pi_drop_0 ho ⟨fun p => absurd p (by omega), fun _ => ⟨fun _ => ⟨by omega, ?_⟩, fun p => absurd hk.2 p⟩⟩
  have loop : ∀ (m : Nat) (x : Int) (g' : z_G), g o 3 ≤ x + 1 + m → k ≤ x → x < g o 3 → (∀ j : Nat, 1 ≤ j → j ≤ 3 → ∀ i : Int, g' (o + j) i = g (o + j) (if k ≤ i ∧ i < x then i + 1 else i)) → (∀ c i, ¬ (o + 1 ≤ c ∧ c ≤ o + 3) → g' c i = g c i) → L_Pi_drop_23 X N σ (g (o + 3) k) x o g' Q := by
    intro m
    induction m with
    | zero =>
      intro x g' k1 k2 k3 k4 k5
      have e := k5 o 3 (by omega)
      refine b_Pi_drop_23 ho ⟨by omega, fun _ => ⟨by omega, hq _ ?_ (fun j j1 j2 i i1 => ?_) (fun c i c1 c2 => ?_)⟩, fun p => absurd (by omega) p⟩
      · rw [z_u1, e]
      · rw [z_u2 (Or.inl (by omega)), k4 j j1 j2]
        by_cases c : i < k
        · rw [if_pos c, if_neg (by omega)]
        · rw [if_neg c, if_pos (by omega)]
      · rw [z_u2 (by omega), k5 c i c2]
    | succ m ih =>
      intro x g' k1 k2 k3 k4 k5
      by_cases c : g o 3 ≤ x + 1
      · exact ih x g' (by omega) k2 k3 k4 k5
      · have e := k5 o 3 (by omega)
        have v : ∀ j : Nat, 1 ≤ j → j ≤ 3 → g' (o + j) (x + 1) = g (o + j) (x + 1) := fun j j1 j2 => by rw [k4 j j1 j2, if_neg (by omega)]
        refine b_Pi_drop_23 ho ⟨by omega, fun p => absurd p (by omega), fun _ => ⟨by omega, by omega, ih (x + 1) _ (by omega) (by omega) (by omega) (fun j j1 j2 i => ?_) (fun c i c1 => ?_)⟩⟩
        · by_cases a : i = x
          · rw [a, if_pos (by omega)]
            rcases (show j = 1 ∨ j = 2 ∨ j = 3 by omega) with h | h | h
            · subst h; rw [z_u2 (Or.inl (by omega)), z_u2 (Or.inl (by omega)), z_u1, v 1 (by omega) (by omega)]
            · subst h; rw [z_u2 (Or.inl (by omega)), z_u1, v 2 (by omega) (by omega)]
            · subst h; rw [z_u1, v 3 (by omega) (by omega)]
          · rw [z_u2 (Or.inr a), z_u2 (Or.inr a), z_u2 (Or.inr a), k4 j j1 j2]
            by_cases b : k ≤ i ∧ i < x
            · rw [if_pos b, if_pos (by omega)]
            · rw [if_neg b, if_neg (by omega)]
        · rw [z_u2 (by omega), z_u2 (by omega), z_u2 (by omega), k5 c i c1]
  exact loop (g o 3).toNat k g (by omega) (by omega) hk.2 (fun j _ _ i => by rw [if_neg (by omega)]) (fun _ _ _ => rfl)
theorem s_M_lifts {X : z_X} {N : Nat} {σ gx g : z_G} {Q : z_P} (hm : z_lay X N σ 0 z_SM z_RM) (h : pI gx g) {t b : Int} (ht : 0 ≤ t) (hb : 1 ≤ b) (h0 : pAt g (t / Int.gcd t b) (b / Int.gcd t b) (-1) → Q (-1) g) (h1 : ∀ k : Int, 0 ≤ k → k < g 1 4 → pAt g (t / Int.gcd t b) (b / Int.gcd t b) k → ∀ g', g' 1 4 = g 1 4 - 1 → (∀ i : Int, 10 ≤ i → i < 10 + 3 * (g 1 4 - 1) → g' 1 i = g 1 (if i < 10 + 3 * k then i else i + 3)) → (∀ c i, ¬ (c = 1 ∧ (i = 4 ∨ (10 ≤ i ∧ i < 46))) → g' c i = g c i) → Q (g 1 (10 + 3 * k + 2)) g') : z_O X 3 m_M_lifts [(2, 0), (0, t), (0, b)] N σ g Q := by
  refine b_M_lifts_0 hm (s_M_pinOf hm h ht hb fun k hk => ?_)
  obtain ⟨p1, p2, p3, p4, p5⟩ := h
  refine ⟨fun e => by rw [e] at hk; exact h0 hk, fun e => ?_⟩
  have hk2 : 0 ≤ k ∧ k < g 1 4 := by
    rcases hk with ⟨a, -⟩ | ⟨a, b, -, -⟩ <;> omega
  refine ⟨by omega, by omega, by omega, by omega, by omega, ?_⟩
  have loop : ∀ (m : Nat) (x : Int) (g' : z_G), 10 + 3 * (g 1 4 - 1) ≤ x + m → 10 + 3 * k ≤ x → x ≤ 10 + 3 * (g 1 4 - 1) → g' 1 4 = g 1 4 - 1 → (∀ i : Int, 10 ≤ i → g' 1 i = g 1 (if 10 + 3 * k ≤ i ∧ i < x then i + 3 else i)) → (∀ c i, ¬ (c = 1 ∧ (i = 4 ∨ (10 ≤ i ∧ i < 46))) → g' c i = g c i) → L_M_lifts_37 X N σ (g 1 (10 + 3 * k + 2)) x g' Q := by
    intro m
    induction m with
    | zero =>
      intro x g' k1 k2 k3 k4 k5 k6
      refine b_M_lifts_37 hm ⟨by omega, by omega, fun _ => h1 k hk2.1 hk2.2 hk g' k4 (fun i i1 i2 => ?_) k6, fun p => absurd (by omega) p⟩
      rw [k5 i i1]
      by_cases c : i < 10 + 3 * k
      · rw [if_pos c, if_neg (by omega)]
      · rw [if_neg c, if_pos (by omega)]
    | succ m ih =>
      intro x g' k1 k2 k3 k4 k5 k6
      by_cases c : 10 + 3 * (g 1 4 - 1) ≤ x
      · exact ih x g' (by omega) k2 k3 k4 k5 k6
      · refine b_M_lifts_37 hm ⟨by omega, by omega, fun p => absurd p (by omega), fun _ => ⟨by omega, by omega, by omega, by omega, ih (x + 1) _ (by omega) (by omega) (by omega) (by rw [z_u2 (Or.inr (by omega))]; exact k4) (fun i i1 => ?_) (fun c i c1 => ?_)⟩⟩
        · by_cases a : i = x
          · rw [a, z_u1, k5 (x + 3) (by omega), if_neg (by omega), if_pos (by omega)]
          · rw [z_u2 (Or.inr a), k5 i i1]
            by_cases b : 10 + 3 * k ≤ i ∧ i < x
            · rw [if_pos b, if_pos (by omega)]
            · rw [if_neg b, if_neg (by omega)]
        · rw [z_u2 (by omega), k6 c i c1]
  refine loop 46 (10 + 3 * k) _ (by omega) (by omega) (by omega) z_u1 (fun i i1 => ?_) (fun c i c1 => ?_)
  · rw [z_u2 (Or.inr (by omega)), if_neg (by omega)]
  · rw [z_u2 (by omega)]

/-! the reference: what stays, and the tree's helpers -/
/-- what of the reference's heap is of the state -/
def mK (c : Nat) (i : Int) : Prop := (c = 0 ∧ (i = 1 ∨ i = 2 ∨ i = 3 ∨ i = 9 ∨ i = 15 ∨ i = 16 ∨ i = 35 ∨ i = 36 ∨ i = 40 ∨ i = 41)) ∨ c = 1 ∨ c = 2 ∨ c = 3 ∨ c = 4 ∨ c = 5 ∨ c = 15 ∨ c = 16 ∨ c = 17
/-- and the row that was laid -/
def mP (c : Nat) (i : Int) : Prop := mK c i ∨ c = 8 ∨ c = 9 ∨ (c = 0 ∧ (i = 24 ∨ i = 25))
def mE (g g' : z_G) : Prop := ∀ c i, mK c i → g' c i = g c i
def mS (g g' : z_G) : Prop := ∀ c i, mP c i → g' c i = g c i
theorem mS.rf {g : z_G} : mS g g := fun _ _ _ => rfl
theorem mE.rf {g : z_G} : mE g g := fun _ _ _ => rfl
theorem mS.e {g g' : z_G} (h : mS g g') : mE g g' := fun c i hk => h c i (Or.inl hk)
theorem mS.tr {g g' g'' : z_G} (h : mS g g') (h' : mS g' g'') : mS g g'' := fun c i hk => (h' c i hk).trans (h c i hk)
theorem mE.tr {g g' g'' : z_G} (h : mE g g') (h' : mE g' g'') : mE g g'' := fun c i hk => (h' c i hk).trans (h c i hk)
theorem mS.up {g g' : z_G} (h : mS g g') {c : Nat} {i v : Int} (hk : ¬ mP c i) : mS g (z_up g' c i v) := fun c' i' hk' => by
  unfold z_up
  split
  · rename_i q; rw [q.1, q.2] at hk'; exact absurd hk' hk
  · exact h c' i' hk'
theorem z_u1 {g : z_G} {c : Nat} {i v : Int} : z_up g c i v c i = v := by unfold z_up; simp
theorem z_u2 {g : z_G} {c c' : Nat} {i i' v : Int} (h : c' ≠ c ∨ i' ≠ i) : z_up g c i v c' i' = g c' i' := by
  unfold z_up; rw [if_neg (fun q => by omega)]
theorem s_M_common {X : z_X} {N : Nat} {σ g : z_G} {Q : z_P} {a b : Int} (ha : 0 ≤ a) (hb : 0 ≤ b) (hq : Q (Int.gcd a b) g) : z_O X 1 m_M_common [(0, a), (0, b)] N σ g Q := by
  refine b_M_common_0 ?_
  have key : ∀ (n : Nat) (x y : Int), y.toNat ≤ n → 0 ≤ x → 0 ≤ y → Q (Int.gcd x y) g → L_M_common_4 X N σ x y g Q := by
    intro n
    induction n with
    | zero =>
      intro x y hn hx hy hq
      refine b_M_common_4 ⟨fun e => ?_, fun e => absurd (by omega) e⟩
      rw [e, Int.gcd_zero_right] at hq
      rw [show ((x.natAbs : Nat) : Int) = x by omega] at hq
      exact hq
    | succ n ih =>
      intro x y hn hx hy hq
      refine b_M_common_4 ⟨fun e => ?_, fun e => ⟨by omega, ?_⟩⟩
      · rw [e, Int.gcd_zero_right] at hq
        rw [show ((x.natAbs : Nat) : Int) = x by omega] at hq
        exact hq
      · rw [n_tm hx]
        have h1 := Int.emod_nonneg x e
        have h2 := Int.emod_lt_of_pos x (show 0 < y by omega)
        exact ih y (x % y) (by omega) hy h1 (by rw [n_gcd_step hx (by omega)]; exact hq)
  exact key _ a b (Nat.le_refl _) ha hb hq
theorem s_M_tellsBy {X : z_X} {N : Nat} {σ g : z_G} {Q : z_P} (hx : z_lay X N σ 0 z_SM z_RM) {a b : Int} (ha : 0 ≤ a) (hb : 0 < b) (hq : Q 1 (z_up (z_up (z_up g 0 2 (a / Int.gcd a b)) 0 3 (b / Int.gcd a b)) 0 1 0)) : z_O X 2 m_M_tellsBy [(2, 0), (1, a), (1, b)] N σ g Q := by
  refine b_M_tellsBy_0 hx ?_
  have key : ∀ (n : Nat) (x y : Int), y.toNat ≤ n → 0 ≤ x → 0 ≤ y → Int.gcd x y = Int.gcd a b → L_M_tellsBy_6 X N σ a b x y g Q := by
    intro n
    have fin : ∀ x y : Int, 0 ≤ x → y = 0 → Int.gcd x y = Int.gcd a b → (0 < x) ∧ Q 1 (z_up (z_up (z_up g 0 2 (Int.tdiv a x)) 0 3 (Int.tdiv b x)) 0 1 0) := by
      intro x y hx0 e hg
      rw [e, Int.gcd_zero_right] at hg
      have hp : 0 < Int.gcd a b := Int.gcd_pos_of_ne_zero_right a (by omega)
      have ex : x = (Int.gcd a b : Int) := by omega
      refine ⟨by omega, ?_⟩
      rw [ex, n_td ha, n_td (Int.le_of_lt hb)]
      exact hq
    induction n with
    | zero =>
      intro x y hn hx0 hy hg
      refine b_M_tellsBy_6 hx ⟨fun e => fin x y hx0 e hg, fun e => absurd (by omega) e⟩
    | succ n ih =>
      intro x y hn hx0 hy hg
      refine b_M_tellsBy_6 hx ⟨fun e => fin x y hx0 e hg, fun e => ⟨by omega, ?_⟩⟩
      rw [n_tm hx0]
      have h1 := Int.emod_nonneg x e
      have h2 := Int.emod_lt_of_pos x (show 0 < y by omega)
      exact ih y (x % y) (by omega) hy h1 (by rw [n_gcd_step hx0 (by omega)]; exact hg)
  exact key _ a b (Nat.le_refl _) ha (Int.le_of_lt hb) rfl
/-- the terms -/
def n_cf (a b : Nat) : List Nat := if h : b = 0 then [] else a / b :: n_cf b (a % b)
termination_by b
decreasing_by exact Nat.mod_lt _ (Nat.pos_of_ne_zero h)
theorem n_cf_0 (a : Nat) : n_cf a 0 = [] := by unfold n_cf; simp
theorem n_cf_s {a b : Nat} (h : b ≠ 0) : n_cf a b = a / b :: n_cf b (a % b) := by
  conv => lhs; unfold n_cf
  simp [h]
theorem n_cf_len : ∀ (n a b : Nat), b ≤ n → (n_cf a b).length = n_K a b := by
  intro n
  induction n with
  | zero => intro a b h; rw [show b = 0 by omega, n_cf_0, n_K_0]; rfl
  | succ n ih =>
    intro a b h
    by_cases hb : b = 0
    · rw [hb, n_cf_0, n_K_0]; rfl
    · have := Nat.mod_lt a (Nat.pos_of_ne_zero hb)
      rw [n_cf_s hb, n_K_s hb, List.length_cons, ih b (a % b) (by omega)]; omega
theorem n_cf_sum : ∀ (n a b : Nat), b ≤ n → (n_cf a b).sum = n_E a b := by
  intro n
  induction n with
  | zero => intro a b h; rw [show b = 0 by omega, n_cf_0, n_E_0]; rfl
  | succ n ih =>
    intro a b h
    by_cases hb : b = 0
    · rw [hb, n_cf_0, n_E_0]; rfl
    · have := Nat.mod_lt a (Nat.pos_of_ne_zero hb)
      rw [n_cf_s hb, n_E_s hb, List.sum_cons, ih b (a % b) (by omega)]
theorem s_M_laysTerms {X : z_X} {N : Nat} {σ g : z_G} {Q : z_P} (hx : z_lay X N σ 0 z_SM z_RM) {t b : Int} (ht : 0 ≤ t) (hb : 1 ≤ b) (hb2 : b ≤ 9999) (hq : ∀ g', mS g g' → g' 0 27 = (n_cf t.toNat b.toNat).length → (∀ k : Nat, k < (n_cf t.toNat b.toNat).length → g' 10 k = ((n_cf t.toNat b.toNat)[k]?.getD 0 : Nat)) → (∀ i, i ≠ 27 → g' 0 i = g 0 i) → Q 0 g') : z_O X 1 m_M_laysTerms [(2, 0), (0, t), (0, b)] N σ g Q := by
  refine b_M_laysTerms_0 hx ⟨by omega, ?_⟩
  have hlen : (n_cf t.toNat b.toNat).length ≤ 28 := by
    rw [n_cf_len _ _ _ (Nat.le_refl _)]
    have := n_K_le 14 t.toNat b.toNat (by omega)
    omega
  generalize hL : n_cf t.toNat b.toNat = L at hq hlen
  have key : ∀ (n : Nat) (x y : Nat) (g' : z_G) (j : Nat), y ≤ n → j ≤ L.length → L.drop j = n_cf x y → mS g g' → g' 0 27 = j → (∀ k : Nat, k < j → g' 10 k = (L[k]?.getD 0 : Nat)) → (∀ i, i ≠ 27 → g' 0 i = g 0 i) → L_M_laysTerms_21 X N σ x y g' Q := by
    intro n
    induction n with
    | zero =>
      intro x y g' j hn hj hd hs h1 h2 h3
      refine b_M_laysTerms_21 hx ⟨fun _ => ?_, fun q => absurd (by omega) q⟩
      rw [show y = 0 by omega, n_cf_0] at hd
      have hjl : j = L.length := by
        have := congrArg List.length hd
        rw [List.length_drop, List.length_nil] at this
        omega
      subst hjl
      exact hq g' hs h1 h2 h3
    | succ n ih =>
      intro x y g' j hn hj hd hs h1 h2 h3
      refine b_M_laysTerms_21 hx ⟨fun q => ?_, fun q => ⟨by omega, by
        have hy : y ≠ 0 := by omega
        rw [n_cf_s hy] at hd
        have := congrArg List.length hd
        rw [List.length_drop, List.length_cons] at this
        omega, by omega, ?_⟩⟩
      · have hy : y = 0 := by omega
        rw [hy, n_cf_0] at hd
        have hjl : j = L.length := by
          have := congrArg List.length hd
          rw [List.length_drop, List.length_nil] at this
          omega
        subst hjl
        exact hq g' hs h1 h2 h3
      · have hy : y ≠ 0 := by omega
        rw [n_cf_s hy] at hd
        have hlt := congrArg List.length hd
        rw [List.length_drop, List.length_cons] at hlt
        have hjl : j < L.length := by omega
        rw [List.drop_eq_getElem_cons hjl] at hd
        obtain ⟨hd1, hd2⟩ := List.cons.inj hd
        rw [n_td (by omega), n_tm (by omega), h1]
        have e1 : ((x : Int) % (y : Int)) = ((x % y : Nat) : Int) := by omega
        have e2 : ((x : Int) / (y : Int)) = ((x / y : Nat) : Int) := by omega
        rw [e1, e2]
        have hm := Nat.mod_lt x (Nat.pos_of_ne_zero hy)
        refine ih y (x % y) _ (j + 1) (by omega) (by omega) hd2 ((hs.up (by unfold mP mK; omega)).up (by unfold mP mK; omega)) (by rw [z_u1]; omega) (fun k hk => ?_) (fun i hi => ?_)
        · rw [z_u2 (Or.inl (by omega))]
          by_cases hkj : k = j
          · subst hkj
            rw [z_u1, List.getElem?_eq_getElem hjl, hd1]; rfl
          · rw [z_u2 (Or.inr (by omega))]
            exact h2 k (by omega)
        · rw [z_u2 (Or.inr hi), z_u2 (Or.inl (by omega))]
          exact h3 i hi
  have hb0 : b.toNat ≠ 0 := by omega
  have hL2 := hL
  rw [n_cf_s hb0] at hL2
  rw [n_td ht, n_tm ht]
  have e1 : t % b = ((t.toNat % b.toNat : Nat) : Int) := by
    rw [Int.natCast_emod, Int.toNat_of_nonneg ht, Int.toNat_of_nonneg (by omega)]
  have e2 : t / b = ((t.toNat / b.toNat : Nat) : Int) := by
    rw [Int.natCast_ediv, Int.toNat_of_nonneg ht, Int.toNat_of_nonneg (by omega)]
  rw [e1, e2, show b = ((b.toNat : Nat) : Int) by omega]
  refine key _ _ _ _ 1 (Nat.le_refl _) (by rw [← hL2]; simp) (by rw [← hL2]; rfl) ((mS.rf.up (by unfold mP mK; omega)).up (by unfold mP mK; omega)) (by rw [z_u1]; rfl) (fun k hk => ?_) (fun i hi => ?_)
  · rw [show k = 0 by omega, z_u2 (Or.inl (by omega)), ← hL2]
    show z_up g 10 0 _ 10 0 = _
    rw [z_u1]; rfl
  · rw [z_u2 (Or.inr hi), z_u2 (Or.inl (by omega))]
theorem n_cf_le : ∀ (n a b : Nat), b ≤ n → ∀ q ∈ n_cf a b, q ≤ a ∨ q ≤ b := by
  intro n
  induction n with
  | zero => intro a b h; rw [show b = 0 by omega, n_cf_0]; intro q hq; cases hq
  | succ n ih =>
    intro a b h
    by_cases hb : b = 0
    · rw [hb, n_cf_0]; intro q hq; cases hq
    · have hm := Nat.mod_lt a (Nat.pos_of_ne_zero hb)
      rw [n_cf_s hb]
      intro q hq
      rcases List.mem_cons.mp hq with rfl | hq
      · exact Or.inl (Nat.div_le_self a b)
      · rcases ih b (a % b) (by omega) q hq with h1 | h1 <;> omega
theorem n_take_sum (L : List Nat) {j : Nat} (hj : j < L.length) : (L.take (j + 1)).sum = (L.take j).sum + L[j]?.getD 0 := by
  rw [List.take_succ, List.sum_append, List.getElem?_eq_getElem hj]; simp
theorem n_take_le {L : List Nat} {m : Nat} (h : ∀ q ∈ L, q ≤ m) : ∀ j, (L.take j).sum ≤ j * m := by
  intro j
  induction j with
  | zero => simp
  | succ j ih =>
    by_cases hj : j < L.length
    · rw [n_take_sum L hj, List.getElem?_eq_getElem hj]
      have := h _ (List.getElem_mem hj)
      simp only [Option.getD_some]
      rw [Nat.add_mul]; omega
    · rw [List.take_of_length_le (by omega)]
      rw [List.take_of_length_le (by omega)] at ih
      rw [Nat.add_mul]; omega
theorem s_M_depthOf {X : z_X} {N : Nat} {σ g : z_G} {Q : z_P} (hx : z_lay X N σ 0 z_SM z_RM) {t b : Int} (ht : 0 < t) (hb : t < b) (hb2 : b ≤ 9999) (hq : ∀ g', mS g g' → (∀ i, i ≠ 27 → g' 0 i = g 0 i) → Q (n_D t b) g') : z_O X 2 m_M_depthOf [(2, 0), (0, t), (0, b)] N σ g Q := by
  refine b_M_depthOf_0 hx (s_M_laysTerms hx (by omega) (by omega) hb2 fun g' hs h1 h2 h3 => ?_)
  have hlen : (n_cf t.toNat b.toNat).length ≤ 28 := by
    rw [n_cf_len _ _ _ (Nat.le_refl _)]
    have := n_K_le 14 t.toNat b.toNat (by omega)
    omega
  have hle : ∀ q ∈ n_cf t.toNat b.toNat, q ≤ 9999 := fun q hq => by
    rcases n_cf_le _ _ _ (Nat.le_refl _) q hq with h | h <;> omega
  have hsum : (n_cf t.toNat b.toNat).sum = n_E t.toNat b.toNat := n_cf_sum _ _ _ (Nat.le_refl _)
  have hhead : ∃ q L', n_cf t.toNat b.toNat = 0 :: q :: L' := by
    rw [n_cf_s (by omega), n_cf_s (b := t.toNat % b.toNat) (by rw [Nat.mod_eq_of_lt (by omega)]; omega)]
    exact ⟨_, _, by rw [Nat.div_eq_of_lt (by omega)]⟩
  unfold n_D at hq
  rw [← hsum] at hq
  generalize n_cf t.toNat b.toNat = L at *
  have hm2 : 2 ≤ L.length := by obtain ⟨q, L', e⟩ := hhead; rw [e]; simp
  have hL0 : (L.take 1).sum = 0 := by obtain ⟨q, L', e⟩ := hhead; rw [e]; rfl
  have key : ∀ (n j : Nat) (x : Int), L.length ≤ j + n → 1 ≤ j → j ≤ L.length → x = ((L.take j).sum : Int) - (if 1 < j then 1 else 0) - (if j = L.length then 1 else 0) → L_M_depthOf_11 X N σ x j g' Q := by
    intro n
    induction n with
    | zero =>
      intro j x hn hj1 hj2 hxx
      refine b_M_depthOf_11 hx ⟨fun _ => ?_, fun q => absurd (by omega) q⟩
      have : j = L.length := by omega
      subst this
      rw [if_pos (by omega), if_pos rfl, List.take_length] at hxx
      rw [hxx, show (L.sum : Int) - 1 - 1 = (L.sum : Int) - 2 by omega]
      exact hq g' hs h3
    | succ n ih =>
      intro j x hn hj1 hj2 hxx
      by_cases hj : j = L.length
      · refine b_M_depthOf_11 hx ⟨fun _ => ?_, fun q => absurd (by omega) q⟩
        subst hj
        rw [if_pos (by omega), if_pos rfl, List.take_length] at hxx
        rw [hxx, show (L.sum : Int) - 1 - 1 = (L.sum : Int) - 2 by omega]
        exact hq g' hs h3
      · have hjl : j < L.length := by omega
        have e1 := n_take_sum L hjl
        have e2 := h2 j hjl
        have b1 := n_take_le hle j
        have b2 : L[j]?.getD 0 ≤ 9999 := by rw [List.getElem?_eq_getElem hjl]; exact hle _ (List.getElem_mem hjl)
        generalize L[j]?.getD 0 = a at e1 e2 b2
        have b3 : j * 9999 ≤ 28 * 9999 := Nat.mul_le_mul_right _ (by omega)
        rw [if_neg hj] at hxx
        refine b_M_depthOf_11 hx ⟨fun q => absurd q (by omega), fun _ => ⟨by omega, ?_⟩⟩
        rw [e2, h1]
        have fin : ∀ y : Int, y = ((L.take (j + 1)).sum : Int) - 1 - (if j + 1 = L.length then 1 else 0) → L_M_depthOf_11 X N σ y ((j : Int) + 1) g' Q := fun y hy => ih (j + 1) y (by omega) (by omega) (by omega) (by rw [hy, if_pos (show 1 < j + 1 by omega)])
        by_cases c1 : j = 1
        · rw [if_neg (by omega)] at hxx
          refine ⟨fun _ => ⟨by omega, by omega, fun c2 => ⟨by omega, by omega, by omega, fin _ (by rw [if_pos (by omega)]; omega)⟩, fun c2 => ⟨by omega, by omega, by omega, fin _ (by rw [if_neg (by omega)]; omega)⟩⟩, fun q => absurd (by omega) q⟩
        · rw [if_pos (by omega)] at hxx
          refine ⟨fun q => absurd q (by omega), fun _ => ⟨by omega, by omega, fun c2 => ⟨by omega, by omega, by omega, fin _ (by rw [if_pos (by omega)]; omega)⟩, fun c2 => ⟨by omega, by omega, by omega, fin _ (by rw [if_neg (by omega)]; omega)⟩⟩⟩
  exact key L.length 1 0 (by omega) (by omega) (by omega) (by rw [hL0, if_neg (by omega), if_neg (by omega)]; rfl)
theorem s_M_findsChild {X : z_X} {N : Nat} {σ g : z_G} {Q : z_P} (hx : z_lay X N σ 0 z_SM z_RM) {lt lb ht hb turn : Int} (hs : n_sp lt lb ht hb) (hb9 : lb + hb ≤ 9999) (htn : turn = 0 ∨ turn = 1) (hq : Q 0 (if turn = 0 then z_up (z_up g 0 28 (lt + ht + lt)) 0 29 (lb + hb + lb) else z_up (z_up g 0 28 (lt + ht + ht)) 0 29 (lb + hb + hb))) : z_O X 1 m_M_findsChild [(2, 0), (0, lt + ht), (0, lb + hb), (0, turn)] N σ g Q := by
  refine b_M_findsChild_0 hx ?_
  have hs' := hs
  obtain ⟨g1, g2, g3, g4, g5, g6⟩ := hs'
  have e : (lt + ht) * lb = 1 + lt * (lb + hb) := by rw [Int.add_mul, Int.mul_add]; omega
  have key : ∀ (n : Nat) (l : Int), (lb - l).toNat ≤ n → 1 ≤ l → l ≤ lb → L_M_findsChild_3 X N σ (lt + ht) (lb + hb) turn l g Q := by
    intro n
    have pos : ∀ l : Int, 1 ≤ l → l ≤ lb → 0 ≤ (lt + ht) * l ∧ (lt + ht) * l ≤ 9999 * 9999 := fun l h1 h2 =>
      ⟨Int.mul_nonneg (by omega) (by omega), by
        have k1 : (lt + ht) * l ≤ 9999 * l := Int.mul_le_mul_of_nonneg_right (by omega) (by omega)
        have k2 : 9999 * l ≤ 9999 * 9999 := by omega
        omega⟩
    have fin : ∀ l : Int, l = lb → L_M_findsChild_3 X N σ (lt + ht) (lb + hb) turn l g Q := by
      intro l hl
      subst hl
      have p := pos l g3 (Int.le_refl _)
      have p0 : 0 ≤ lt * (l + hb) := Int.mul_nonneg g1 (by omega)
      refine b_M_findsChild_3 hx ⟨by omega, by omega, fun _ => ⟨by omega, ?_⟩, fun q => absurd ?_ q⟩
      · have d : Int.tdiv ((lt + ht) * l - 1) (l + hb) = lt := by
          rw [n_td (by omega), show (lt + ht) * l - 1 = lt * (l + hb) by omega, Int.mul_ediv_cancel _ (by omega)]
        rw [d]
        refine ⟨fun c => ⟨by omega, by omega, ?_⟩, fun c => ⟨by omega, by omega, by omega, by omega, ?_⟩⟩
        · rw [if_pos c] at hq; exact hq
        · rw [if_neg c] at hq
          rw [show 2 * (lt + ht) - lt = lt + ht + ht by omega, show 2 * (l + hb) - l = l + hb + hb by omega]
          exact hq
      · rw [n_tm (by omega), e, Int.add_mul_emod_self_right, Int.emod_eq_of_lt (by omega) (by omega)]
    induction n with
    | zero => intro l hn h1 h2; exact fin l (by omega)
    | succ n ih =>
      intro l hn h1 h2
      by_cases hl : l = lb
      · exact fin l hl
      · have p := pos l h1 h2
        refine b_M_findsChild_3 hx ⟨by omega, by omega, fun q => ?_, fun _ => ⟨by omega, ih (l + 1) (by omega) (by omega) (by omega)⟩⟩
        exfalso
        rw [n_tm p.1] at q
        have h9 := Int.mul_ediv_add_emod ((lt + ht) * l) (lb + hb)
        rw [q] at h9
        have := n_inv hs h1 (by omega) (k := (lt + ht) * l / (lb + hb)) (by rw [Int.mul_comm (lb + hb)] at h9; omega)
        omega
  exact key _ 1 (Nat.le_refl _) (by omega) (by omega)

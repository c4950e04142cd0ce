/-! the class's Chain -/
/-- a chain at cell o that tells t by b: lowest terms, terms, the fraction ahead -/
def cCh (g : z_G) (o : Nat) (t b : Int) : Prop :=
  g o 1 = (n_cf t.toNat b.toNat).length ∧ (n_cf t.toNat b.toNat).length ≤ 28 ∧ (∀ k : Nat, k < (n_cf t.toNat b.toNat).length → g (o + 1) k = ((n_cf t.toNat b.toNat)[k]?.getD 0 : Nat)) ∧ g o 2 = (n_E t.toNat b.toNat : Int) ∧ g o 3 = t / Int.gcd t b ∧ g o 4 = b / Int.gcd t b
  ∧ 0 ≤ g o 5 ∧ 0 ≤ g o 6 ∧ g o 5 ≤ t + 1 ∧ g o 6 ≤ g o 4 ∧ (g o 3 * g o 6 - g o 5 * g o 4 = 1 ∨ g o 3 * g o 6 - g o 5 * g o 4 = -1)
theorem s_Ch_addTerm {X : z_X} {N : Nat} {σ g : z_G} {Q : z_P} {o : Nat} (ho : z_lay X N σ o z_SCh z_RCh) {a : Int} (h1 : 0 ≤ g o 1 ∧ g o 1 < 32) (ha : 0 ≤ a ∧ a ≤ 9999) (h2 : 0 ≤ g o 2 ∧ g o 2 ≤ 1000000) (h3 : 0 ≤ a * g o 3 ∧ a * g o 3 ≤ 1000000) (h4 : 0 ≤ a * g o 4 ∧ a * g o 4 ≤ 1000000) (h5 : 0 ≤ g o 5 ∧ g o 5 ≤ 1000000) (h6 : 0 ≤ g o 6 ∧ g o 6 ≤ 1000000)
    (hq : ∀ g', g' o 1 = g o 1 + 1 → g' (o + 1) (g o 1) = a → (∀ i, i ≠ g o 1 → g' (o + 1) i = g (o + 1) i) → g' o 2 = g o 2 + a → g' o 5 = g o 3 → g' o 6 = g o 4 → g' o 3 = a * g o 3 + g o 5 → g' o 4 = a * g o 4 + g o 6 → (∀ c i, c ≠ o → c ≠ o + 1 → g' c i = g c i) → Q 0 g') : z_O X 1 m_Ch_addTerm [(2, ((o : Nat) : Int)), (0, a)] N σ g Q := by
  refine b_Ch_addTerm_0 ho ⟨fun q => absurd q (by omega), fun _ => ⟨by omega, by omega, by omega, by omega, by omega, by omega, by omega, ?_⟩⟩
  refine hq _ ?_ ?_ (fun i hi => ?_) ?_ ?_ ?_ ?_ ?_ (fun c i c1 c2 => ?_)
  · simp [z_up]
  · simp [z_up]
  · simp [z_up, hi]
  · simp [z_up]
  · simp [z_up]
  · simp [z_up]
  · simp [z_up]
  · simp [z_up]
  · simp [z_up, c1, c2]
theorem n_bd {a b c : Int} (ha : 1 ≤ a) (hb : 0 ≤ b) (hc : b * a ≤ c) : b ≤ c := by
  have := Int.mul_le_mul_of_nonneg_left ha hb
  omega
theorem s_Ch_unfold {X : z_X} {N : Nat} {σ g : z_G} {Q : z_P} {o : Nat} (ho : z_lay X N σ o z_SCh z_RCh) {t b : Int} (ht : 0 ≤ t ∧ t ≤ b) (hb : 1 ≤ b ∧ b ≤ 9999) (hq : ∀ g', cCh g' o t b → (∀ c i, c ≠ o → c ≠ o + 1 → g' c i = g c i) → Q 0 g') : z_O X 2 m_Ch_unfold [(2, ((o : Nat) : Int)), (0, t), (0, b)] N σ g Q := by
  refine b_Ch_unfold_0 ho ?_
  have hlen : (n_cf t.toNat b.toNat).length ≤ 28 := by
    rw [n_cf_len _ _ _ (Nat.le_refl _)]
    have := n_K_le 14 t.toNat b.toNat (by omega)
    omega
  have hle : ∀ q ∈ n_cf t.toNat b.toNat, q ≤ 9999 := fun q hq => by
    rcases n_cf_le _ _ _ (Nat.le_refl _) q hq with h | h <;> omega
  have hsum : (n_cf t.toNat b.toNat).sum = n_E t.toNat b.toNat := n_cf_sum _ _ _ (Nat.le_refl _)
  generalize hL : n_cf t.toNat b.toNat = L at hlen hle hsum
  have key : ∀ (n : Nat) (x y : Nat) (g' : z_G) (j : Nat), y ≤ n → j ≤ L.length → L.drop j = n_cf x y → Int.gcd x y = Int.gcd t b → (∀ c i, c ≠ o → c ≠ o + 1 → g' c i = g c i) → g' o 1 = j → (∀ k : Nat, k < j → g' (o + 1) k = (L[k]?.getD 0 : Nat)) → g' o 2 = ((L.take j).sum : Int)
      → 0 ≤ g' o 3 → 0 ≤ g' o 4 → 0 ≤ g' o 5 → 0 ≤ g' o 6 → t = g' o 3 * x + g' o 5 * y → b = g' o 4 * x + g' o 6 * y → (j = 0 ∧ g' o 4 = 0 ∧ g' o 6 = 1 ∧ g' o 3 = 1 ∧ g' o 5 = 0 ∧ (x : Int) = t ∧ (y : Int) = b ∨ 1 ≤ j ∧ g' o 6 ≤ g' o 4 ∧ 1 ≤ g' o 4 ∧ y < x ∧ g' o 5 ≤ t + 1) → (g' o 3 * g' o 6 - g' o 5 * g' o 4 = 1 ∨ g' o 3 * g' o 6 - g' o 5 * g' o 4 = -1) → L_Ch_unfold_35 X N σ x y o g' Q := by
    intro n
    have fin : ∀ (x : Nat) (g' : z_G) (j : Nat), L.drop j = n_cf x 0 → Int.gcd x 0 = Int.gcd t b → j ≤ L.length → (∀ c i, c ≠ o → c ≠ o + 1 → g' c i = g c i) → g' o 1 = j → (∀ k : Nat, k < j → g' (o + 1) k = (L[k]?.getD 0 : Nat)) → g' o 2 = ((L.take j).sum : Int) → 0 ≤ g' o 5 → 0 ≤ g' o 6 → t = g' o 3 * x + g' o 5 * (0 : Nat) → b = g' o 4 * x + g' o 6 * (0 : Nat) → (j = 0 ∧ g' o 4 = 0 ∧ g' o 6 = 1 ∧ g' o 3 = 1 ∧ g' o 5 = 0 ∧ (x : Int) = t ∧ ((0 : Nat) : Int) = b ∨ 1 ≤ j ∧ g' o 6 ≤ g' o 4 ∧ 1 ≤ g' o 4 ∧ 0 < x ∧ g' o 5 ≤ t + 1) → (g' o 3 * g' o 6 - g' o 5 * g' o 4 = 1 ∨ g' o 3 * g' o 6 - g' o 5 * g' o 4 = -1) → Q 0 g' := by
      intro x g' j hd hg hj hfr h1 h2 h3 h5 h6 et eb hc hdet
      rw [n_cf_0] at hd
      have hjl : j = L.length := by
        have := congrArg List.length hd
        rw [List.length_drop, List.length_nil] at this
        omega
      rcases hc with hc | hc
      · omega
      · rw [Int.gcd_zero_right] at hg
        have hx : ((Int.gcd t b : Nat) : Int) = (x : Int) := by rw [← hg]; omega
        rw [Int.natCast_zero, Int.mul_zero, Int.add_zero] at et eb
        refine hq g' ?_ hfr
        unfold cCh
        rw [hL, ← hsum, hx]
        refine ⟨by rw [h1, hjl], hlen, fun k hk => h2 k (by omega), by rw [h3, hjl, List.take_length], ?_, ?_, h5, h6, hc.2.2.2.2, hc.2.1, hdet⟩
        · rw [et, Int.mul_ediv_cancel _ (by omega)]
        · rw [eb, Int.mul_ediv_cancel _ (by omega)]
    induction n with
    | zero =>
      intro x y g' j hn hj hd hg hfr h1 h2 h3 p3 p4 p5 p6 et eb hc hdet
      have hy : y = 0 := by omega
      subst hy
      refine b_Ch_unfold_35 ho ⟨fun _ => fin x g' j hd hg hj hfr h1 h2 h3 p5 p6 et eb hc hdet, fun _ => ⟨fun _ => fin x g' j hd hg hj hfr h1 h2 h3 p5 p6 et eb hc hdet, fun q => absurd rfl q⟩⟩
    | succ n ih =>
      intro x y g' j hn hj hd hg hfr h1 h2 h3 p3 p4 p5 p6 et eb hc hdet
      by_cases hy : y = 0
      · subst hy
        refine b_Ch_unfold_35 ho ⟨fun _ => fin x g' j hd hg hj hfr h1 h2 h3 p5 p6 et eb hc hdet, fun _ => ⟨fun _ => fin x g' j hd hg hj hfr h1 h2 h3 p5 p6 et eb hc hdet, fun q => absurd rfl q⟩⟩
      · refine b_Ch_unfold_35 ho ⟨fun q => absurd q (by omega), fun _ => ⟨fun q => absurd q (by omega), fun _ => ⟨by omega, ?_⟩⟩⟩
        rw [n_cf_s hy] at hd
        have hlt := congrArg List.length hd
        rw [List.length_drop, List.length_cons] at hlt
        have hjl : j < L.length := by omega
        have hd' := hd
        rw [List.drop_eq_getElem_cons hjl] at hd'
        obtain ⟨hd1, hd2⟩ := List.cons.inj hd'
        have ets := n_take_sum L hjl
        rw [List.getElem?_eq_getElem hjl, hd1] at ets
        have hm := Nat.mod_lt x (Nat.pos_of_ne_zero hy)
        have hdm := Nat.div_add_mod x y
        have hw9 : x / y ≤ 9999 := by rw [← hd1]; exact hle _ (List.getElem_mem hjl)
        rw [n_td (by omega), n_tm (by omega)]
        have e1 : ((x : Int) % (y : Int)) = ((x % y : Nat) : Int) := by omega
        have e2 : ((x : Int) / (y : Int)) = ((x / y : Nat) : Int) := by omega
        rw [e1, e2]
        have ex : (x : Int) = ((x / y : Nat) : Int) * (y : Int) + ((x % y : Nat) : Int) := by rw [← Int.natCast_mul, ← Int.natCast_add, Nat.mul_comm]; omega
        have hg2 : Int.gcd (y : Int) ((x % y : Nat) : Int) = Int.gcd t b := by rw [← hg, ← e1]; exact n_gcd_step (by omega) (by omega)
        generalize hw : x / y = w at *
        generalize hr : x % y = r at *
        -- products
        have m1 : g' o 3 * (x : Int) = (w : Int) * g' o 3 * (y : Int) + g' o 3 * (r : Int) := by rw [ex, Int.mul_add, ← Int.mul_assoc, Int.mul_comm (g' o 3) (w : Int)]
        have m2 : g' o 4 * (x : Int) = (w : Int) * g' o 4 * (y : Int) + g' o 4 * (r : Int) := by rw [ex, Int.mul_add, ← Int.mul_assoc, Int.mul_comm (g' o 4) (w : Int)]
        have q3 : 0 ≤ (w : Int) * g' o 3 := Int.mul_nonneg (by omega) p3
        have q4 : 0 ≤ (w : Int) * g' o 4 := Int.mul_nonneg (by omega) p4
        have k3 : 0 ≤ g' o 3 * (r : Int) := Int.mul_nonneg p3 (by omega)
        have k4 : 0 ≤ g' o 4 * (r : Int) := Int.mul_nonneg p4 (by omega)
        have k5 : 0 ≤ g' o 5 * (y : Int) := Int.mul_nonneg p5 (by omega)
        have k6 : 0 ≤ g' o 6 * (y : Int) := Int.mul_nonneg p6 (by omega)
        have l3 : (w : Int) * g' o 3 ≤ t := n_bd (a := (y : Int)) (by omega) q3 (by omega)
        have l4 : (w : Int) * g' o 4 ≤ b := n_bd (a := (y : Int)) (by omega) q4 (by omega)
        have l5 : g' o 5 ≤ t := n_bd (a := (y : Int)) (by omega) p5 (by have := Int.mul_nonneg p3 (show (0 : Int) ≤ (x : Int) by omega); omega)
        have l6 : g' o 6 ≤ b := n_bd (a := (y : Int)) (by omega) p6 (by have := Int.mul_nonneg p4 (show (0 : Int) ≤ (x : Int) by omega); omega)
        have hs9 := n_take_le hle j
        have hs8 : j * 9999 ≤ 28 * 9999 := Nat.mul_le_mul_right _ (by omega)
        refine s_Ch_addTerm ho (by omega) (by omega) (by omega) (by omega) (by omega) (by omega) (by omega) fun g2 a1 a2 a3 a4 a5 a6 a7 a8 a9 => ?_
        have l9 : g' o 3 ≤ t + 1 := by
          rcases hc with hc | hc
          · omega
          · have := n_bd (a := (x : Int)) (b := g' o 3) (c := t) (by omega) p3 (by omega)
            omega
        refine ih y r g2 (j + 1) (by omega) (by omega) hd2 hg2 (fun c i c1 c2 => by rw [a9 c i c1 c2]; exact hfr c i c1 c2) (by rw [a1, h1]; omega) (fun k hk => ?_) (by rw [a4, h3, ets]; simp) (by rw [a7]; omega) (by rw [a8]; omega) (by rw [a5]; exact p3) (by rw [a6]; exact p4) ?_ ?_ (Or.inr ⟨by omega, ?_, ?_, by omega, by rw [a5]; exact l9⟩) ?_
        · by_cases hkj : k = j
          · subst hkj
            rw [h1] at a2
            rw [a2, List.getElem?_eq_getElem hjl, hd1]; rfl
          · rw [a3 k (by omega)]; exact h2 k (by omega)
        · rw [a7, a5, Int.add_mul]; omega
        · rw [a8, a6, Int.add_mul]; omega
        · rw [a6, a8]
          rcases hc with hc | hc
          · omega
          · have w1 : 1 ≤ w := by
              rw [← hw]
              exact (Nat.le_div_iff_mul_le (Nat.pos_of_ne_zero hy)).mpr (by omega)
            have := Int.mul_le_mul_of_nonneg_right (show (1 : Int) ≤ (w : Int) by omega) p4
            omega
        · rw [a8]
          rcases hc with hc | hc
          · omega
          · have w1 : 1 ≤ w := by
              rw [← hw]
              exact (Nat.le_div_iff_mul_le (Nat.pos_of_ne_zero hy)).mpr (by omega)
            have := Int.mul_le_mul_of_nonneg_right (show (1 : Int) ≤ (w : Int) by omega) p4
            omega
        · rw [a7, a6, a5, a8]
          have z1 : ((w : Int) * g' o 3 + g' o 5) * g' o 4 = (w : Int) * (g' o 3 * g' o 4) + g' o 5 * g' o 4 := by rw [Int.add_mul, Int.mul_assoc]
          have z2 : g' o 3 * ((w : Int) * g' o 4 + g' o 6) = (w : Int) * (g' o 3 * g' o 4) + g' o 3 * g' o 6 := by rw [Int.mul_add, ← Int.mul_assoc, Int.mul_comm (g' o 3) (w : Int), Int.mul_assoc]
          rw [z1, z2]
          omega
  rw [show t = ((t.toNat : Nat) : Int) by omega, show b = ((b.toNat : Nat) : Int) by omega]
  refine key _ _ _ _ 0 (Nat.le_refl _) (by omega) (by rw [← hL]; rfl) (by rw [show ((t.toNat : Nat) : Int) = t by omega, show ((b.toNat : Nat) : Int) = b by omega]) (fun c i c1 c2 => by simp [z_up, c1]) (by simp [z_up]) (fun k hk => by omega) (by simp [z_up]) (by simp [z_up]) (by simp [z_up]) (by simp [z_up]) (by simp [z_up]) (by simp [z_up]; omega) (by simp [z_up]; omega) (Or.inl (by simp [z_up]; omega)) (Or.inl (by simp [z_up]))
theorem s_Ch_take {X : z_X} {N : Nat} {σ g : z_G} {Q : z_P} {o : Nat} (ho : z_lay X N σ o z_SCh z_RCh) {t b : Int} (h0 : ¬ (1 ≤ b ∧ b ≤ 9999 ∧ 0 ≤ t ∧ t ≤ b) → Q 0 g) (h1 : 1 ≤ b ∧ b ≤ 9999 ∧ 0 ≤ t ∧ t ≤ b → ∀ g', cCh g' o t b → (∀ c i, c ≠ o → c ≠ o + 1 → g' c i = g c i) → Q 1 g') : z_O X 3 m_Ch_take [(2, ((o : Nat) : Int)), (0, t), (0, b)] N σ g Q := by
  refine b_Ch_take_0 ho ?_
  repeat' (first | refine And.intro (by omega) ?_ | refine And.intro (fun _ => ?_) (fun q => absurd (by omega) q) | refine And.intro (fun q => absurd q (by omega)) (fun _ => ?_) | refine And.intro (fun _ => ?_) (fun _ => ?_) | refine And.intro (fun q => absurd q (by omega)) ?_ | refine And.intro (fun _ => ?_) ?_ | with_reducible intro _)
  · exact h0 (by omega)
  · exact h0 (by omega)
  · exact h0 (by omega)
  · exact h0 (by omega)
  · exact s_Ch_unfold ho (by omega) (by omega) (h1 (by omega))

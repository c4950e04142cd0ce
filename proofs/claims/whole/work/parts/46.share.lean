/-! ## weights up to a value, share -/
def pW (gm : z_G) (t b : Int) : Nat → Int
  | 0 => 0
  | n + 1 => pW gm t b n + (if t * gm 1 (10 + 3 * (n : Int) + 1) < gm 1 (10 + 3 * (n : Int)) * b then 0 else gm 1 (10 + 3 * (n : Int) + 2))
theorem pW_le {gx gm : z_G} (h : pI gx gm) (t b : Int) : ∀ n : Nat, (n : Int) ≤ gm 1 4 → 0 ≤ pW gm t b n ∧ pW gm t b n ≤ 999 * n
  | 0, _ => by unfold pW; omega
  | n + 1, hn => by
    have ih := pW_le h t b n (by omega)
    have := h.2.2.2.1 n (by omega) (by omega)
    unfold pW
    split <;> omega
theorem pW_scale (gm : z_G) {t b c : Int} (hc : 0 < c) : ∀ n : Nat, pW gm (c * t) (c * b) n = pW gm t b n
  | 0 => rfl
  | n + 1 => by
    unfold pW
    rw [pW_scale gm hc n]
    have e : (c * t * gm 1 (10 + 3 * (n : Int) + 1) < gm 1 (10 + 3 * (n : Int)) * (c * b)) ↔ (t * gm 1 (10 + 3 * (n : Int) + 1) < gm 1 (10 + 3 * (n : Int)) * b) := by
      rw [Int.mul_assoc, Int.mul_left_comm (gm 1 (10 + 3 * (n : Int))) c b]
      exact ⟨fun q => Int.lt_of_mul_lt_mul_left q (by omega), fun q => Int.mul_lt_mul_of_pos_left q hc⟩
    by_cases c1 : t * gm 1 (10 + 3 * (n : Int) + 1) < gm 1 (10 + 3 * (n : Int)) * b
    · rw [if_pos c1, if_pos (e.mpr c1)]
    · rw [if_neg c1, if_neg (fun q => c1 (e.mp q))]
theorem pW_red (gm : z_G) {t b : Int} (hb : 1 ≤ b) (n : Nat) : pW gm (t / Int.gcd t b) (b / Int.gcd t b) n = pW gm t b n := by
  have hp : 0 < Int.gcd t b := Int.gcd_pos_of_ne_zero_right t (by omega)
  obtain ⟨y, hy⟩ := Int.gcd_dvd_right t b
  obtain ⟨x, hx⟩ := Int.gcd_dvd_left t b
  generalize Int.gcd t b = c at *
  rw [show t / (c : Int) = x by rw [hx]; exact Int.mul_ediv_cancel_left x (by omega), show b / (c : Int) = y by rw [hy]; exact Int.mul_ediv_cancel_left y (by omega), hx, hy, pW_scale gm (by omega)]
theorem pW_all {gx gm : z_G} (h : pI gx gm) : ∀ n : Nat, (n : Int) ≤ gm 1 4 → (n : Int) ≤ pW gm 1 1 n
  | 0, _ => by unfold pW; omega
  | n + 1, hn => by
    have ih := pW_all h n (by omega)
    have := h.2.2.2.1 n (by omega) (by omega)
    unfold pW
    have v := this.2.2.2.1
    unfold iVal at v
    rw [Int.one_mul, Int.mul_one, if_neg (by omega)]
    omega
theorem n_mb {u v : Int} (u1 : 0 ≤ u) (u2 : u ≤ 9999) (v1 : 0 ≤ v) (v2 : v ≤ 9999) : 0 ≤ u * v ∧ u * v ≤ 99980001 := by
  have a1 : u * v ≤ 9999 * v := Int.mul_le_mul_of_nonneg_right u2 v1
  have a2 : 0 ≤ u * v := Int.mul_nonneg u1 v1
  omega
theorem s_F_weightUpTo {X : z_X} {N : Nat} {σ gx g gm : z_G} {Q : z_P} (hx : z_lay X N σ 0 z_SF z_RF) (h : pI gx gm) (hf : ∀ c i, c ≠ 18 → c ≠ 18 + 1 → g c i = gx c i) {T B : Int} (hT : 0 ≤ T ∧ T ≤ 9999) (hB : 0 ≤ B ∧ B ≤ 9999) (hq : Q (pW gm T B (gm 1 4).toNat) g) : z_O X 2 m_Pi_weightUpTo [(2, 25), (0, T), (0, B)] N σ g Q := by
  have hle := pW_le h T B
  obtain ⟨p1, p2, p3, p4, p5⟩ := h
  have e : g 25 3 = gm 1 4 := by rw [hf 25 3 (by omega) (by omega)]; exact p1
  refine b_Pi_weightUpTo_0 (o := 25) (ky_F_25 hx) ?_
  have loop : ∀ (m n : Nat), gm 1 4 ≤ (n : Int) + m → (n : Int) ≤ gm 1 4 → L_Pi_weightUpTo_5 X N σ T B (pW gm T B n) n 25 g Q := by
    intro m
    induction m with
    | zero =>
      intro n k1 k2
      have : n = (gm 1 4).toNat := by omega
      subst this
      exact b_Pi_weightUpTo_5 (o := 25) (ky_F_25 hx) ⟨fun _ => hq, fun p => absurd (by omega) p⟩
    | succ m ih =>
      intro n k1 k2
      by_cases c : gm 1 4 ≤ (n : Int)
      · exact ih n (by omega) k2
      · have i1 := ih (n + 1) (by omega) (by omega)
        have l := hle n (by omega)
        obtain ⟨q1, q2, q3, q4, q5⟩ := p4 n (by omega) (by omega)
        obtain ⟨v1, v2, v3, v4, -⟩ := q4
        have f1 : g (25 + 1) n = gm 1 (10 + 3 * (n : Int)) := by rw [hf _ _ (by omega) (by omega)]; exact q1
        have f2 : g (25 + 2) n = gm 1 (10 + 3 * (n : Int) + 1) := by rw [hf _ _ (by omega) (by omega)]; exact q2
        have f3 : g (25 + 3) n = gm 1 (10 + 3 * (n : Int) + 2) := by rw [hf _ _ (by omega) (by omega)]; exact q3
        have b1 := n_mb (u := gm 1 (10 + 3 * (n : Int))) (v := B) (by omega) (by omega) (by omega) (by omega)
        have b2 := n_mb (u := T) (v := gm 1 (10 + 3 * (n : Int) + 1)) (by omega) (by omega) (by omega) (by omega)
        refine b_Pi_weightUpTo_5 (o := 25) (ky_F_25 hx) ⟨fun p => absurd p (by omega), fun _ => ?_⟩
        rw [f1, f2, f3]
        unfold pW at i1
        refine ⟨by omega, by omega, by omega, by omega, fun p => ⟨by omega, ?_⟩, fun p => ⟨by omega, by omega, ?_⟩⟩
        · rw [if_pos (by omega), Int.add_zero] at i1; exact i1
        · rw [if_neg (by omega)] at i1; exact i1
  exact loop (gm 1 4).toNat 0 (by omega) (by omega)
theorem s_M_weightTo {X : z_X} {N : Nat} {σ gx g : z_G} {Q : z_P} (hm : z_lay X N σ 0 z_SM z_RM) (h : pI gx g) {T B : Int} (hT : 0 ≤ T ∧ T ≤ 9999) (hB : 0 ≤ B ∧ B ≤ 9999) (hq : Q (pW g T B (g 1 4).toNat) g) : z_O X 3 m_M_weightTo [(2, 0), (0, T), (0, B)] N σ g Q := by
  have hle := pW_le h T B
  obtain ⟨p1, p2, p3, p4, p5⟩ := h
  refine b_M_weightTo_0 hm ?_
  have loop : ∀ (m n : Nat), g 1 4 ≤ (n : Int) + m → (n : Int) ≤ g 1 4 → L_M_weightTo_5 X N σ T B (pW g T B n) n g Q := by
    intro m
    induction m with
    | zero =>
      intro n k1 k2
      have : n = (g 1 4).toNat := by omega
      subst this
      exact b_M_weightTo_5 hm ⟨fun _ => hq, fun p => absurd (by omega) p⟩
    | succ m ih =>
      intro n k1 k2
      by_cases c : g 1 4 ≤ (n : Int)
      · exact ih n (by omega) k2
      · have i1 := ih (n + 1) (by omega) (by omega)
        have l := hle n (by omega)
        obtain ⟨q1, q2, q3, q4, q5⟩ := p4 n (by omega) (by omega)
        obtain ⟨v1, v2, v3, v4, -⟩ := q4
        have b1 := n_mb (u := g 1 (10 + 3 * (n : Int))) (v := B) (by omega) (by omega) (by omega) (by omega)
        have b2 := n_mb (u := T) (v := g 1 (10 + 3 * (n : Int) + 1)) (by omega) (by omega) (by omega) (by omega)
        unfold pW at i1
        refine b_M_weightTo_5 hm ⟨fun p => absurd p c, fun _ => ⟨by omega, by omega, by omega, by omega, by omega, by omega, by omega, fun p => ⟨by omega, by omega, ?_⟩, fun p => ⟨by omega, by omega, by omega, by omega, ?_⟩⟩⟩
        · rw [if_pos p] at i1; exact i1
        · rw [if_neg p] at i1; exact i1
  exact loop (g 1 4).toNat 0 (by omega) (by omega)
theorem o_share {X Y : z_X} {N K : Nat} {σ τ gx gm : z_G} (hx : z_lay X N σ 0 z_SF z_RF) (hm : z_lay Y K τ 0 z_SM z_RM) (I : Inv gx gm) {a1 a2 : Int} (r1 : -2147483648 ≤ a1 ∧ a1 ≤ 2147483647) (r2 : -2147483648 ≤ a2 ∧ a2 ≤ 2147483647) : z_O X 4 m_F_share [(2, 0), (0, a1), (0, a2)] N σ gx (fun r gx' => z_O Y 4 m_M_share [(2, 0), (0, a1), (0, a2)] K τ gm (fun r' gm' => r' = r ∧ Inv gx' gm')) := by
  refine b_F_share_0 hx (s_Ch_take (ky_F_18 hx) (fun q => ?_) (fun q g' hc hf => ?_))
  · refine fun _ => ⟨fun _ => b_M_share_0 hm ?_, fun e => absurd rfl e⟩
    repeat' (first | refine And.intro (by omega) ?_ | refine And.intro (fun _ => ?_) (fun q => absurd (by omega) q) | refine And.intro (fun q => absurd q (by omega)) (fun _ => ?_) | refine And.intro (fun _ => ?_) (fun _ => ?_) | refine And.intro (fun q => absurd q (by omega)) ?_ | refine And.intro (fun _ => ?_) ?_ | with_reducible intro _)
    all_goals first | exact I.fin xA.rf yA.rf I.2.2.2.2 1 | (exfalso; omega)
  · refine fun _ => ⟨fun e => absurd e (by omega), fun _ => ?_⟩
    rw [show g' 18 3 = a1 / Int.gcd a1 a2 from hc.2.2.2.2.1, show g' 18 4 = a2 / Int.gcd a1 a2 from hc.2.2.2.2.2.1]
    have hn := I.pI.2.2.1
    have hn0 := I.pI.2.1
    have e25 : g' 25 3 = gm 1 4 := by rw [hf 25 3 (by omega) (by omega)]; exact I.pI.1
    have hv := n_red q
    obtain ⟨v1, v2, v3, v4, -⟩ := hv
    refine ⟨fun z => b_M_share_0 hm ?_, fun z => ?_⟩
    · repeat' (first | refine And.intro (by omega) ?_ | refine And.intro (fun _ => ?_) (fun q => absurd (by omega) q) | refine And.intro (fun q => absurd q (by omega)) (fun _ => ?_) | refine And.intro (fun _ => ?_) (fun _ => ?_) | refine And.intro (fun q => absurd q (by omega)) ?_ | refine And.intro (fun _ => ?_) ?_ | with_reducible intro _)
      all_goals first | exact I.fin (xA.ch hf) yA.rf I.2.2.2.2 6 | (exfalso; omega)
    · have l1 := pW_le I.pI a1 a2 (gm 1 4).toNat (by omega)
      have l2 := pW_le I.pI 1 1 (gm 1 4).toNat (by omega)
      have l3 := pW_all I.pI (gm 1 4).toNat (by omega)
      refine s_F_weightUpTo hx I.pI hf (by omega) (by omega) ?_
      rw [pW_red gm (by omega)]
      refine b_Pi_weightOfAll_0 (o := 25) (ky_F_25 hx) (s_F_weightUpTo hx I.pI hf (by omega) (by omega) ?_)
      refine s_F_tell hx (by omega) (by omega) (by omega) fun _ => b_M_share_0 hm ?_
      repeat' (first | refine And.intro (by omega) ?_ | refine And.intro (fun _ => ?_) (fun q => absurd (by omega) q) | refine And.intro (fun q => absurd q (by omega)) (fun _ => ?_) | refine And.intro (fun _ => ?_) (fun _ => ?_) | refine And.intro (fun q => absurd q (by omega)) ?_ | refine And.intro (fun _ => ?_) ?_ | with_reducible intro _)
      refine s_M_weightTo hm I.pI (by omega) (by omega) (s_M_weightTo hm I.pI (by omega) (by omega) ?_)
      exact s_M_tellsBy hm (by omega) (by omega) fun _ => ⟨rfl, I.tell (xA.ch hf) yA.rf I.2.2.2.2 _ _⟩

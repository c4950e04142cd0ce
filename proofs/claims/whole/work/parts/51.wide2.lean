/-! ## wide: both -/
theorem n_wide {t b t' b' : Int} (hb : 1 ≤ b) (hb' : 1 ≤ b') : t' * b - t * b' = (Int.gcd t b : Int) * ((Int.gcd t' b' : Int) * (t' / Int.gcd t' b' * (b / Int.gcd t b) - t / Int.gcd t b * (b' / Int.gcd t' b'))) := by
  have hp : 0 < Int.gcd t b := Int.gcd_pos_of_ne_zero_right t (by omega)
  have hp' : 0 < Int.gcd t' b' := Int.gcd_pos_of_ne_zero_right t' (by omega)
  obtain ⟨y, hy⟩ := Int.gcd_dvd_right t b
  obtain ⟨x, hx⟩ := Int.gcd_dvd_left t b
  obtain ⟨y', hy'⟩ := Int.gcd_dvd_right t' b'
  obtain ⟨x', hx'⟩ := Int.gcd_dvd_left t' b'
  generalize Int.gcd t b = c at *
  generalize Int.gcd t' b' = d at *
  rw [show t / (c : Int) = x by rw [hx]; exact Int.mul_ediv_cancel_left x (by omega), show b / (c : Int) = y by rw [hy]; exact Int.mul_ediv_cancel_left y (by omega), show t' / (d : Int) = x' by rw [hx']; exact Int.mul_ediv_cancel_left x' (by omega), show b' / (d : Int) = y' by rw [hy']; exact Int.mul_ediv_cancel_left y' (by omega)]
  rw [hx, hy, hx', hy', Int.mul_sub, Int.mul_sub]
  congr 1
  · rw [Int.mul_assoc, Int.mul_left_comm x' c y, Int.mul_left_comm d c]
  · rw [Int.mul_assoc, Int.mul_left_comm x d y']
theorem n_wdiv {c d Y Z : Int} (hc : 0 < c) (hd : 0 < d) (hZ : Z = c * (d * Y)) (h0 : 0 ≤ Z) : Int.tdiv (Int.tdiv Z c) d = Y ∧ Int.tdiv (Int.tdiv Z d) c = Y := by
  have e1 : Z / c = d * Y := by rw [hZ]; exact Int.mul_ediv_cancel_left _ (by omega)
  have e2 : Z / d = c * Y := by rw [hZ, Int.mul_left_comm]; exact Int.mul_ediv_cancel_left _ (by omega)
  have n1 : 0 ≤ Z / c := Int.ediv_nonneg h0 (by omega)
  have n2 : 0 ≤ Z / d := Int.ediv_nonneg h0 (by omega)
  rw [n_td h0, n_td n1, e1, n_td h0, n_td n2, e2]
  exact ⟨Int.mul_ediv_cancel_left _ (by omega), Int.mul_ediv_cancel_left _ (by omega)⟩
theorem o_wide {X Y : z_X} {N K : Nat} {σ τ gx gm : z_G} (hx : z_lay X N σ 0 z_SF z_RF) (hm : z_lay Y K τ 0 z_SM z_RM) (I : Inv gx gm) {a1 a2 a3 a4 : Int} (r1 : -2147483648 ≤ a1 ∧ a1 ≤ 2147483647) (r2 : -2147483648 ≤ a2 ∧ a2 ≤ 2147483647) (r3 : -2147483648 ≤ a3 ∧ a3 ≤ 2147483647) (r4 : -2147483648 ≤ a4 ∧ a4 ≤ 2147483647) : z_O X 4 m_F_wide [(2, 0), (0, a1), (0, a2), (0, a3), (0, a4)] N σ gx (fun r gx' => z_O Y 2 m_M_wide [(2, 0), (0, a1), (0, a2), (0, a3), (0, a4)] K τ gm (fun r' gm' => r' = r ∧ Inv gx' gm')) := by
  refine b_F_wide_0 hx (s_F_takeRising hx (fun q => ?_) (fun q g' c1 c2 hf => ?_))
  · refine fun _ => ⟨fun _ => b_M_wide_0 hm ?_, fun e => absurd rfl e⟩
    have b1 : (1 ≤ a2 ∧ a2 ≤ 9999 ∧ 0 ≤ a1 ∧ a1 ≤ a2 ∧ 1 ≤ a4 ∧ a4 ≤ 9999 ∧ 0 ≤ a3 ∧ a3 ≤ a4) → False := q
    have F : (-1 : Int) = -1 ∧ Inv (z_up gx 0 0 1) (z_up gm 0 1 1) := ⟨rfl, I.fin xA.rf yA.rf I.2.2.2.2 1⟩
    exact ⟨fun _ => F, fun _ => ⟨fun _ => F, fun _ => ⟨fun _ => F, fun _ => ⟨fun _ => F, fun _ => ⟨fun _ => F, fun _ => ⟨fun _ => F, fun _ => ⟨fun _ => F, fun _ => ⟨fun _ => F, fun _ => by exfalso; omega⟩⟩⟩⟩⟩⟩⟩⟩
  · refine fun _ => ⟨fun e => absurd e (by omega), fun _ => ?_⟩
    have m1 := n_mb (u := a1) (v := a4) (by omega) (by omega) (by omega) (by omega)
    have m2 := n_mb (u := a3) (v := a2) (by omega) (by omega) (by omega) (by omega)
    have hp : (0 : Int) < Int.gcd a1 a2 := by
      have : 0 < Int.gcd a1 a2 := Int.gcd_pos_of_ne_zero_right a1 (by omega)
      omega
    have hp' : (0 : Int) < Int.gcd a3 a4 := by
      have : 0 < Int.gcd a3 a4 := Int.gcd_pos_of_ne_zero_right a3 (by omega)
      omega
    have r1 := n_red (t := a1) (b := a2) (by omega)
    have r2 := n_red (t := a3) (b := a4) (by omega)
    obtain ⟨v1, v2, v3, v4, -⟩ := r1
    obtain ⟨w1, w2, w3, w4, -⟩ := r2
    have n1 := n_mb (u := a1 / Int.gcd a1 a2) (v := a4 / Int.gcd a3 a4) (by omega) (by omega) (by omega) (by omega)
    have n2 := n_mb (u := a3 / Int.gcd a3 a4) (v := a2 / Int.gcd a1 a2) (by omega) (by omega) (by omega) (by omega)
    have hA : xA gx g' := fun c i hk => hf c i (by unfold xK at hk; omega)
    by_cases c : 0 < a1 * a4 - a3 * a2
    · obtain ⟨d1, d2⟩ := c1 c
      rw [show g' 18 3 = a3 / Int.gcd a3 a4 from d1.2.2.2.2.1, show g' 18 4 = a4 / Int.gcd a3 a4 from d1.2.2.2.2.2.1, show g' 20 3 = a1 / Int.gcd a1 a2 from d2.2.2.2.2.1, show g' 20 4 = a2 / Int.gcd a1 a2 from d2.2.2.2.2.2.1]
      refine ⟨by omega, by omega, by omega, by omega, b_M_wide_0 hm ?_⟩
      have e := (n_wdiv hp' hp (n_wide (t := a3) (b := a4) (t' := a1) (b' := a2) (by omega) (by omega)) (by omega)).2
      repeat' (first | refine And.intro (by omega) ?_ | refine And.intro (fun _ => ?_) (fun q => absurd (by omega) q) | refine And.intro (fun q => absurd q (by omega)) (fun _ => ?_) | refine And.intro (fun _ => ?_) (fun _ => ?_) | refine And.intro (fun q => absurd q (by omega)) ?_ | refine And.intro (fun _ => ?_) ?_ | with_reducible intro _)
      all_goals first | (refine s_M_common (by omega) (by omega) ⟨by omega, s_M_common (by omega) (by omega) ⟨by omega, e, I.fin hA yA.rf I.2.2.2.2 0⟩⟩) | (exfalso; omega)
    · obtain ⟨d1, d2⟩ := c2 c
      rw [show g' 18 3 = a1 / Int.gcd a1 a2 from d1.2.2.2.2.1, show g' 18 4 = a2 / Int.gcd a1 a2 from d1.2.2.2.2.2.1, show g' 20 3 = a3 / Int.gcd a3 a4 from d2.2.2.2.2.1, show g' 20 4 = a4 / Int.gcd a3 a4 from d2.2.2.2.2.2.1]
      refine ⟨by omega, by omega, by omega, by omega, b_M_wide_0 hm ?_⟩
      have e := (n_wdiv hp hp' (n_wide (t := a1) (b := a2) (t' := a3) (b' := a4) (by omega) (by omega)) (by omega)).1
      have z : a1 * a4 - a3 * a2 = 0 → a3 * a2 - a1 * a4 = a1 * a4 - a3 * a2 := by omega
      have z2 : -(a1 * a4 - a3 * a2) = a3 * a2 - a1 * a4 := by omega
      rw [z2]
      repeat' (first | refine And.intro (by omega) ?_ | refine And.intro (fun _ => ?_) (fun q => absurd (by omega) q) | refine And.intro (fun q => absurd q (by omega)) (fun _ => ?_) | refine And.intro (fun _ => ?_) (fun _ => ?_) | refine And.intro (fun q => absurd q (by omega)) ?_ | refine And.intro (fun _ => ?_) ?_ | with_reducible intro _)
      all_goals first | (refine s_M_common (by omega) (by omega) ⟨by omega, s_M_common (by omega) (by omega) ⟨by omega, e, I.fin hA yA.rf I.2.2.2.2 0⟩⟩) | (rw [← z (by omega)]; refine s_M_common (by omega) (by omega) ⟨by omega, s_M_common (by omega) (by omega) ⟨by omega, e, I.fin hA yA.rf I.2.2.2.2 0⟩⟩) | (exfalso; omega)

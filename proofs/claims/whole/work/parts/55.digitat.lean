/-! ## digitAt -/
theorem n_mp (x b : Int) : ∀ n : Nat, (x % b) ^ n % b = x ^ n % b
  | 0 => by rw [Int.pow_zero, Int.pow_zero]
  | n + 1 => by rw [Int.pow_succ, Int.pow_succ, Int.mul_emod, n_mp x b n, Int.emod_emod_of_dvd _ (Int.dvd_refl b), ← Int.mul_emod]
theorem n_sq (s : Int) : ∀ n : Nat, (s * s) ^ n = s ^ (2 * n)
  | 0 => by rw [Int.pow_zero, Nat.mul_zero, Int.pow_zero]
  | n + 1 => by rw [Int.pow_succ, n_sq s n, show 2 * (n + 1) = 2 * n + 1 + 1 by omega, Int.pow_succ, Int.pow_succ, Int.mul_assoc]
theorem n_shr {v s : Int} (hv : 0 ≤ v ∧ v ≤ 2147483647) (hs : 0 ≤ s ∧ s < 31) : Int32.toInt (Int32.ofInt v >>> (Int32.ofInt s &&& 31)) = v / 2 ^ s.toNat := by
  have fin : ∀ k : Nat, k < 31 → ((Int32.ofInt (k : Int) &&& 31).toBitVec.smod 32).toNat = k := by decide
  have h := fin s.toNat (by omega)
  rw [show ((s.toNat : Nat) : Int) = s by omega] at h
  rw [pk_shr _ _ s.toNat h, z_i (by omega), Int.shiftRight_eq_div_pow]
  simp
theorem n_and1 {v : Int} (hv : 0 ≤ v ∧ v ≤ 2147483647) : Int32.toInt (Int32.ofInt v &&& Int32.ofInt 1) = v % 2 := by
  rw [show Int32.ofInt 1 = (1 : Int32) from by decide, pk_and _ (m := 1) 1 (by decide), Int32.toBitVec_ofInt, BitVec.toNat_ofInt]
  rw [nI_toInt (by omega), Int.natCast_emod, Int.toNat_of_nonneg (Int.emod_nonneg _ (by decide))]
  omega
theorem s_F_restOf {X : z_X} {N : Nat} {σ g : z_G} {Q : z_P} {t k b : Int} (ht : 0 ≤ t ∧ t ≤ 9999) (hk : 0 ≤ k ∧ k ≤ 9999) (hb : 1 ≤ b ∧ b ≤ 9999) (hq : Q (t * 10 ^ k.toNat % b) g) : z_O X 1 m_F_restOf [(0, t), (0, k), (0, b)] N σ g Q := by
  refine b_F_restOf_0 ⟨fun _ => ⟨by omega, ?_⟩, fun q => absurd hb.1 q⟩
  rw [n_tm (by omega), n_tm (by omega)]
  have loop : ∀ (m : Nat) (x7 r s : Int), 31 ≤ x7 + m → 0 ≤ x7 → x7 ≤ 31 → 0 ≤ r → r < b → 0 ≤ s → s < b → (r * s ^ (k / 2 ^ x7.toNat).toNat) % b = t * 10 ^ k.toNat % b → L_F_restOf_22 X N σ k b r s x7 g Q := by
    intro m
    have fin : ∀ (x7 r s : Int), x7 = 31 → 0 ≤ r → r < b → (r * s ^ (k / 2 ^ x7.toNat).toNat) % b = t * 10 ^ k.toNat % b → L_F_restOf_22 X N σ k b r s x7 g Q := by
      intro x7 r s h1 h2 h3 h4
      refine b_F_restOf_22 ⟨fun _ => ⟨by omega, ?_⟩, fun q => absurd (by omega) q⟩
      have e : (k / 2 ^ x7.toNat).toNat = 0 := by
        rw [h1]
        show (k / 2147483648).toNat = 0
        omega
      rw [e, Int.pow_zero, Int.mul_one, Int.emod_eq_of_lt h2 h3] at h4
      rw [h4]; exact hq
    induction m with
    | zero => exact fun x7 r s h1 h2 h3 h4 h5 h6 h7 h8 => fin x7 r s (by omega) h4 h5 h8
    | succ m ih =>
      intro x7 r s h1 h2 h3 h4 h5 h6 h7 h8
      by_cases c : x7 = 31
      · exact fin x7 r s c h4 h5 h8
      · have b1 := n_mb (u := r) (v := s) (by omega) (by omega) (by omega) (by omega)
        have b2 := n_mb (u := s) (v := s) (by omega) (by omega) (by omega) (by omega)
        have b3 : 0 ≤ r * s := Int.mul_nonneg h4 h6
        have b4 : 0 ≤ s * s := Int.mul_nonneg h6 h6
        have hp2 : (0 : Int) < 2 ^ x7.toNat := Int.pow_pos (by omega)
        have hd0 : 0 ≤ k / 2 ^ x7.toNat := Int.ediv_nonneg (by omega) (by omega)
        have hd1 : k / 2 ^ x7.toNat ≤ k := Int.ediv_le_self _ (by omega)
        have hd2 : k / 2 ^ (x7 + 1).toNat = k / 2 ^ x7.toNat / 2 := by
          rw [show (x7 + 1).toNat = x7.toNat + 1 by omega, Int.pow_succ, ← Int.ediv_ediv_of_nonneg (by omega)]
        have ev : Int32.toInt (Int32.ofInt (Int32.toInt (Int32.ofInt k >>> (Int32.ofInt x7 &&& 31))) &&& Int32.ofInt 1) = k / 2 ^ x7.toNat % 2 := by
          rw [n_shr (by omega) (by omega)]; exact n_and1 (by omega)
        generalize k / 2 ^ x7.toNat = d at *
        have m1 := Int.emod_nonneg (r * s) (show b ≠ 0 by omega)
        have m2 := Int.emod_lt_of_pos (r * s) (show 0 < b by omega)
        have m3 := Int.emod_nonneg (s * s) (show b ≠ 0 by omega)
        have m4 := Int.emod_lt_of_pos (s * s) (show 0 < b by omega)
        have hsq : ∀ (n : Nat), (s * s % b) ^ n % b = s ^ (2 * n) % b := fun n => by
          rw [n_mp, n_sq]
        refine b_F_restOf_22 ⟨fun q => absurd q (by omega), fun _ => ⟨fun q => ?_, fun q => ?_⟩⟩
        · rw [ev] at q
          refine ⟨by omega, by omega, by omega, by omega, ?_⟩
          rw [n_tm b3, n_tm b4]
          refine ih _ _ _ (by omega) (by omega) (by omega) m1 m2 m3 m4 ?_
          rw [hd2, ← h8, Int.mul_emod, Int.emod_emod_of_dvd _ (Int.dvd_refl b), hsq, ← Int.mul_emod, Int.mul_assoc, ← Int.pow_succ']
          congr 3; omega
        · rw [ev] at q
          refine ⟨by omega, by omega, by omega, ?_⟩
          rw [n_tm b4]
          refine ih _ _ _ (by omega) (by omega) (by omega) h4 h5 m3 m4 ?_
          rw [hd2, ← h8, Int.mul_emod, hsq, ← Int.mul_emod]
          congr 3; omega
  have m1 := Int.emod_nonneg t (show b ≠ 0 by omega)
  have m2 := Int.emod_lt_of_pos t (show 0 < b by omega)
  have m3 := Int.emod_nonneg 10 (show b ≠ 0 by omega)
  have m4 := Int.emod_lt_of_pos 10 (show 0 < b by omega)
  refine loop 31 0 _ _ (by omega) (by omega) (by omega) m1 m2 m3 m4 ?_
  rw [show (k / 2 ^ (0 : Int).toNat).toNat = k.toNat by simp, Int.mul_emod, Int.emod_emod_of_dvd _ (Int.dvd_refl b), n_mp, ← Int.mul_emod]
theorem o_digitAt {X Y : z_X} {N K : Nat} {σ τ gx gm : z_G} (hx : z_lay X N σ 0 z_SF z_RF) (hm : z_lay Y K τ 0 z_SM z_RM) (I : Inv gx gm) {a1 a2 a3 : Int} (r1 : -2147483648 ≤ a1 ∧ a1 ≤ 2147483647) (r2 : -2147483648 ≤ a2 ∧ a2 ≤ 2147483647) (r3 : -2147483648 ≤ a3 ∧ a3 ≤ 2147483647) : z_O X 4 m_F_digitAt [(2, 0), (0, a1), (0, a2), (0, a3)] N σ gx (fun r gx' => z_O Y 2 m_M_digitAt [(2, 0), (0, a1), (0, a2), (0, a3)] K τ gm (fun r' gm' => r' = r ∧ Inv gx' gm')) := by
  have bad : ¬ (0 ≤ a3 ∧ a3 ≤ 9999 ∧ 1 ≤ a2 ∧ a2 ≤ 9999 ∧ 0 ≤ a1 ∧ a1 ≤ a2) → z_O Y 2 m_M_digitAt [(2, 0), (0, a1), (0, a2), (0, a3)] K τ gm (fun r' gm' => r' = -1 ∧ Inv (z_up gx 0 0 1) gm') := by
    intro hb
    refine b_M_digitAt_0 hm ?_
    repeat' (first | refine And.intro (by omega) ?_ | refine And.intro (fun _ => ?_) (fun q => absurd (by omega) q) | refine And.intro (fun q => absurd q (by omega)) (fun _ => ?_) | refine And.intro (fun _ => ?_) (fun _ => ?_) | refine And.intro (fun q => absurd q (by omega)) ?_ | refine And.intro (fun _ => ?_) ?_ | with_reducible intro _)
    all_goals first | exact I.fin xA.rf yA.rf I.2.2.2.2 1 | (exfalso; omega)
  refine b_F_digitAt_0 hx ⟨fun c => bad (by omega), fun c => ⟨fun c2 => bad (by omega), fun c2 => s_Ch_take (ky_F_18 hx) (fun q => ?_) (fun q g' hc hf => ?_)⟩⟩
  · exact fun _ => ⟨fun _ => bad (by omega), fun e => absurd rfl e⟩
  refine fun _ => ⟨fun e => absurd e (by omega), fun _ => ?_⟩
  have e3 : g' 18 3 = a1 / Int.gcd a1 a2 := hc.2.2.2.2.1
  have e4 : g' 18 4 = a2 / Int.gcd a1 a2 := hc.2.2.2.2.2.1
  have hp : 0 < Int.gcd a1 a2 := Int.gcd_pos_of_ne_zero_right a1 (by omega)
  obtain ⟨v1, v2, v3, v4, -⟩ := n_red q
  have d1 : a1 = Int.gcd a1 a2 * (a1 / Int.gcd a1 a2) := (Int.mul_ediv_cancel' (Int.gcd_dvd_left a1 a2)).symm
  have d2 : a2 = Int.gcd a1 a2 * (a2 / Int.gcd a1 a2) := (Int.mul_ediv_cancel' (Int.gcd_dvd_right a1 a2)).symm
  rw [e3, e4]
  refine s_F_restOf (by omega) (by omega) (by omega) ?_
  rw [e4]
  have m1 := Int.emod_nonneg (a1 / Int.gcd a1 a2 * 10 ^ a3.toNat) (show (a2 / Int.gcd a1 a2 : Int) ≠ 0 by omega)
  have m2 := Int.emod_lt_of_pos (a1 / Int.gcd a1 a2 * 10 ^ a3.toNat) (show (0 : Int) < a2 / Int.gcd a1 a2 by omega)
  refine ⟨fun _ => ⟨by omega, by omega, b_M_digitAt_0 hm ?_⟩, fun p => absurd v3 p⟩
  repeat' (first | refine And.intro (by omega) ?_ | refine And.intro (fun _ => ?_) (fun q => absurd (by omega) q) | refine And.intro (fun q => absurd q (by omega)) (fun _ => ?_) | refine And.intro (fun _ => ?_) (fun _ => ?_) | refine And.intro (fun q => absurd q (by omega)) ?_ | refine And.intro (fun _ => ?_) ?_ | with_reducible intro _)
  rw [n_tm (by omega)]
  have hr : ∀ x : Nat, a1 * 10 ^ x % a2 = Int.gcd a1 a2 * (a1 / Int.gcd a1 a2 * 10 ^ x % (a2 / Int.gcd a1 a2)) := fun x => by
    rw [← Int.mul_emod_mul_of_pos _ _ (show (0 : Int) < Int.gcd a1 a2 by omega), ← Int.mul_assoc, ← d1, ← d2]
  have loop : ∀ (m x : Nat), a3 ≤ x + m → (x : Int) ≤ a3 → L_M_digitAt_34 Y K τ a2 a3 (a1 * 10 ^ x % a2) x gm (fun r' gm' => r' = Int.tdiv (a1 / Int.gcd a1 a2 * 10 ^ a3.toNat % (a2 / Int.gcd a1 a2) * 10) (a2 / Int.gcd a1 a2) ∧ Inv (z_up g' 0 0 0) gm') := by
    intro m
    have fin : ∀ x : Nat, a3 = x → L_M_digitAt_34 Y K τ a2 a3 (a1 * 10 ^ x % a2) x gm (fun r' gm' => r' = Int.tdiv (a1 / Int.gcd a1 a2 * 10 ^ a3.toNat % (a2 / Int.gcd a1 a2) * 10) (a2 / Int.gcd a1 a2) ∧ Inv (z_up g' 0 0 0) gm') := by
      intro x h
      have n1 := Int.emod_nonneg (a1 * 10 ^ x) (show a2 ≠ 0 by omega)
      have n2 := Int.emod_lt_of_pos (a1 * 10 ^ x) (show 0 < a2 by omega)
      refine b_M_digitAt_34 hm ⟨fun _ => ⟨by omega, by omega, ?_, I.fin (xA.ch hf) yA.rf I.2.2.2.2 0⟩, fun p => absurd (by omega) p⟩
      rw [n_td (by omega), n_td (by omega), hr x, show a3.toNat = x by omega]
      generalize a1 / (Int.gcd a1 a2 : Int) * 10 ^ x % (a2 / Int.gcd a1 a2) = y
      have key : ∀ c B A : Int, 0 < c → A = c * B → 10 * (c * y) / A = y * 10 / B := fun c B A h1 h2 => by rw [h2, Int.mul_left_comm, Int.mul_comm y 10]; exact Int.mul_ediv_mul_of_pos _ _ h1
      exact key _ _ _ (by omega) d2
    induction m with
    | zero => exact fun x h1 h2 => fin x (by omega)
    | succ m ih =>
      intro x h1 h2
      by_cases c : a3 = x
      · exact fin x c
      · have n1 := Int.emod_nonneg (a1 * 10 ^ x) (show a2 ≠ 0 by omega)
        have n2 := Int.emod_lt_of_pos (a1 * 10 ^ x) (show 0 < a2 by omega)
        refine b_M_digitAt_34 hm ⟨fun p => absurd p (by omega), fun _ => ⟨by omega, by omega, by omega, ?_⟩⟩
        rw [n_tm (by omega)]
        have := ih (x + 1) (by omega) (by omega)
        have e : 10 * (a1 * 10 ^ x % a2) % a2 = a1 * 10 ^ (x + 1) % a2 := by
          rw [Int.pow_succ, ← Int.mul_assoc, Int.mul_comm _ 10, Int.mul_emod, Int.emod_emod_of_dvd _ (Int.dvd_refl a2), ← Int.mul_emod]
        rw [e]; exact this
  have := loop a3.toNat 0 (by omega) (by omega)
  rw [Int.pow_zero, Int.mul_one] at this
  exact this

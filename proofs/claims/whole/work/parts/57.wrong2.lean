/-! ## wrong: both -/
theorem o_wrong {X Y : z_X} {N K : Nat} {σ τ gx gm : z_G} (hx : z_lay X N σ 0 z_SF z_RF) (hm : z_lay Y K τ 0 z_SM z_RM) (I : Inv gx gm) {a1 a2 : Int} (r1 : -2147483648 ≤ a1 ∧ a1 ≤ 2147483647) (r2 : -2147483648 ≤ a2 ∧ a2 ≤ 2147483647) : z_O X 3 m_F_wrong [(2, 0), (0, a1), (0, a2)] N σ gx (fun r gx' => z_O Y 3 m_M_wrong [(2, 0), (0, a1), (0, a2)] K τ gm (fun r' gm' => r' = r ∧ Inv gx' gm')) := by
  have hO := I.2.2.2.1.2.2.2.2.2.2.1.1
  have o1 : gx 23 1 = gm 1 0 := hO.2.2.2.1
  have o2 : 0 ≤ gm 1 0 ∧ gm 1 0 ≤ 16 := hO.2.2.2.2
  have bad : ¬ (0 ≤ a1 ∧ a1 ≤ 12 ∧ 0 ≤ a2 ∧ a2 ≤ 12) → z_O Y 3 m_M_wrong [(2, 0), (0, a1), (0, a2)] K τ gm (fun r' gm' => r' = 0 ∧ Inv (z_up gx 0 0 1) gm') := by
    intro hb
    refine b_M_wrong_0 hm ?_
    repeat' (first | refine And.intro (by omega) ?_ | refine And.intro (fun _ => ?_) (fun q => absurd (by omega) q) | refine And.intro (fun q => absurd q (by omega)) (fun _ => ?_) | refine And.intro (fun _ => ?_) (fun _ => ?_) | refine And.intro (fun q => absurd q (by omega)) ?_ | refine And.intro (fun _ => ?_) ?_ | with_reducible intro _)
    all_goals first | exact I.fin xA.rf yA.rf I.2.2.2.2 1 | (exfalso; omega)
  refine b_F_wrong_0 hx ⟨fun _ => bad (by omega), fun _ => ⟨fun _ => bad (by omega), fun _ => ⟨fun _ => bad (by omega), fun _ => ⟨fun _ => ?_, fun _ => bad (by omega)⟩⟩⟩⟩
  obtain ⟨n, rfl⟩ : ∃ n : Nat, a1 = n := ⟨a1.toNat, by omega⟩
  obtain ⟨k, rfl⟩ : ∃ k : Nat, a2 = k := ⟨a2.toNat, by omega⟩
  have hn : n < 13 := by omega
  have e16 := n_16 n hn
  have loop : ∀ (m j : Nat), j + m = n + 1 → L_F_wrong_34 X N σ n k (n_wy n j : Int) (n_Sg n k (gm 1 0) j) j gx (fun r gx' => z_O Y 3 m_M_wrong [(2, 0), (0, (n : Int)), (0, (k : Int))] K τ gm (fun r' gm' => r' = r ∧ Inv gx' gm')) := by
    intro m
    induction m with
    | zero =>
      intro j h1
      have : j = n + 1 := by omega
      subst this
      have sl := n_Sg_le hn k o2 (n + 1) (by omega)
      refine b_F_wrong_34 hx ⟨fun _ => s_F_power (by omega) hn ?_, fun p => absurd (by omega) p⟩
      refine s_F_tell hx (by omega) (by omega) (by omega) fun _ => b_M_wrong_0 hm ?_
      repeat' (first | refine And.intro (by omega) ?_ | refine And.intro (fun _ => ?_) (fun q => absurd (by omega) q) | refine And.intro (fun q => absurd q (by omega)) (fun _ => ?_) | refine And.intro (fun _ => ?_) (fun _ => ?_) | refine And.intro (fun q => absurd q (by omega)) ?_ | refine And.intro (fun _ => ?_) ?_ | with_reducible intro _)
      refine s_M_wrongBy hm hn o2 fun gm' m1 m2 => ?_
      have hs : mS gm gm' := fun c i hk => m1 c i (by unfold mP mK at hk; omega)
      have sum : ∀ (r x : Nat), x + r = 13 → k ≤ x → L_M_wrong_159 Y K τ (16 ^ n) (n_Sg n k (gm 1 0) x) x gm' (fun r' gm'' => r' = 1 ∧ Inv (z_up (z_up (z_up gx 0 1 (n_Sg n k (gm 1 0) (n + 1) / Int.gcd (n_Sg n k (gm 1 0) (n + 1)) (16 ^ n))) 0 2 (16 ^ n / Int.gcd (n_Sg n k (gm 1 0) (n + 1)) (16 ^ n))) 0 0 0) gm'') := by
        intro r
        induction r with
        | zero =>
          intro x x1 x2
          have e : n_Sg n k (gm 1 0) x = n_Sg n k (gm 1 0) (n + 1) := by
            have := n_Sg_n hn k (gm 1 0) (12 - n) (by omega)
            rw [show n + 1 + (12 - n) = x by omega] at this; exact this
          rw [e]
          exact b_M_wrong_159 hm ⟨fun _ => s_M_tellsBy hm (by omega) (by omega) fun _ => ⟨rfl, I.tell xA.rf hs.y (hs.c I.2.2.2.2) _ _⟩, fun p => absurd (by omega) p⟩
        | succ r ih =>
          intro x x1 x2
          have s0 := n_Sg_le hn k o2 x (by omega)
          have s1 := n_Sg_le hn k o2 (x + 1) (by omega)
          have i1 := ih (x + 1) (by omega) (by omega)
          rw [n_Sg, if_pos x2] at i1 s1
          refine b_M_wrong_159 hm ⟨fun p => absurd p (by omega), fun _ => ?_⟩
          rw [m2 x (by omega)]
          exact ⟨by omega, by omega, by omega, i1⟩
      have := sum (13 - k) k (by omega) (by omega)
      rw [n_Sg_k n k (gm 1 0) k (by omega)] at this
      exact this
    | succ m ih =>
      intro j h1
      have i1 := ih (j + 1) (by omega)
      have w0 := n_wy_le n hn j (by omega)
      have s0 := n_Sg_le hn k o2 j (by omega)
      have s1 := n_Sg_le hn k o2 (j + 1) (by omega)
      have t0 := n_T_le hn o2 (i := j) (by omega)
      have wj : 0 ≤ (n_wy n j : Int) * ((n : Int) - j) ∧ (n_wy n j : Int) * ((n : Int) - j) ≤ 924 * 12 := by
        have m1 : (n_wy n j : Int) * ((n : Int) - j) ≤ 924 * ((n : Int) - j) := Int.mul_le_mul_of_nonneg_right (by omega) (by omega)
        exact ⟨Int.mul_nonneg (by omega) (by omega), by omega⟩
      have ew : Int.tdiv ((n_wy n j : Int) * ((n : Int) - j)) ((j : Int) + 1) = (n_wy n (j + 1) : Int) := by
        rw [n_td wj.1, show (n : Int) - (j : Int) = ((n - j : Nat) : Int) by omega]
        show _ = ((n_wy n j * (n - j) / (j + 1) : Nat) : Int)
        rw [Int.natCast_ediv, Int.natCast_mul]; rfl
      refine b_F_wrong_34 hx ⟨fun p => absurd p (by omega), fun _ => ⟨fun p => ⟨by omega, by omega, by omega, by omega, ?_⟩, fun p => ?_⟩⟩
      · rw [ew]
        rw [n_Sg, if_neg (by omega), Int.add_zero] at i1
        exact i1
      · rw [o1]
        refine s_F_power o2 (by omega) ?_
        have pw := n_pw o2 j
        have p16 := n_16 j (by omega)
        have q0 : 0 ≤ (n_wy n j : Int) * gm 1 0 ^ j := Int.mul_nonneg (by omega) pw.1
        have q1 : (n_wy n j : Int) * gm 1 0 ^ j ≤ 924 * gm 1 0 ^ j := Int.mul_le_mul_of_nonneg_right (by omega) pw.1
        have eT : (n_wy n j : Int) * gm 1 0 ^ j * (16 - gm 1 0) ^ (n - j) = n_T n (gm 1 0) j := by unfold n_T; rw [Int.mul_assoc]
        rw [n_Sg, if_pos (by omega)] at s1 i1
        rw [o1, show (n : Int) - (j : Int) = ((n - j : Nat) : Int) by omega] at *
        refine ⟨by omega, by omega, by omega, s_F_power (by omega) (by omega) ?_⟩
        rw [eT]
        refine ⟨by omega, by omega, by omega, by omega, by omega, ?_⟩
        rw [ew]
        exact i1
  have := loop (n + 1) 0 (by omega)
  exact this

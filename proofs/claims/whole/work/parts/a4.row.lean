/-! ## constructors: Row (printed by gen_ctor3.py) -/
theorem d_Rw_init_0 : decode (z_c m_Rw_init) 0 = .ok (.aload_n 0, 1) := by decide +kernel
theorem d_Rw_init_1 : decode (z_c m_Rw_init) 1 = .ok (.invokespecial 3, 3) := by decide +kernel
theorem d_Rw_init_4 : decode (z_c m_Rw_init) 4 = .ok (.aload_n 0, 1) := by decide +kernel
theorem d_Rw_init_5 : decode (z_c m_Rw_init) 5 = .ok (.sipush 201, 3) := by decide +kernel
theorem d_Rw_init_8 : decode (z_c m_Rw_init) 8 = .ok (.newarray .int, 2) := by decide +kernel
theorem d_Rw_init_10 : decode (z_c m_Rw_init) 10 = .ok (.putfield 9, 3) := by decide +kernel
theorem d_Rw_init_13 : decode (z_c m_Rw_init) 13 = .ok (.aload_n 0, 1) := by decide +kernel
theorem d_Rw_init_14 : decode (z_c m_Rw_init) 14 = .ok (.sipush 201, 3) := by decide +kernel
theorem d_Rw_init_17 : decode (z_c m_Rw_init) 17 = .ok (.newarray .int, 2) := by decide +kernel
theorem d_Rw_init_19 : decode (z_c m_Rw_init) 19 = .ok (.putfield 15, 3) := by decide +kernel
theorem d_Rw_init_22 : decode (z_c m_Rw_init) 22 = .ok (.aload_n 0, 1) := by decide +kernel
theorem d_Rw_init_23 : decode (z_c m_Rw_init) 23 = .ok (.getfield 9, 3) := by decide +kernel
theorem d_Rw_init_26 : decode (z_c m_Rw_init) 26 = .ok (.iconst 1, 1) := by decide +kernel
theorem d_Rw_init_27 : decode (z_c m_Rw_init) 27 = .ok (.iconst 1, 1) := by decide +kernel
theorem d_Rw_init_28 : decode (z_c m_Rw_init) 28 = .ok (.iastore, 1) := by decide +kernel
theorem d_Rw_init_29 : decode (z_c m_Rw_init) 29 = .ok (.iconst 1, 1) := by decide +kernel
theorem d_Rw_init_30 : decode (z_c m_Rw_init) 30 = .ok (.istore_n 1, 1) := by decide +kernel
theorem d_Rw_init_31 : decode (z_c m_Rw_init) 31 = .ok (.iload_n 1, 1) := by decide +kernel
theorem d_Rw_init_32 : decode (z_c m_Rw_init) 32 = .ok (.sipush 200, 3) := by decide +kernel
theorem d_Rw_init_35 : decode (z_c m_Rw_init) 35 = .ok (.if_icmp .gt 63, 3) := by decide +kernel
theorem d_Rw_init_38 : decode (z_c m_Rw_init) 38 = .ok (.iconst 2, 1) := by decide +kernel
theorem d_Rw_init_39 : decode (z_c m_Rw_init) 39 = .ok (.iload_n 1, 1) := by decide +kernel
theorem d_Rw_init_40 : decode (z_c m_Rw_init) 40 = .ok (.imul, 1) := by decide +kernel
theorem d_Rw_init_41 : decode (z_c m_Rw_init) 41 = .ok (.istore_n 2, 1) := by decide +kernel
theorem d_Rw_init_42 : decode (z_c m_Rw_init) 42 = .ok (.iload_n 2, 1) := by decide +kernel
theorem d_Rw_init_43 : decode (z_c m_Rw_init) 43 = .ok (.sipush 200, 3) := by decide +kernel
theorem d_Rw_init_46 : decode (z_c m_Rw_init) 46 = .ok (.if_icmp .gt 25, 3) := by decide +kernel
theorem d_Rw_init_49 : decode (z_c m_Rw_init) 49 = .ok (.aload_n 0, 1) := by decide +kernel
theorem d_Rw_init_50 : decode (z_c m_Rw_init) 50 = .ok (.getfield 9, 3) := by decide +kernel
theorem d_Rw_init_53 : decode (z_c m_Rw_init) 53 = .ok (.iload_n 2, 1) := by decide +kernel
theorem d_Rw_init_54 : decode (z_c m_Rw_init) 54 = .ok (.dup2, 1) := by decide +kernel
theorem d_Rw_init_55 : decode (z_c m_Rw_init) 55 = .ok (.iaload, 1) := by decide +kernel
theorem d_Rw_init_56 : decode (z_c m_Rw_init) 56 = .ok (.aload_n 0, 1) := by decide +kernel
theorem d_Rw_init_57 : decode (z_c m_Rw_init) 57 = .ok (.getfield 9, 3) := by decide +kernel
theorem d_Rw_init_60 : decode (z_c m_Rw_init) 60 = .ok (.iload_n 1, 1) := by decide +kernel
theorem d_Rw_init_61 : decode (z_c m_Rw_init) 61 = .ok (.iaload, 1) := by decide +kernel
theorem d_Rw_init_62 : decode (z_c m_Rw_init) 62 = .ok (.isub, 1) := by decide +kernel
theorem d_Rw_init_63 : decode (z_c m_Rw_init) 63 = .ok (.iastore, 1) := by decide +kernel
theorem d_Rw_init_64 : decode (z_c m_Rw_init) 64 = .ok (.iload_n 2, 1) := by decide +kernel
theorem d_Rw_init_65 : decode (z_c m_Rw_init) 65 = .ok (.iload_n 1, 1) := by decide +kernel
theorem d_Rw_init_66 : decode (z_c m_Rw_init) 66 = .ok (.iadd, 1) := by decide +kernel
theorem d_Rw_init_67 : decode (z_c m_Rw_init) 67 = .ok (.istore_n 2, 1) := by decide +kernel
theorem d_Rw_init_68 : decode (z_c m_Rw_init) 68 = .ok (.goto (-26), 3) := by decide +kernel
theorem d_Rw_init_71 : decode (z_c m_Rw_init) 71 = .ok (.aload_n 0, 1) := by decide +kernel
theorem d_Rw_init_72 : decode (z_c m_Rw_init) 72 = .ok (.getfield 15, 3) := by decide +kernel
theorem d_Rw_init_75 : decode (z_c m_Rw_init) 75 = .ok (.iload_n 1, 1) := by decide +kernel
theorem d_Rw_init_76 : decode (z_c m_Rw_init) 76 = .ok (.aload_n 0, 1) := by decide +kernel
theorem d_Rw_init_77 : decode (z_c m_Rw_init) 77 = .ok (.getfield 15, 3) := by decide +kernel
theorem d_Rw_init_80 : decode (z_c m_Rw_init) 80 = .ok (.iload_n 1, 1) := by decide +kernel
theorem d_Rw_init_81 : decode (z_c m_Rw_init) 81 = .ok (.iconst 1, 1) := by decide +kernel
theorem d_Rw_init_82 : decode (z_c m_Rw_init) 82 = .ok (.isub, 1) := by decide +kernel
theorem d_Rw_init_83 : decode (z_c m_Rw_init) 83 = .ok (.iaload, 1) := by decide +kernel
theorem d_Rw_init_84 : decode (z_c m_Rw_init) 84 = .ok (.aload_n 0, 1) := by decide +kernel
theorem d_Rw_init_85 : decode (z_c m_Rw_init) 85 = .ok (.getfield 9, 3) := by decide +kernel
theorem d_Rw_init_88 : decode (z_c m_Rw_init) 88 = .ok (.iload_n 1, 1) := by decide +kernel
theorem d_Rw_init_89 : decode (z_c m_Rw_init) 89 = .ok (.iaload, 1) := by decide +kernel
theorem d_Rw_init_90 : decode (z_c m_Rw_init) 90 = .ok (.iadd, 1) := by decide +kernel
theorem d_Rw_init_91 : decode (z_c m_Rw_init) 91 = .ok (.iastore, 1) := by decide +kernel
theorem d_Rw_init_92 : decode (z_c m_Rw_init) 92 = .ok (.iinc 1 1, 3) := by decide +kernel
theorem d_Rw_init_95 : decode (z_c m_Rw_init) 95 = .ok (.goto (-64), 3) := by decide +kernel
theorem d_Rw_init_98 : decode (z_c m_Rw_init) 98 = .ok (.return_, 1) := by decide +kernel
def kS_Rw (o : Nat) (σ : z_G) : z_G := (z_up (z_nw (z_up (z_nw σ (o + 1) (fun _ => -1)) o 0 ((o + 1 : Nat) : Int)) (o + 2) (fun _ => -1)) o 1 ((o + 2 : Nat) : Int))
def kH_Rw (o : Nat) (g : z_G) : z_G := (z_up (z_nw (z_nw g (o + 1) (fun _ => 0)) (o + 2) (fun _ => 0)) (o + 1) 1 1)
/-- MOEBIUS as the sieve has it when d is come to -/
def nS : Nat → Nat → Int
  | 0, m => if m = 1 then 1 else 0
  | d + 1, m => nS d m - (if 1 ≤ d ∧ m % d = 0 ∧ d < m then n_muT.getD d 0 else 0)
theorem nS_s (d m : Nat) : nS (d + 1) m = nS d m - (if 1 ≤ d ∧ m % d = 0 ∧ d < m then n_muT.getD d 0 else 0) := rfl
set_option maxRecDepth 100000 in
theorem nS_d : ∀ d : Fin 201, 1 ≤ d.val → nS d.val d.val = n_muT.getD d.val 0 := by decide +kernel
theorem n_mu1 : ∀ d : Fin 201, -1 ≤ n_muT.getD d.val 0 ∧ n_muT.getD d.val 0 ≤ 1 ∧ -200 ≤ n_MmT.getD d.val 0 ∧ n_MmT.getD d.val 0 ≤ 200 := by decide +kernel
theorem n_Mms : ∀ d : Fin 200, n_MmT.getD (d.val + 1) 0 = n_MmT.getD d.val 0 + n_muT.getD (d.val + 1) 0 := by decide +kernel
theorem nS_b (d m : Nat) (hd : d ≤ 201) : -(d : Int) - 1 ≤ nS d m ∧ nS d m ≤ d + 1 := by
  induction d with
  | zero =>
    show -(0 : Int) - 1 ≤ (if m = 1 then (1 : Int) else 0) ∧ (if m = 1 then (1 : Int) else 0) ≤ 0 + 1
    by_cases e : m = 1
    · rw [if_pos e]; omega
    · rw [if_neg e]; omega
  | succ d ih =>
    have i := ih (by omega)
    rw [nS_s]
    have u := n_mu1 ⟨d, by omega⟩
    dsimp only at u
    by_cases e : 1 ≤ d ∧ m % d = 0 ∧ d < m
    · rw [if_pos e]; omega
    · rw [if_neg e]; omega
theorem nS_e {m : Nat} : ∀ k, nS (m + k) m = nS m m := by
  intro k
  induction k with
  | zero => rfl
  | succ k ih =>
    rw [show m + (k + 1) = m + k + 1 by omega, nS_s, if_neg (by omega), ih]; omega
theorem nS_f {m : Nat} (h1 : m ≤ 200) : nS 201 m = n_muT.getD m 0 := by
  rw [show 201 = m + (201 - m) by omega, nS_e]
  by_cases e : m = 0
  · subst e; rfl
  · exact nS_d ⟨m, by omega⟩ (by show 1 ≤ m; omega)
def wI (o : Nat) (g : z_G) (d : Nat) (g1 : z_G) : Prop := (∀ c i, c < o + 1 → g1 c i = g c i) ∧ (∀ j : Nat, j ≤ 200 → g1 (o + 1) j = nS d j) ∧ ∀ j : Nat, j < d → g1 (o + 2) j = n_MmT.getD j 0
section RW
variable {X : z_X} {σ g : z_G} {Q : z_Q} {o : Nat}
theorem w_inner (hs0 : z_sh X o = (0, 5)) (hs1 : z_sh X (o + 1) = (1, 201)) {d : Nat} (d1 : 1 ≤ d) (d2 : d ≤ 200) (kk : ∀ (m : Nat) (g1 : z_G), 201 ≤ m → m ≤ 400 → (∀ c i, c < o + 1 → g1 c i = g c i) → (∀ j : Nat, j ≤ 200 → g1 (o + 1) j = nS (d + 1) j) → (∀ j : Nat, j < d → g1 (o + 2) j = n_MmT.getD j 0) → z_V X 3 2 402 m_Rw_init 71 [(2, (0, (m : Int))), (1, (0, (d : Int))), (0, (2, ((o : Nat) : Int)))] [] 2 402 (o + 3) (kS_Rw o σ) g1 Q) :
    ∀ (f m : Nat) (g1 : z_G), 201 ≤ m + f → m ≤ 400 → 2 * d ≤ m → m % d = 0 → (∀ c i, c < o + 1 → g1 c i = g c i) → (∀ j : Nat, j ≤ 200 → g1 (o + 1) j = if j % d = 0 ∧ d < j ∧ j < m then nS d j - n_muT.getD d 0 else nS d j) → (∀ j : Nat, j < d → g1 (o + 2) j = n_MmT.getD j 0) → z_V X 3 2 402 m_Rw_init 42 [(2, (0, (m : Int))), (1, (0, (d : Int))), (0, (2, ((o : Nat) : Int)))] [] 2 402 (o + 3) (kS_Rw o σ) g1 Q := by
  have ud := n_mu1 ⟨d, by omega⟩
  have ex : ∀ (m : Nat) (g1 : z_G), 201 ≤ m → m ≤ 400 → (∀ c i, c < o + 1 → g1 c i = g c i) → (∀ j : Nat, j ≤ 200 → g1 (o + 1) j = if j % d = 0 ∧ d < j ∧ j < m then nS d j - n_muT.getD d 0 else nS d j) → (∀ j : Nat, j < d → g1 (o + 2) j = n_MmT.getD j 0) → z_V X 3 2 402 m_Rw_init 42 [(2, (0, (m : Int))), (1, (0, (d : Int))), (0, (2, ((o : Nat) : Int)))] [] 2 402 (o + 3) (kS_Rw o σ) g1 Q := by
    intro m g1 h1 h2 hf hj hs
    refine z_iload_n (i := 2) 0 d_Rw_init_42 rfl rfl ?_
    refine z_sipush (n := 200) d_Rw_init_43 (by decide) (by decide) ?_
    refine z_icmp_gt (tgt := 71) d_Rw_init_46 (by decide) (fun _ => kk m g1 h1 h2 hf (fun j hj2 => ?_) hs) (fun c => absurd (by omega) c)
    rw [hj j hj2, nS_s]
    by_cases e : j % d = 0 ∧ d < j
    · rw [if_pos (by omega), if_pos (by omega)]
    · rw [if_neg (by omega), if_neg (by omega)]; omega
  intro f
  induction f with
  | zero => intro m g1 e1 e2 e3 e4 hf hj hs; exact ex m g1 (by omega) e2 hf hj hs
  | succ f ih =>
    intro m g1 e1 e2 e3 e4 hf hj hs
    by_cases hm : 201 ≤ m
    · exact ex m g1 hm e2 hf hj hs
    have gd : g1 (o + 1) (d : Int) = n_muT.getD d 0 := by rw [hj d d2, if_neg (by omega)]; exact nS_d ⟨d, by omega⟩ d1
    have gm : g1 (o + 1) (m : Int) = nS d m := by rw [hj m (by omega), if_neg (by omega)]
    have bm := nS_b d m (by omega)
    dsimp only at ud
    refine z_iload_n (i := 2) 0 d_Rw_init_42 rfl rfl ?_
    refine z_sipush (n := 200) d_Rw_init_43 (by decide) (by decide) ?_
    refine z_icmp_gt (tgt := 71) d_Rw_init_46 (by decide) (fun c => by exfalso; omega) (fun _ => ?_)
    refine z_aload_n (i := 0) (c := o) 2 d_Rw_init_49 rfl rfl rfl ?_
    refine z_getr (c := o) (kI := 0) (r2 := ((o + 1 : Nat) : Int)) d_Rw_init_50 fd_Rw_moebius fl_Rw_9 rfl rfl rfl hs0 (by omega) (by simp [kS_Rw, z_up, z_nw]) ?_
    refine z_iload_n (i := 2) 0 d_Rw_init_53 rfl rfl ?_
    refine z_dup2 d_Rw_init_54 rfl rfl ?_
    refine z_iald (c := o + 1) (m := 201) d_Rw_init_55 rfl hs1 (by omega) rfl (by decide) (by omega) ?_
    refine z_aload_n (i := 0) (c := o) 2 d_Rw_init_56 rfl rfl rfl ?_
    refine z_getr (c := o) (kI := 0) (r2 := ((o + 1 : Nat) : Int)) d_Rw_init_57 fd_Rw_moebius fl_Rw_9 rfl rfl rfl hs0 (by omega) (by simp [kS_Rw, z_up, z_nw]) ?_
    refine z_iload_n (i := 1) 1 d_Rw_init_60 rfl rfl ?_
    refine z_iald (c := o + 1) (m := 201) d_Rw_init_61 rfl hs1 (by omega) rfl (by decide) (by omega) ?_
    refine z_isub d_Rw_init_62 (by omega) ?_
    refine z_iast (c := o + 1) (m := 201) d_Rw_init_63 rfl hs1 (by omega) rfl (by decide) (by omega) ?_
    refine z_iload_n (i := 2) 0 d_Rw_init_64 rfl rfl ?_
    refine z_iload_n (i := 1) 1 d_Rw_init_65 rfl rfl ?_
    refine z_iadd d_Rw_init_66 (by omega) ?_
    refine z_istore_n (i := 2) (ls' := [(2, (0, (m : Int) + (d : Int))), (1, (0, (d : Int))), (0, (2, ((o : Nat) : Int)))]) d_Rw_init_67 rfl rfl rfl ?_
    refine z_goto (tgt := 42) d_Rw_init_68 (by decide) ?_
    rw [show (m : Int) + (d : Int) = ((m + d : Nat) : Int) by omega, gd, gm]
    refine ih (m + d) _ (by omega) (by omega) (by omega) (by rw [Nat.add_mod_right]; exact e4) (fun c i hc => by rw [z_u2 (by omega)]; exact hf c i hc) (fun j hj2 => ?_) (fun j hj2 => by rw [z_u2 (by omega)]; exact hs j hj2)
    by_cases e : j = m
    · subst e; rw [z_u1, if_pos (by omega)]
    · rw [z_u2 (by omega), hj j hj2]
      by_cases e5 : j % d = 0 ∧ d < j ∧ j < m
      · rw [if_pos e5, if_pos (by omega)]
      · rw [if_neg e5, if_neg]
        rintro ⟨x1, x2, x3⟩
        have l : m ≤ j := by omega
        have z := Nat.sub_mod_eq_zero_of_mod_eq (x1.trans e4.symm)
        rw [Nat.mod_eq_of_lt (by omega)] at z
        omega
theorem w_outer (hs0 : z_sh X o = (0, 5)) (hs1 : z_sh X (o + 1) = (1, 201)) (hs2 : z_sh X (o + 2) = (1, 201)) (h : ∀ g', (∀ c i, c < o + 1 → g' c i = g c i) → (∀ d : Nat, d ≤ 200 → g' (o + 1) d = n_muT.getD d 0 ∧ g' (o + 2) d = n_MmT.getD d 0) → Q 0 (o + 3) (kS_Rw o σ) g') :
    ∀ (f d : Nat) (g1 : z_G), d + f = 201 → 1 ≤ d → wI o g d g1 → z_V X 3 2 402 m_Rw_init 31 [(1, (0, (d : Int))), (0, (2, ((o : Nat) : Int)))] [] 2 402 (o + 3) (kS_Rw o σ) g1 Q := by
  intro f
  induction f with
  | zero =>
    intro d g1 e1 e2 hI
    refine z_iload_n (i := 1) 0 d_Rw_init_31 rfl rfl ?_
    refine z_sipush (n := 200) d_Rw_init_32 (by decide) (by decide) ?_
    refine z_icmp_gt (tgt := 98) d_Rw_init_35 (by decide) (fun _ => ?_) (fun c => absurd (by omega) c)
    refine z_vret d_Rw_init_98 rfl (by decide) (by decide) (h g1 hI.1 fun j hj => ⟨?_, hI.2.2 j (by omega)⟩)
    rw [hI.2.1 j hj, show d = 201 by omega]; exact nS_f hj
  | succ f ih =>
    intro d g1 e1 e2 hI
    refine z_iload_n (i := 1) 0 d_Rw_init_31 rfl rfl ?_
    refine z_sipush (n := 200) d_Rw_init_32 (by decide) (by decide) ?_
    refine z_icmp_gt (tgt := 98) d_Rw_init_35 (by decide) (fun c => by exfalso; omega) (fun _ => ?_)
    refine z_iconst (n := 2) d_Rw_init_38 (by decide) ?_
    refine z_iload_n (i := 1) 0 d_Rw_init_39 rfl rfl ?_
    refine z_imul d_Rw_init_40 (by omega) ?_
    refine z_istore_n (i := 2) (ls' := [(2, (0, 2 * (d : Int))), (1, (0, (d : Int))), (0, (2, ((o : Nat) : Int)))]) d_Rw_init_41 rfl rfl rfl ?_
    rw [show 2 * (d : Int) = ((2 * d : Nat) : Int) by omega]
    refine w_inner (g := g) hs0 hs1 e2 (by omega) (fun m g2 m1 m2 hf hj hs => ?_) 201 (2 * d) g1 (by omega) (by omega) (by omega) (by rw [Nat.mul_mod_left]) hI.1 (fun j hj => ?_) hI.2.2
    · have c1 : g2 (o + 2) ((d : Int) - 1) = n_MmT.getD (d - 1) 0 := by rw [show (d : Int) - 1 = ((d - 1 : Nat) : Int) by omega]; exact hs (d - 1) (by omega)
      have c2 : g2 (o + 1) (d : Int) = n_muT.getD d 0 := by
        rw [hj d (by omega), nS_s, if_neg (by omega)]
        have := nS_d ⟨d, by omega⟩ e2
        dsimp only at this
        omega
      have c3 := n_Mms ⟨d - 1, by omega⟩
      dsimp only at c3
      rw [show d - 1 + 1 = d by omega] at c3
      have u1 := n_mu1 ⟨d, by omega⟩
      have u2 := n_mu1 ⟨d - 1, by omega⟩
      dsimp only at u1 u2
      refine z_aload_n (i := 0) (c := o) 2 d_Rw_init_71 rfl rfl rfl ?_
      refine z_getr (c := o) (kI := 1) (r2 := ((o + 2 : Nat) : Int)) d_Rw_init_72 fd_Rw_sums fl_Rw_15 rfl rfl rfl hs0 (by omega) (by simp [kS_Rw, z_up, z_nw]) ?_
      refine z_iload_n (i := 1) 1 d_Rw_init_75 rfl rfl ?_
      refine z_aload_n (i := 0) (c := o) 2 d_Rw_init_76 rfl rfl rfl ?_
      refine z_getr (c := o) (kI := 1) (r2 := ((o + 2 : Nat) : Int)) d_Rw_init_77 fd_Rw_sums fl_Rw_15 rfl rfl rfl hs0 (by omega) (by simp [kS_Rw, z_up, z_nw]) ?_
      refine z_iload_n (i := 1) 1 d_Rw_init_80 rfl rfl ?_
      refine z_iconst (n := 1) d_Rw_init_81 (by decide) ?_
      refine z_isub d_Rw_init_82 (by omega) ?_
      refine z_iald (c := o + 2) (m := 201) d_Rw_init_83 rfl hs2 (by omega) rfl (by decide) (by omega) ?_
      refine z_aload_n (i := 0) (c := o) 2 d_Rw_init_84 rfl rfl rfl ?_
      refine z_getr (c := o) (kI := 0) (r2 := ((o + 1 : Nat) : Int)) d_Rw_init_85 fd_Rw_moebius fl_Rw_9 rfl rfl rfl hs0 (by omega) (by simp [kS_Rw, z_up, z_nw]) ?_
      refine z_iload_n (i := 1) 1 d_Rw_init_88 rfl rfl ?_
      refine z_iald (c := o + 1) (m := 201) d_Rw_init_89 rfl hs1 (by omega) rfl (by decide) (by omega) ?_
      refine z_iadd d_Rw_init_90 (by omega) ?_
      refine z_iast (c := o + 2) (m := 201) d_Rw_init_91 rfl hs2 (by omega) rfl (by decide) (by omega) ?_
      refine z_iinc (n := 1) (ls' := [(1, (0, (d : Int) + 1)), (2, (0, (m : Int))), (0, (2, ((o : Nat) : Int)))]) 1 d_Rw_init_92 rfl (by omega) rfl rfl ?_
      refine z_goto (tgt := 31) d_Rw_init_95 (by decide) ?_
      refine z_sub (ls' := [(1, (0, (d : Int) + 1)), (0, (2, ((o : Nat) : Int)))]) [0, 2] rfl ?_
      rw [show (d : Int) + 1 = ((d + 1 : Nat) : Int) by omega, c1, c2]
      refine ih (d + 1) _ (by omega) (by omega) ⟨fun c i hc => by rw [z_u2 (by omega)]; exact hf c i hc, fun j hj2 => by rw [z_u2 (by omega)]; exact hj j hj2, fun j hj2 => ?_⟩
      by_cases e : j = d
      · subst e; rw [z_u1, c3]
      · rw [z_u2 (by omega)]; exact hs j (by omega)
    · rw [if_neg]
      · exact hI.2.1 j hj
      · rintro ⟨x1, x2, x3⟩
        rw [Nat.mod_eq_sub_mod (by omega), Nat.mod_eq_of_lt (by omega)] at x1
        omega
end RW

theorem s_Rw_init {X : z_X} {σ g : z_G} {Q : z_Q} {o : Nat} (ht : z_tl X = 0) (hs0 : z_sh X o = (0, 5)) (hs1 : z_sh X (o + 1) = (1, 201)) (hs2 : z_sh X (o + 2) = (1, 201)) (h : ∀ g', (∀ c i, c < o + 1 → g' c i = g c i) → (∀ d : Nat, d ≤ 200 → g' (o + 1) d = n_muT.getD d 0 ∧ g' (o + 2) d = n_MmT.getD d 0) → Q 0 (o + 3) (kS_Rw o σ) g') : z_C X 3 2 402 m_Rw_init [(2, ((o : Nat) : Int))] (o + 1) σ g Q := by
  refine z_enter mi_Rw_init (Nat.le_of_ble_eq_true rfl) (fun _ => ?_)
  show z_V X 3 2 402 m_Rw_init 0 [(0, (2, ((o : Nat) : Int)))] [] 0 0 (o + 1) σ g Q
  refine z_aload_n (i := 0) (c := o) 0 d_Rw_init_0 rfl rfl rfl ?_
  refine z_obin (c := o) d_Rw_init_1 w_ol_Rw w_oi w_oc rfl (by decide) rfl ?_
  refine z_aload_n (i := 0) (c := o) 0 d_Rw_init_4 rfl rfl rfl ?_
  refine z_sipush (n := 201) d_Rw_init_5 (by decide) (by decide) ?_
  refine z_newa (at0 := .int) (t := 0) (n := 201) (idx := 0) d_Rw_init_8 w_ac_int rfl (fun _ _ h => h) rfl rfl rfl (by decide) hs1 ht (by decide) (by decide) ?_
  refine z_putr (c := o) (c2 := (o + 1)) (kI := 0) (ty := .array .int) d_Rw_init_10 fd_Rw_moebius fl_Rw_9 (by decide +kernel) (Or.inr ⟨_, rfl⟩) rfl rfl rfl rfl rfl rfl hs0 (by omega) ?_
  refine z_aload_n (i := 0) (c := o) 0 d_Rw_init_13 rfl rfl rfl ?_
  refine z_sipush (n := 201) d_Rw_init_14 (by decide) (by decide) ?_
  refine z_newa (at0 := .int) (t := 0) (n := 201) (idx := 0) d_Rw_init_17 w_ac_int rfl (fun _ _ h => h) rfl rfl rfl (by decide) hs2 ht (by decide) (by decide) ?_
  refine z_putr (c := o) (c2 := (o + 2)) (kI := 1) (ty := .array .int) d_Rw_init_19 fd_Rw_sums fl_Rw_15 (by decide +kernel) (Or.inr ⟨_, rfl⟩) rfl rfl rfl rfl rfl rfl hs0 (by omega) ?_
  refine z_aload_n (i := 0) (c := o) 0 d_Rw_init_22 rfl rfl rfl ?_
  refine z_getr (c := o) (kI := 0) (r2 := ((o + 1 : Nat) : Int)) d_Rw_init_23 fd_Rw_moebius fl_Rw_9 rfl rfl rfl hs0 (by omega) (by rw [z_u2 (by omega), z_nw2 (by omega)]; exact z_u1) ?_
  refine z_iconst (n := 1) d_Rw_init_26 (by decide) ?_
  refine z_iconst (n := 1) d_Rw_init_27 (by decide) ?_
  refine z_iast (c := (o + 1)) (m := 201) d_Rw_init_28 rfl hs1 (by omega) rfl (by decide) (by decide) ?_
  refine z_iconst (n := 1) d_Rw_init_29 (by decide) ?_
  refine z_istore_n (i := 1) (ls' := [(1, (0, 1)), (0, (2, ((o : Nat) : Int)))]) d_Rw_init_30 rfl rfl rfl ?_
  refine w_outer (g := g) hs0 hs1 hs2 h 200 1 _ rfl (by decide) ⟨fun c i hc => ?_, fun j hj => ?_, fun j hj => ?_⟩
  · show kH_Rw o g c i = g c i
    unfold kH_Rw
    rw [z_u2 (by omega), z_nw2 (by omega), z_nw2 (by omega)]
  · show kH_Rw o g (o + 1) j = nS 1 j
    unfold kH_Rw
    by_cases e : j = 1
    · subst e; exact z_u1
    · rw [z_u2 (by omega), z_nw2 (by omega), z_nw1]
      show 0 = (if j = 1 then (1 : Int) else 0) - (if 1 ≤ 0 ∧ _ then _ else 0)
      rw [if_neg e, if_neg (by omega)]; rfl
  · show kH_Rw o g (o + 2) j = _
    unfold kH_Rw
    rw [z_u2 (by omega), z_nw1, show j = 0 by omega]; rfl

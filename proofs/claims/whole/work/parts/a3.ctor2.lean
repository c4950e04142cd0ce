/-! ## constructors: Trays, Board (printed by gen_ctor2.py) -/
theorem d_Tr_init_0 : decode (z_c m_Tr_init) 0 = .ok (.aload_n 0, 1) := by decide +kernel
theorem d_Tr_init_1 : decode (z_c m_Tr_init) 1 = .ok (.invokespecial 1, 3) := by decide +kernel
theorem d_Tr_init_4 : decode (z_c m_Tr_init) 4 = .ok (.aload_n 0, 1) := by decide +kernel
theorem d_Tr_init_5 : decode (z_c m_Tr_init) 5 = .ok (.iconst 4, 1) := by decide +kernel
theorem d_Tr_init_6 : decode (z_c m_Tr_init) 6 = .ok (.bipush 60, 2) := by decide +kernel
theorem d_Tr_init_8 : decode (z_c m_Tr_init) 8 = .ok (.multianewarray 9 2, 4) := by decide +kernel
theorem d_Tr_init_12 : decode (z_c m_Tr_init) 12 = .ok (.putfield 11, 3) := by decide +kernel
theorem d_Tr_init_15 : decode (z_c m_Tr_init) 15 = .ok (.aload_n 0, 1) := by decide +kernel
theorem d_Tr_init_16 : decode (z_c m_Tr_init) 16 = .ok (.iconst 4, 1) := by decide +kernel
theorem d_Tr_init_17 : decode (z_c m_Tr_init) 17 = .ok (.newarray .int, 2) := by decide +kernel
theorem d_Tr_init_19 : decode (z_c m_Tr_init) 19 = .ok (.putfield 14, 3) := by decide +kernel
theorem d_Tr_init_22 : decode (z_c m_Tr_init) 22 = .ok (.aload_n 0, 1) := by decide +kernel
theorem d_Tr_init_23 : decode (z_c m_Tr_init) 23 = .ok (.iconst 4, 1) := by decide +kernel
theorem d_Tr_init_24 : decode (z_c m_Tr_init) 24 = .ok (.newarray .int, 2) := by decide +kernel
theorem d_Tr_init_26 : decode (z_c m_Tr_init) 26 = .ok (.putfield 18, 3) := by decide +kernel
theorem d_Tr_init_29 : decode (z_c m_Tr_init) 29 = .ok (.iconst 0, 1) := by decide +kernel
theorem d_Tr_init_30 : decode (z_c m_Tr_init) 30 = .ok (.istore_n 1, 1) := by decide +kernel
theorem d_Tr_init_31 : decode (z_c m_Tr_init) 31 = .ok (.iload_n 1, 1) := by decide +kernel
theorem d_Tr_init_32 : decode (z_c m_Tr_init) 32 = .ok (.iconst 4, 1) := by decide +kernel
theorem d_Tr_init_33 : decode (z_c m_Tr_init) 33 = .ok (.if_icmp .ge 16, 3) := by decide +kernel
theorem d_Tr_init_36 : decode (z_c m_Tr_init) 36 = .ok (.aload_n 0, 1) := by decide +kernel
theorem d_Tr_init_37 : decode (z_c m_Tr_init) 37 = .ok (.getfield 18, 3) := by decide +kernel
theorem d_Tr_init_40 : decode (z_c m_Tr_init) 40 = .ok (.iload_n 1, 1) := by decide +kernel
theorem d_Tr_init_41 : decode (z_c m_Tr_init) 41 = .ok (.iconst (-1), 1) := by decide +kernel
theorem d_Tr_init_42 : decode (z_c m_Tr_init) 42 = .ok (.iastore, 1) := by decide +kernel
theorem d_Tr_init_43 : decode (z_c m_Tr_init) 43 = .ok (.iinc 1 1, 3) := by decide +kernel
theorem d_Tr_init_46 : decode (z_c m_Tr_init) 46 = .ok (.goto (-15), 3) := by decide +kernel
theorem d_Tr_init_49 : decode (z_c m_Tr_init) 49 = .ok (.return_, 1) := by decide +kernel
def kS_Tr (o : Nat) (σ : z_G) : z_G := (z_up (z_nw (z_up (z_nw (z_up (z_m5 σ (o + 1)) o 0 ((o + 1 : Nat) : Int)) (o + 6) (fun _ => -1)) o 1 ((o + 6 : Nat) : Int)) (o + 7) (fun _ => -1)) o 2 ((o + 7 : Nat) : Int))
def kG_Tr (o : Nat) (g : z_G) : z_G := (z_up (z_up (z_up (z_up (z_nw (z_nw (z_m0 g (o + 1)) (o + 6) (fun _ => 0)) (o + 7) (fun _ => 0)) (o + 7) 0 (-1)) (o + 7) 1 (-1)) (o + 7) 2 (-1)) (o + 7) 3 (-1))
theorem s_Tr_init {X : z_X} {σ g : z_G} {Q : z_Q} {o : Nat} (ht : z_tl X = 0) (hs0 : z_sh X o = (0, 8)) (hs1 : z_sh X (o + 1) = (5, 4)) (hs2 : z_sh X (o + 2) = (2, 60)) (hs3 : z_sh X (o + 3) = (2, 60)) (hs4 : z_sh X (o + 4) = (2, 60)) (hs5 : z_sh X (o + 5) = (2, 60)) (hs6 : z_sh X (o + 6) = (1, 4)) (hs7 : z_sh X (o + 7) = (1, 4)) (h : Q 0 (o + 8) (kS_Tr o σ) (kG_Tr o g)) : z_C X 3 7 252 m_Tr_init [(2, ((o : Nat) : Int))] (o + 1) σ g Q := by
  refine z_enter mi_Tr_init (Nat.le_of_ble_eq_true rfl) (fun _ => ?_)
  show z_V X 3 7 252 m_Tr_init 0 [(0, (2, ((o : Nat) : Int)))] [] 0 0 (o + 1) σ g Q
  refine z_aload_n (i := 0) (c := o) 0 d_Tr_init_0 rfl rfl rfl ?_
  refine z_obin (c := o) d_Tr_init_1 w_ol_Tr w_oi w_oc rfl (by decide) rfl ?_
  refine z_aload_n (i := 0) (c := o) 0 d_Tr_init_4 rfl rfl rfl ?_
  refine z_iconst (n := 4) d_Tr_init_5 (by decide) ?_
  refine z_bipush (n := 60) d_Tr_init_6 (by decide) (by decide) ?_
  refine z_multi (n := 4) (k := 60) d_Tr_init_8 w_cl_Tr_9 hs1 hs2 hs3 hs4 hs5 ht (by decide) (by decide) ?_
  refine z_putr (c := o) (c2 := (o + 1)) (kI := 0) (ty := .array (.array .long)) d_Tr_init_12 fd_Tr_rows fl_Tr_11 (by decide +kernel) (Or.inr ⟨_, rfl⟩) rfl rfl rfl rfl rfl rfl hs0 (by omega) ?_
  refine z_aload_n (i := 0) (c := o) 0 d_Tr_init_15 rfl rfl rfl ?_
  refine z_iconst (n := 4) d_Tr_init_16 (by decide) ?_
  refine z_newa (at0 := .int) (t := 0) (n := 4) (idx := 0) d_Tr_init_17 w_ac_int rfl (fun _ _ h => h) rfl rfl rfl (by decide) hs6 ht (by decide) (by decide) ?_
  refine z_putr (c := o) (c2 := (o + 6)) (kI := 1) (ty := .array .int) d_Tr_init_19 fd_Tr_sorts fl_Tr_14 (by decide +kernel) (Or.inr ⟨_, rfl⟩) rfl rfl rfl rfl rfl rfl hs0 (by omega) ?_
  refine z_aload_n (i := 0) (c := o) 0 d_Tr_init_22 rfl rfl rfl ?_
  refine z_iconst (n := 4) d_Tr_init_23 (by decide) ?_
  refine z_newa (at0 := .int) (t := 0) (n := 4) (idx := 0) d_Tr_init_24 w_ac_int rfl (fun _ _ h => h) rfl rfl rfl (by decide) hs7 ht (by decide) (by decide) ?_
  refine z_putr (c := o) (c2 := (o + 7)) (kI := 2) (ty := .array .int) d_Tr_init_26 fd_Tr_lengths fl_Tr_18 (by decide +kernel) (Or.inr ⟨_, rfl⟩) rfl rfl rfl rfl rfl rfl hs0 (by omega) ?_
  refine z_iconst (n := 0) d_Tr_init_29 (by decide) ?_
  refine z_istore_n (i := 1) (ls' := [(1, (0, 0)), (0, (2, ((o : Nat) : Int)))]) d_Tr_init_30 rfl rfl rfl ?_
  refine z_iload_n (i := 1) 0 d_Tr_init_31 rfl rfl ?_
  refine z_iconst (n := 4) d_Tr_init_32 (by decide) ?_
  refine z_icmp_ge (tgt := 49) d_Tr_init_33 (by decide) (fun c => absurd c (by decide)) (fun _ => ?_)
  refine z_aload_n (i := 0) (c := o) 1 d_Tr_init_36 rfl rfl rfl ?_
  refine z_getr (c := o) (kI := 2) (r2 := ((o + 7 : Nat) : Int)) d_Tr_init_37 fd_Tr_lengths fl_Tr_18 rfl rfl rfl hs0 (by omega) (by simp [z_up, z_nw, z_m5] <;> omega) ?_
  refine z_iload_n (i := 1) 0 d_Tr_init_40 rfl rfl ?_
  refine z_iconst (n := (-1)) d_Tr_init_41 (by decide) ?_
  refine z_iast (c := (o + 7)) (m := 4) d_Tr_init_42 rfl hs7 (by omega) rfl (by decide) (by decide) ?_
  refine z_iinc (n := 1) (ls' := [(1, (0, 1)), (0, (2, ((o : Nat) : Int)))]) 0 d_Tr_init_43 rfl (by decide) rfl rfl ?_
  refine z_goto (tgt := 31) d_Tr_init_46 (by decide) ?_
  refine z_iload_n (i := 1) 0 d_Tr_init_31 rfl rfl ?_
  refine z_iconst (n := 4) d_Tr_init_32 (by decide) ?_
  refine z_icmp_ge (tgt := 49) d_Tr_init_33 (by decide) (fun c => absurd c (by decide)) (fun _ => ?_)
  refine z_aload_n (i := 0) (c := o) 1 d_Tr_init_36 rfl rfl rfl ?_
  refine z_getr (c := o) (kI := 2) (r2 := ((o + 7 : Nat) : Int)) d_Tr_init_37 fd_Tr_lengths fl_Tr_18 rfl rfl rfl hs0 (by omega) (by simp [z_up, z_nw, z_m5] <;> omega) ?_
  refine z_iload_n (i := 1) 0 d_Tr_init_40 rfl rfl ?_
  refine z_iconst (n := (-1)) d_Tr_init_41 (by decide) ?_
  refine z_iast (c := (o + 7)) (m := 4) d_Tr_init_42 rfl hs7 (by omega) rfl (by decide) (by decide) ?_
  refine z_iinc (n := 1) (ls' := [(1, (0, 2)), (0, (2, ((o : Nat) : Int)))]) 0 d_Tr_init_43 rfl (by decide) rfl rfl ?_
  refine z_goto (tgt := 31) d_Tr_init_46 (by decide) ?_
  refine z_iload_n (i := 1) 0 d_Tr_init_31 rfl rfl ?_
  refine z_iconst (n := 4) d_Tr_init_32 (by decide) ?_
  refine z_icmp_ge (tgt := 49) d_Tr_init_33 (by decide) (fun c => absurd c (by decide)) (fun _ => ?_)
  refine z_aload_n (i := 0) (c := o) 1 d_Tr_init_36 rfl rfl rfl ?_
  refine z_getr (c := o) (kI := 2) (r2 := ((o + 7 : Nat) : Int)) d_Tr_init_37 fd_Tr_lengths fl_Tr_18 rfl rfl rfl hs0 (by omega) (by simp [z_up, z_nw, z_m5] <;> omega) ?_
  refine z_iload_n (i := 1) 0 d_Tr_init_40 rfl rfl ?_
  refine z_iconst (n := (-1)) d_Tr_init_41 (by decide) ?_
  refine z_iast (c := (o + 7)) (m := 4) d_Tr_init_42 rfl hs7 (by omega) rfl (by decide) (by decide) ?_
  refine z_iinc (n := 1) (ls' := [(1, (0, 3)), (0, (2, ((o : Nat) : Int)))]) 0 d_Tr_init_43 rfl (by decide) rfl rfl ?_
  refine z_goto (tgt := 31) d_Tr_init_46 (by decide) ?_
  refine z_iload_n (i := 1) 0 d_Tr_init_31 rfl rfl ?_
  refine z_iconst (n := 4) d_Tr_init_32 (by decide) ?_
  refine z_icmp_ge (tgt := 49) d_Tr_init_33 (by decide) (fun c => absurd c (by decide)) (fun _ => ?_)
  refine z_aload_n (i := 0) (c := o) 1 d_Tr_init_36 rfl rfl rfl ?_
  refine z_getr (c := o) (kI := 2) (r2 := ((o + 7 : Nat) : Int)) d_Tr_init_37 fd_Tr_lengths fl_Tr_18 rfl rfl rfl hs0 (by omega) (by simp [z_up, z_nw, z_m5] <;> omega) ?_
  refine z_iload_n (i := 1) 0 d_Tr_init_40 rfl rfl ?_
  refine z_iconst (n := (-1)) d_Tr_init_41 (by decide) ?_
  refine z_iast (c := (o + 7)) (m := 4) d_Tr_init_42 rfl hs7 (by omega) rfl (by decide) (by decide) ?_
  refine z_iinc (n := 1) (ls' := [(1, (0, 4)), (0, (2, ((o : Nat) : Int)))]) 0 d_Tr_init_43 rfl (by decide) rfl rfl ?_
  refine z_goto (tgt := 31) d_Tr_init_46 (by decide) ?_
  refine z_iload_n (i := 1) 0 d_Tr_init_31 rfl rfl ?_
  refine z_iconst (n := 4) d_Tr_init_32 (by decide) ?_
  refine z_icmp_ge (tgt := 49) d_Tr_init_33 (by decide) (fun _ => ?_) (fun c => absurd (by decide) c)
  exact z_vret d_Tr_init_49 rfl (by decide) (by decide) h
section LockB
variable {X : z_X} {N : Nat} {σ : z_G} {P Q : z_P}
theorem s_startO {o : Nat} (hl : z_lay X N σ o z_SBd z_RBd) {g : z_G} {T B : Int} (eT : g (o + 1) 0 + g (o + 1) 2 = T) (eB : g (o + 1) 1 + g (o + 1) 3 = B) (hT : 0 ≤ T ∧ T ≤ 9999) (hB : 0 ≤ B ∧ B ≤ 9999) (hq : ∀ g', (∀ c i, c ≠ o + 7 → ¬ (c = o + 6 ∧ i = 1) → g' c i = g c i) → eX (g (o + 7)) 0 (g' (o + 7)) (g' (o + 6) 1) (T * 10000 + B) → Q 0 g') : z_O X 3 m_Vi_startAt [(2, ((o + 6 : Nat) : Int)), (2, ((o + 1 : Nat) : Int))] N σ g Q := by
  refine b_Vi_startAt_0 (o := o + 6) (p1 := o + 1) (ky_Bd_6 hl) (ky_Bd_1 hl) (s_Vi_enter (o := o + 6) (p := o + 1) (ky_Bd_6 hl) (ky_Bd_1 hl) (T := T) (B := B) ?_ ?_ hT hB ?_ ?_ fun g' f1 e1 => hq g' (fun c i c1 c2 => ?_) ?_)
  · rw [z_u2 (by omega), z_u2 (by omega)]; exact eT
  · rw [z_u2 (by omega), z_u2 (by omega)]; exact eB
  · rw [z_u1]; omega
  · rw [z_u1]; exact fun i j i1 i2 i3 => by exfalso; omega
  · rw [f1 c i c1 c2, z_u2 (by omega)]
  · have e1 : eX (z_up g (o + 6) 1 0 (o + 7)) (z_up g (o + 6) 1 0 (o + 6) 1) (g' (o + 7)) (g' (o + 6) 1) (T * 10000 + B) := e1
    rw [z_u1, show z_up g (o + 6) 1 0 (o + 7) = g (o + 7) from funext fun i => z_u2 (by omega)] at e1
    exact e1
theorem s_clearO {o : Nat} (hl : z_lay X N σ o z_SBd z_RBd) {g : z_G} (hq : ∀ g', g' o 0 = 5 → g' o 1 = 4 → g' (o + 1) 0 = 0 → g' (o + 1) 1 = 1 → g' (o + 1) 2 = 1 → g' (o + 1) 3 = 1 → g' (o + 1) 4 = 0 → g' (o + 2) 3 = 0 → g' (o + 8) 0 = 0 → eX (g (o + 7)) 0 (g' (o + 7)) (g' (o + 6) 1) 10002 → (∀ c i, ¬ (o ≤ c ∧ c ≤ o + 8) → g' c i = g c i) → Q 0 g') : z_O X 4 m_Bd_clear [(2, ((o : Nat) : Int))] N σ g Q := by
  refine b_Bd_clear_0 (o := o) hl (b_Sp_toRoot_0 (o := o + 1) (ky_Bd_1 hl) (s_startO hl (T := 1) (B := 2) ?_ ?_ (by omega) (by omega) fun g' f1 ex => b_Pg_clear_0 (o := o + 8) (ky_Bd_8 hl) (hq _ ?_ ?_ ?_ ?_ ?_ ?_ ?_ ?_ ?_ ?_ fun c i hc => ?_)))
  · simp [z_up]
  · simp [z_up]
  · rw [z_u2 (by omega), z_u2 (by omega), z_u2 (by omega), f1 _ _ (by omega) (by omega)]; simp [z_up]
  · rw [z_u2 (by omega), z_u2 (by omega), z_u2 (by omega), f1 _ _ (by omega) (by omega)]; simp [z_up]
  · rw [z_u2 (by omega), z_u2 (by omega), z_u2 (by omega), f1 _ _ (by omega) (by omega)]; simp [z_up]
  · rw [z_u2 (by omega), z_u2 (by omega), z_u2 (by omega), f1 _ _ (by omega) (by omega)]; simp [z_up]
  · rw [z_u2 (by omega), z_u2 (by omega), z_u2 (by omega), f1 _ _ (by omega) (by omega)]; simp [z_up]
  · rw [z_u2 (by omega), z_u2 (by omega), z_u2 (by omega), f1 _ _ (by omega) (by omega)]; simp [z_up]
  · rw [z_u2 (by omega), z_u2 (by omega), z_u2 (by omega), f1 _ _ (by omega) (by omega)]; simp [z_up]
  · rw [z_u2 (by omega), z_u2 (by omega), z_u2 (by omega), f1 _ _ (by omega) (by omega)]; simp [z_up]
  · rw [z_u2 (by omega), z_u2 (by omega)]; exact z_u1
  · have e7 : ∀ (h : z_G) i, z_up (z_up (z_up h (o + 8) 0 0) (o + 8) 1 0) (o + 8) 2 0 (o + 7) i = h (o + 7) i := fun h i => by rw [z_u2 (by omega), z_u2 (by omega), z_u2 (by omega)]
    rw [show z_up (z_up (z_up g' (o + 8) 0 0) (o + 8) 1 0) (o + 8) 2 0 (o + 7) = g' (o + 7) from funext fun i => e7 g' i, z_u2 (by omega), z_u2 (by omega), z_u2 (by omega)]
    rw [show z_up (z_up (z_up (z_up (z_up (z_up (z_up (z_up g o 0 5) o 1 4) (o + 1) 0 0) (o + 1) 1 1) (o + 1) 2 1) (o + 1) 3 1) (o + 1) 4 0) (o + 2) 3 0 (o + 7) = g (o + 7) from funext fun i => by rw [z_u2 (by omega), z_u2 (by omega), z_u2 (by omega), z_u2 (by omega), z_u2 (by omega), z_u2 (by omega), z_u2 (by omega), z_u2 (by omega)]] at ex
    exact ex
  · rw [z_u2 (by omega), z_u2 (by omega), z_u2 (by omega), f1 _ _ (by omega) (by omega), z_u2 (by omega), z_u2 (by omega), z_u2 (by omega), z_u2 (by omega), z_u2 (by omega), z_u2 (by omega), z_u2 (by omega), z_u2 (by omega)]
end LockB
theorem d_Bd_init_0 : decode (z_c m_Bd_init) 0 = .ok (.aload_n 0, 1) := by decide +kernel
theorem d_Bd_init_1 : decode (z_c m_Bd_init) 1 = .ok (.invokespecial 3, 3) := by decide +kernel
theorem d_Bd_init_4 : decode (z_c m_Bd_init) 4 = .ok (.aload_n 0, 1) := by decide +kernel
theorem d_Bd_init_5 : decode (z_c m_Bd_init) 5 = .ok (.new 9, 3) := by decide +kernel
theorem d_Bd_init_8 : decode (z_c m_Bd_init) 8 = .ok (.dup, 1) := by decide +kernel
theorem d_Bd_init_9 : decode (z_c m_Bd_init) 9 = .ok (.invokespecial 11, 3) := by decide +kernel
theorem d_Bd_init_12 : decode (z_c m_Bd_init) 12 = .ok (.putfield 12, 3) := by decide +kernel
theorem d_Bd_init_15 : decode (z_c m_Bd_init) 15 = .ok (.aload_n 0, 1) := by decide +kernel
theorem d_Bd_init_16 : decode (z_c m_Bd_init) 16 = .ok (.new 18, 3) := by decide +kernel
theorem d_Bd_init_19 : decode (z_c m_Bd_init) 19 = .ok (.dup, 1) := by decide +kernel
theorem d_Bd_init_20 : decode (z_c m_Bd_init) 20 = .ok (.invokespecial 20, 3) := by decide +kernel
theorem d_Bd_init_23 : decode (z_c m_Bd_init) 23 = .ok (.putfield 21, 3) := by decide +kernel
theorem d_Bd_init_26 : decode (z_c m_Bd_init) 26 = .ok (.aload_n 0, 1) := by decide +kernel
theorem d_Bd_init_27 : decode (z_c m_Bd_init) 27 = .ok (.new 25, 3) := by decide +kernel
theorem d_Bd_init_30 : decode (z_c m_Bd_init) 30 = .ok (.dup, 1) := by decide +kernel
theorem d_Bd_init_31 : decode (z_c m_Bd_init) 31 = .ok (.invokespecial 27, 3) := by decide +kernel
theorem d_Bd_init_34 : decode (z_c m_Bd_init) 34 = .ok (.putfield 28, 3) := by decide +kernel
theorem d_Bd_init_37 : decode (z_c m_Bd_init) 37 = .ok (.aload_n 0, 1) := by decide +kernel
theorem d_Bd_init_38 : decode (z_c m_Bd_init) 38 = .ok (.new 32, 3) := by decide +kernel
theorem d_Bd_init_41 : decode (z_c m_Bd_init) 41 = .ok (.dup, 1) := by decide +kernel
theorem d_Bd_init_42 : decode (z_c m_Bd_init) 42 = .ok (.invokespecial 34, 3) := by decide +kernel
theorem d_Bd_init_45 : decode (z_c m_Bd_init) 45 = .ok (.putfield 35, 3) := by decide +kernel
theorem d_Bd_init_48 : decode (z_c m_Bd_init) 48 = .ok (.aload_n 0, 1) := by decide +kernel
theorem d_Bd_init_49 : decode (z_c m_Bd_init) 49 = .ok (.invokevirtual 39, 3) := by decide +kernel
theorem d_Bd_init_52 : decode (z_c m_Bd_init) 52 = .ok (.return_, 1) := by decide +kernel
def kS_Bd (o : Nat) (σ : z_G) : z_G := (z_up (kS_Pg (o + 8) (z_nw (z_up (kS_Vi (o + 6) (z_nw (z_up (kS_Pi (o + 2) (z_nw (z_up (z_nw σ (o + 1) (fun _ => -1)) o 2 ((o + 1 : Nat) : Int)) (o + 2) (fun _ => -1))) o 3 ((o + 2 : Nat) : Int)) (o + 6) (fun _ => -1))) o 4 ((o + 6 : Nat) : Int)) (o + 8) (fun _ => -1))) o 5 ((o + 8 : Nat) : Int))
def kH_Bd (o : Nat) (g : z_G) : z_G := (kG_Pg (o + 8) (z_nw (kG_Vi (o + 6) (z_nw (kG_Pi (o + 2) (z_nw (kG_Sp (o + 1) (z_nw g (o + 1) (fun _ => 0))) (o + 2) (fun _ => 0))) (o + 6) (fun _ => 0))) (o + 8) (fun _ => 0)))
theorem kS_Bd2 {o c : Nat} {σ : z_G} (h : c < o) : kS_Bd o σ c = σ c := by
  funext i
  unfold kS_Bd kS_Pi kS_Vi kS_Pg
  simp (disch := omega) only [z_nw2, z_up_ne]
theorem kH_Bd2 {o c : Nat} {g : z_G} (h : c < o) : kH_Bd o g c = g c := by
  funext i
  unfold kH_Bd kG_Pi kG_Vi kG_Pg kG_Sp
  simp (disch := omega) only [z_nw2, z_up_ne]
theorem kl_Bd {X : z_X} {σ : z_G} {o : Nat} (hs0 : z_sh X o = (0, 0)) (hs1 : z_sh X (o + 1) = (0, 6)) (hs2 : z_sh X (o + 2) = (0, 3)) (hs3 : z_sh X (o + 3) = (1, 12)) (hs4 : z_sh X (o + 4) = (1, 12)) (hs5 : z_sh X (o + 5) = (1, 12)) (hs6 : z_sh X (o + 6) = (0, 9)) (hs7 : z_sh X (o + 7) = (1, 200)) (hs8 : z_sh X (o + 8) = (0, 4)) (hs9 : z_sh X (o + 9) = (1, 60)) (hs10 : z_sh X (o + 10) = (1, 60)) (hs11 : z_sh X (o + 11) = (1, 60)) (hs12 : z_sh X (o + 12) = (1, 60)) (hs13 : z_sh X (o + 13) = (1, 60)) : z_lay X (o + 14) (kS_Bd o σ) o z_SBd z_RBd := by
  refine ⟨fun j s hj => ?_, Nat.le_refl _, fun k q hq => ?_⟩
  · match j, hj with
    | 0, hj => cases hj; exact hs0
    | 1, hj => cases hj; exact hs1
    | 2, hj => cases hj; exact hs2
    | 3, hj => cases hj; exact hs3
    | 4, hj => cases hj; exact hs4
    | 5, hj => cases hj; exact hs5
    | 6, hj => cases hj; exact hs6
    | 7, hj => cases hj; exact hs7
    | 8, hj => cases hj; exact hs8
    | 9, hj => cases hj; exact hs9
    | 10, hj => cases hj; exact hs10
    | 11, hj => cases hj; exact hs11
    | 12, hj => cases hj; exact hs12
    | 13, hj => cases hj; exact hs13
    | (n + 14), hj => simp [z_SBd] at hj
  · have h : ∀ q ∈ z_RBd, kS_Bd o σ (o + q.1) q.2.1 = ((o + q.2.2 : Nat) : Int) := by
      intro q hq
      simp only [z_RBd, List.mem_cons, List.not_mem_nil, or_false] at hq
      rcases hq with rfl | rfl | rfl | rfl | rfl | rfl | rfl | rfl | rfl | rfl | rfl | rfl | rfl
      · show kS_Bd o σ (o + 0) 2 = ((o + 1 : Nat) : Int)
        unfold kS_Bd kS_Pi kS_Vi kS_Pg
        rw [z_u2 (by omega), z_u2 (by omega), z_nw2 (by omega), z_u2 (by omega), z_nw2 (by omega), z_u2 (by omega), z_nw2 (by omega), z_u2 (by omega), z_nw2 (by omega), z_u2 (by omega), z_nw2 (by omega), z_nw2 (by omega), z_u2 (by omega), z_u2 (by omega), z_nw2 (by omega), z_nw2 (by omega), z_u2 (by omega), z_u2 (by omega), z_nw2 (by omega), z_u2 (by omega), z_nw2 (by omega), z_u2 (by omega), z_nw2 (by omega), z_nw2 (by omega)]
        exact z_u1
      · show kS_Bd o σ (o + 0) 3 = ((o + 2 : Nat) : Int)
        unfold kS_Bd kS_Pi kS_Vi kS_Pg
        rw [z_u2 (by omega), z_u2 (by omega), z_nw2 (by omega), z_u2 (by omega), z_nw2 (by omega), z_u2 (by omega), z_nw2 (by omega), z_u2 (by omega), z_nw2 (by omega), z_u2 (by omega), z_nw2 (by omega), z_nw2 (by omega), z_u2 (by omega), z_u2 (by omega), z_nw2 (by omega), z_nw2 (by omega)]
        exact z_u1
      · show kS_Bd o σ (o + 0) 4 = ((o + 6 : Nat) : Int)
        unfold kS_Bd kS_Pi kS_Vi kS_Pg
        rw [z_u2 (by omega), z_u2 (by omega), z_nw2 (by omega), z_u2 (by omega), z_nw2 (by omega), z_u2 (by omega), z_nw2 (by omega), z_u2 (by omega), z_nw2 (by omega), z_u2 (by omega), z_nw2 (by omega), z_nw2 (by omega)]
        exact z_u1
      · show kS_Bd o σ (o + 0) 5 = ((o + 8 : Nat) : Int)
        unfold kS_Bd kS_Pi kS_Vi kS_Pg
        exact z_u1
      · show kS_Bd o σ (o + 2) 0 = ((o + 3 : Nat) : Int)
        unfold kS_Bd kS_Pi kS_Vi kS_Pg
        rw [z_u2 (by omega), z_u2 (by omega), z_nw2 (by omega), z_u2 (by omega), z_nw2 (by omega), z_u2 (by omega), z_nw2 (by omega), z_u2 (by omega), z_nw2 (by omega), z_u2 (by omega), z_nw2 (by omega), z_nw2 (by omega), z_u2 (by omega), z_u2 (by omega), z_nw2 (by omega), z_nw2 (by omega), z_u2 (by omega), z_u2 (by omega), z_nw2 (by omega), z_u2 (by omega), z_nw2 (by omega)]
        exact z_u1
      · show kS_Bd o σ (o + 2) 1 = ((o + 4 : Nat) : Int)
        unfold kS_Bd kS_Pi kS_Vi kS_Pg
        rw [z_u2 (by omega), z_u2 (by omega), z_nw2 (by omega), z_u2 (by omega), z_nw2 (by omega), z_u2 (by omega), z_nw2 (by omega), z_u2 (by omega), z_nw2 (by omega), z_u2 (by omega), z_nw2 (by omega), z_nw2 (by omega), z_u2 (by omega), z_u2 (by omega), z_nw2 (by omega), z_nw2 (by omega), z_u2 (by omega), z_u2 (by omega), z_nw2 (by omega)]
        exact z_u1
      · show kS_Bd o σ (o + 2) 2 = ((o + 5 : Nat) : Int)
        unfold kS_Bd kS_Pi kS_Vi kS_Pg
        rw [z_u2 (by omega), z_u2 (by omega), z_nw2 (by omega), z_u2 (by omega), z_nw2 (by omega), z_u2 (by omega), z_nw2 (by omega), z_u2 (by omega), z_nw2 (by omega), z_u2 (by omega), z_nw2 (by omega), z_nw2 (by omega), z_u2 (by omega), z_u2 (by omega), z_nw2 (by omega), z_nw2 (by omega), z_u2 (by omega)]
        exact z_u1
      · show kS_Bd o σ (o + 6) 0 = ((o + 7 : Nat) : Int)
        unfold kS_Bd kS_Pi kS_Vi kS_Pg
        rw [z_u2 (by omega), z_u2 (by omega), z_nw2 (by omega), z_u2 (by omega), z_nw2 (by omega), z_u2 (by omega), z_nw2 (by omega), z_u2 (by omega), z_nw2 (by omega), z_u2 (by omega), z_nw2 (by omega), z_nw2 (by omega), z_u2 (by omega)]
        exact z_u1
      · show kS_Bd o σ (o + 8) 3 = ((o + 9 : Nat) : Int)
        unfold kS_Bd kS_Pi kS_Vi kS_Pg
        rw [z_u2 (by omega), z_u2 (by omega), z_nw2 (by omega), z_u2 (by omega), z_nw2 (by omega), z_u2 (by omega), z_nw2 (by omega), z_u2 (by omega), z_nw2 (by omega)]
        exact z_u1
      · show kS_Bd o σ (o + 8) 4 = ((o + 10 : Nat) : Int)
        unfold kS_Bd kS_Pi kS_Vi kS_Pg
        rw [z_u2 (by omega), z_u2 (by omega), z_nw2 (by omega), z_u2 (by omega), z_nw2 (by omega), z_u2 (by omega), z_nw2 (by omega)]
        exact z_u1
      · show kS_Bd o σ (o + 8) 5 = ((o + 11 : Nat) : Int)
        unfold kS_Bd kS_Pi kS_Vi kS_Pg
        rw [z_u2 (by omega), z_u2 (by omega), z_nw2 (by omega), z_u2 (by omega), z_nw2 (by omega)]
        exact z_u1
      · show kS_Bd o σ (o + 8) 6 = ((o + 12 : Nat) : Int)
        unfold kS_Bd kS_Pi kS_Vi kS_Pg
        rw [z_u2 (by omega), z_u2 (by omega), z_nw2 (by omega)]
        exact z_u1
      · show kS_Bd o σ (o + 8) 7 = ((o + 13 : Nat) : Int)
        unfold kS_Bd kS_Pi kS_Vi kS_Pg
        rw [z_u2 (by omega)]
        exact z_u1
    exact h q (List.mem_of_getElem? hq)
theorem s_Bd_init {X : z_X} {σ g : z_G} {Q : z_Q} {o : Nat} (ht : z_tl X = 0) (hs0 : z_sh X o = (0, 0)) (hs1 : z_sh X (o + 1) = (0, 6)) (hs2 : z_sh X (o + 2) = (0, 3)) (hs3 : z_sh X (o + 3) = (1, 12)) (hs4 : z_sh X (o + 4) = (1, 12)) (hs5 : z_sh X (o + 5) = (1, 12)) (hs6 : z_sh X (o + 6) = (0, 9)) (hs7 : z_sh X (o + 7) = (1, 200)) (hs8 : z_sh X (o + 8) = (0, 4)) (hs9 : z_sh X (o + 9) = (1, 60)) (hs10 : z_sh X (o + 10) = (1, 60)) (hs11 : z_sh X (o + 11) = (1, 60)) (hs12 : z_sh X (o + 12) = (1, 60)) (hs13 : z_sh X (o + 13) = (1, 60)) (h : ∀ g', (∀ c i, c < o → g' c i = g c i) → g' o 0 = 5 → g' o 1 = 4 → g' (o + 1) 0 = 0 → g' (o + 1) 1 = 1 → g' (o + 1) 2 = 1 → g' (o + 1) 3 = 1 → g' (o + 1) 4 = 0 → g' (o + 2) 3 = 0 → g' (o + 8) 0 = 0 → (∃ κ, eX κ 0 (g' (o + 7)) (g' (o + 6) 1) 10002) → Q 0 (o + 14) (kS_Bd o σ) g') : z_C X 6 13 555 m_Bd_init [(2, ((o : Nat) : Int))] (o + 1) σ g Q := by
  refine z_enter mi_Bd_init (Nat.le_of_ble_eq_true rfl) (fun _ => ?_)
  show z_V X 6 13 555 m_Bd_init 0 [(0, (2, ((o : Nat) : Int)))] [] 0 0 (o + 1) σ g Q
  refine z_aload_n (i := 0) (c := o) 0 d_Bd_init_0 rfl rfl rfl ?_
  refine z_obin (c := o) d_Bd_init_1 w_ol_Bd w_oi w_oc rfl (by decide) rfl ?_
  refine z_aload_n (i := 0) (c := o) 0 d_Bd_init_4 rfl rfl rfl ?_
  refine z_new (ci := 6) (ty := tyX6) d_Bd_init_5 rfl rfl z_ly6 z_ty6 z_df6 w_cl_Bd_9 w_in_Sp w_it_Sp hs1 ht (by decide) (by decide) ?_
  refine z_dup d_Bd_init_8 rfl ?_
  refine z_callI (c := (o + 1)) (as := []) (d' := 3) (mc' := 0) (ms' := 0) (st := [(2, ((o + 1 : Nat) : Int)), (2, ((o : Nat) : Int))]) d_Bd_init_9 mi_Sp_init ml_Bd_11 mv_Sp_init rfl rfl rfl (by decide) rfl rfl (Nat.le_of_ble_eq_true rfl) (by decide) (by decide) (by decide) ?_
  refine s_Sp_init (o := (o + 1)) ht hs1 ?_
  show z_V X 6 13 555 m_Bd_init 12 [(0, (2, ((o : Nat) : Int)))] [(2, ((o + 1 : Nat) : Int)), (2, ((o : Nat) : Int))] 1 5 (o + 2) _ _ Q
  refine z_putr (c := o) (c2 := (o + 1)) (kI := 2) (ty := .object "FareyRank$Spot") d_Bd_init_12 fd_Bd_walker fl_Bd_12 (by decide +kernel) (Or.inl ⟨_, rfl⟩) rfl rfl rfl rfl rfl rfl hs0 (by omega) ?_
  refine z_aload_n (i := 0) (c := o) 0 d_Bd_init_15 rfl rfl rfl ?_
  refine z_new (ci := 3) (ty := tyX3) d_Bd_init_16 rfl rfl z_ly3 z_ty3 z_df3 w_cl_Bd_18 w_in_Pi w_it_Pi hs2 ht (by decide) (by decide) ?_
  refine z_dup d_Bd_init_19 rfl ?_
  refine z_callIN (c := (o + 2)) (as := []) (d' := 3) (mc' := 3) (ms' := 36) (st := [(2, ((o + 2 : Nat) : Int)), (2, ((o : Nat) : Int))]) d_Bd_init_20 mi_Pi_init nl_Bd_20 mv_Pi_init rfl rfl rfl (by decide) rfl rfl (Nat.le_of_ble_eq_true rfl) (by decide) (by decide) (by decide) ?_
  refine s_Pi_init (o := (o + 2)) ht hs2 hs3 hs4 hs5 ?_
  show z_V X 6 13 555 m_Bd_init 23 [(0, (2, ((o : Nat) : Int)))] [(2, ((o + 2 : Nat) : Int)), (2, ((o : Nat) : Int))] 5 45 (o + 6) _ _ Q
  refine z_putr (c := o) (c2 := (o + 2)) (kI := 3) (ty := .object "FareyRank$Pins") d_Bd_init_23 fd_Bd_pins fl_Bd_21 (by decide +kernel) (Or.inl ⟨_, rfl⟩) rfl rfl rfl rfl rfl rfl hs0 (by omega) ?_
  refine z_aload_n (i := 0) (c := o) 0 d_Bd_init_26 rfl rfl rfl ?_
  refine z_new (ci := 9) (ty := tyX9) d_Bd_init_27 rfl rfl z_ly9 z_ty9 z_df9 w_cl_Bd_25 w_in_Vi w_it_Vi hs6 ht (by decide) (by decide) ?_
  refine z_dup d_Bd_init_30 rfl ?_
  refine z_callIN (c := (o + 6)) (as := []) (d' := 3) (mc' := 1) (ms' := 200) (st := [(2, ((o + 6 : Nat) : Int)), (2, ((o : Nat) : Int))]) d_Bd_init_31 mi_Vi_init nl_Bd_27 mv_Vi_init rfl rfl rfl (by decide) rfl rfl (Nat.le_of_ble_eq_true rfl) (by decide) (by decide) (by decide) ?_
  refine s_Vi_init (o := (o + 6)) ht hs6 hs7 ?_
  show z_V X 6 13 555 m_Bd_init 34 [(0, (2, ((o : Nat) : Int)))] [(2, ((o + 6 : Nat) : Int)), (2, ((o : Nat) : Int))] 7 247 (o + 8) _ _ Q
  refine z_putr (c := o) (c2 := (o + 6)) (kI := 4) (ty := .object "FareyRank$Visits") d_Bd_init_34 fd_Bd_visits fl_Bd_28 (by decide +kernel) (Or.inl ⟨_, rfl⟩) rfl rfl rfl rfl rfl rfl hs0 (by omega) ?_
  refine z_aload_n (i := 0) (c := o) 0 d_Bd_init_37 rfl rfl rfl ?_
  refine z_new (ci := 4) (ty := tyX4) d_Bd_init_38 rfl rfl z_ly4 z_ty4 z_df4 w_cl_Bd_32 w_in_Pg w_it_Pg hs8 ht (by decide) (by decide) ?_
  refine z_dup d_Bd_init_41 rfl ?_
  refine z_callIN (c := (o + 8)) (as := []) (d' := 3) (mc' := 5) (ms' := 300) (st := [(2, ((o + 8 : Nat) : Int)), (2, ((o : Nat) : Int))]) d_Bd_init_42 mi_Pg_init nl_Bd_34 mv_Pg_init rfl rfl rfl (by decide) rfl rfl (Nat.le_of_ble_eq_true rfl) (by decide) (by decide) (by decide) ?_
  refine s_Pg_init (o := (o + 8)) ht hs8 hs9 hs10 hs11 hs12 hs13 ?_
  show z_V X 6 13 555 m_Bd_init 45 [(0, (2, ((o : Nat) : Int)))] [(2, ((o + 8 : Nat) : Int)), (2, ((o : Nat) : Int))] 13 555 (o + 14) _ _ Q
  refine z_putr (c := o) (c2 := (o + 8)) (kI := 5) (ty := .object "FareyRank$Program") d_Bd_init_45 fd_Bd_program fl_Bd_35 (by decide +kernel) (Or.inl ⟨_, rfl⟩) rfl rfl rfl rfl rfl rfl hs0 (by omega) ?_
  refine z_aload_n (i := 0) (c := o) 0 d_Bd_init_48 rfl rfl rfl ?_
  refine z_callV (c := o) (as := []) (d' := 4) (mc' := 0) (ms' := 0) (st := []) d_Bd_init_49 mi_Bd_clear ml_Bd_39 mv_Bd_clear se_Bd_clear rfl (by decide) rfl rfl hs0 rfl rfl (by omega) (by decide) (by decide) (by decide) (by decide) ?_
  have hl : z_lay X (o + 14) (kS_Bd o σ) o z_SBd z_RBd := kl_Bd hs0 hs1 hs2 hs3 hs4 hs5 hs6 hs7 hs8 hs9 hs10 hs11 hs12 hs13
  refine z_C_mono (s_clearO (Q := fun r g' => r = 0 ∧ Q 0 (o + 14) (kS_Bd o σ) g') (g := kH_Bd o g) hl fun g' a1 a2 a3 a4 a5 a6 a7 a8 a9 ax af => ⟨rfl, h g' (fun c i hc => by rw [af c i (by omega), kH_Bd2 hc]) a1 a2 a3 a4 a5 a6 a7 a8 a9 ⟨_, ax⟩⟩) fun r N' σ' g' _ hh => ?_
  obtain ⟨rfl, rfl, rfl, hh⟩ := hh
  exact z_vret d_Bd_init_52 rfl (by decide) (by decide) hh

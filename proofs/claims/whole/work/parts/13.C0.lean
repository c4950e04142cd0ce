theorem d_Ch_addTerm_0 : decode (z_c m_Ch_addTerm) 0 = .ok (.aload_n 0, 1) := by decide +kernel
theorem d_Ch_addTerm_1 : decode (z_c m_Ch_addTerm) 1 = .ok (.getfield 36, 3) := by decide +kernel
theorem d_Ch_addTerm_4 : decode (z_c m_Ch_addTerm) 4 = .ok (.aload_n 0, 1) := by decide +kernel
theorem d_Ch_addTerm_5 : decode (z_c m_Ch_addTerm) 5 = .ok (.getfield 9, 3) := by decide +kernel
theorem d_Ch_addTerm_8 : decode (z_c m_Ch_addTerm) 8 = .ok (.arraylength, 1) := by decide +kernel
theorem d_Ch_addTerm_9 : decode (z_c m_Ch_addTerm) 9 = .ok (.if_icmp .ge 23, 3) := by decide +kernel
theorem d_Ch_addTerm_12 : decode (z_c m_Ch_addTerm) 12 = .ok (.aload_n 0, 1) := by decide +kernel
theorem d_Ch_addTerm_13 : decode (z_c m_Ch_addTerm) 13 = .ok (.getfield 9, 3) := by decide +kernel
theorem d_Ch_addTerm_16 : decode (z_c m_Ch_addTerm) 16 = .ok (.aload_n 0, 1) := by decide +kernel
theorem d_Ch_addTerm_17 : decode (z_c m_Ch_addTerm) 17 = .ok (.getfield 36, 3) := by decide +kernel
theorem d_Ch_addTerm_20 : decode (z_c m_Ch_addTerm) 20 = .ok (.iload_n 1, 1) := by decide +kernel
theorem d_Ch_addTerm_21 : decode (z_c m_Ch_addTerm) 21 = .ok (.iastore, 1) := by decide +kernel
theorem d_Ch_addTerm_22 : decode (z_c m_Ch_addTerm) 22 = .ok (.aload_n 0, 1) := by decide +kernel
theorem d_Ch_addTerm_23 : decode (z_c m_Ch_addTerm) 23 = .ok (.dup, 1) := by decide +kernel
theorem d_Ch_addTerm_24 : decode (z_c m_Ch_addTerm) 24 = .ok (.getfield 36, 3) := by decide +kernel
theorem d_Ch_addTerm_27 : decode (z_c m_Ch_addTerm) 27 = .ok (.iconst 1, 1) := by decide +kernel
theorem d_Ch_addTerm_28 : decode (z_c m_Ch_addTerm) 28 = .ok (.iadd, 1) := by decide +kernel
theorem d_Ch_addTerm_29 : decode (z_c m_Ch_addTerm) 29 = .ok (.putfield 36, 3) := by decide +kernel
theorem d_Ch_addTerm_32 : decode (z_c m_Ch_addTerm) 32 = .ok (.aload_n 0, 1) := by decide +kernel
theorem d_Ch_addTerm_33 : decode (z_c m_Ch_addTerm) 33 = .ok (.dup, 1) := by decide +kernel
theorem d_Ch_addTerm_34 : decode (z_c m_Ch_addTerm) 34 = .ok (.getfield 39, 3) := by decide +kernel
theorem d_Ch_addTerm_37 : decode (z_c m_Ch_addTerm) 37 = .ok (.iload_n 1, 1) := by decide +kernel
theorem d_Ch_addTerm_38 : decode (z_c m_Ch_addTerm) 38 = .ok (.iadd, 1) := by decide +kernel
theorem d_Ch_addTerm_39 : decode (z_c m_Ch_addTerm) 39 = .ok (.putfield 39, 3) := by decide +kernel
theorem d_Ch_addTerm_42 : decode (z_c m_Ch_addTerm) 42 = .ok (.iload_n 1, 1) := by decide +kernel
theorem d_Ch_addTerm_43 : decode (z_c m_Ch_addTerm) 43 = .ok (.aload_n 0, 1) := by decide +kernel
theorem d_Ch_addTerm_44 : decode (z_c m_Ch_addTerm) 44 = .ok (.getfield 15, 3) := by decide +kernel
theorem d_Ch_addTerm_47 : decode (z_c m_Ch_addTerm) 47 = .ok (.imul, 1) := by decide +kernel
theorem d_Ch_addTerm_48 : decode (z_c m_Ch_addTerm) 48 = .ok (.aload_n 0, 1) := by decide +kernel
theorem d_Ch_addTerm_49 : decode (z_c m_Ch_addTerm) 49 = .ok (.getfield 22, 3) := by decide +kernel
theorem d_Ch_addTerm_52 : decode (z_c m_Ch_addTerm) 52 = .ok (.iadd, 1) := by decide +kernel
theorem d_Ch_addTerm_53 : decode (z_c m_Ch_addTerm) 53 = .ok (.istore_n 2, 1) := by decide +kernel
theorem d_Ch_addTerm_54 : decode (z_c m_Ch_addTerm) 54 = .ok (.iload_n 1, 1) := by decide +kernel
theorem d_Ch_addTerm_55 : decode (z_c m_Ch_addTerm) 55 = .ok (.aload_n 0, 1) := by decide +kernel
theorem d_Ch_addTerm_56 : decode (z_c m_Ch_addTerm) 56 = .ok (.getfield 19, 3) := by decide +kernel
theorem d_Ch_addTerm_59 : decode (z_c m_Ch_addTerm) 59 = .ok (.imul, 1) := by decide +kernel
theorem d_Ch_addTerm_60 : decode (z_c m_Ch_addTerm) 60 = .ok (.aload_n 0, 1) := by decide +kernel
theorem d_Ch_addTerm_61 : decode (z_c m_Ch_addTerm) 61 = .ok (.getfield 25, 3) := by decide +kernel
theorem d_Ch_addTerm_64 : decode (z_c m_Ch_addTerm) 64 = .ok (.iadd, 1) := by decide +kernel
theorem d_Ch_addTerm_65 : decode (z_c m_Ch_addTerm) 65 = .ok (.istore_n 3, 1) := by decide +kernel
theorem d_Ch_addTerm_66 : decode (z_c m_Ch_addTerm) 66 = .ok (.aload_n 0, 1) := by decide +kernel
theorem d_Ch_addTerm_67 : decode (z_c m_Ch_addTerm) 67 = .ok (.aload_n 0, 1) := by decide +kernel
theorem d_Ch_addTerm_68 : decode (z_c m_Ch_addTerm) 68 = .ok (.getfield 15, 3) := by decide +kernel
theorem d_Ch_addTerm_71 : decode (z_c m_Ch_addTerm) 71 = .ok (.putfield 22, 3) := by decide +kernel
theorem d_Ch_addTerm_74 : decode (z_c m_Ch_addTerm) 74 = .ok (.aload_n 0, 1) := by decide +kernel
theorem d_Ch_addTerm_75 : decode (z_c m_Ch_addTerm) 75 = .ok (.aload_n 0, 1) := by decide +kernel
theorem d_Ch_addTerm_76 : decode (z_c m_Ch_addTerm) 76 = .ok (.getfield 19, 3) := by decide +kernel
theorem d_Ch_addTerm_79 : decode (z_c m_Ch_addTerm) 79 = .ok (.putfield 25, 3) := by decide +kernel
theorem d_Ch_addTerm_82 : decode (z_c m_Ch_addTerm) 82 = .ok (.aload_n 0, 1) := by decide +kernel
theorem d_Ch_addTerm_83 : decode (z_c m_Ch_addTerm) 83 = .ok (.iload_n 2, 1) := by decide +kernel
theorem d_Ch_addTerm_84 : decode (z_c m_Ch_addTerm) 84 = .ok (.putfield 15, 3) := by decide +kernel
theorem d_Ch_addTerm_87 : decode (z_c m_Ch_addTerm) 87 = .ok (.aload_n 0, 1) := by decide +kernel
theorem d_Ch_addTerm_88 : decode (z_c m_Ch_addTerm) 88 = .ok (.iload_n 3, 1) := by decide +kernel
theorem d_Ch_addTerm_89 : decode (z_c m_Ch_addTerm) 89 = .ok (.putfield 19, 3) := by decide +kernel
theorem d_Ch_addTerm_92 : decode (z_c m_Ch_addTerm) 92 = .ok (.return_, 1) := by decide +kernel
set_option maxRecDepth 8000 in
theorem b_Ch_addTerm_0 {X : z_X} {N : Nat} {σ g : z_G} {Q : z_P} {a1 : Int} {o : Nat} (ho : z_lay X N σ o z_SCh z_RCh) (h : ((32 ≤ (g o 1)) → ((-2147483648 ≤ ((g o 2) + a1) ∧ ((g o 2) + a1) ≤ 2147483647) ∧ ((-2147483648 ≤ (a1 * (g o 3)) ∧ (a1 * (g o 3)) ≤ 2147483647) ∧ ((-2147483648 ≤ ((a1 * (g o 3)) + (g o 5)) ∧ ((a1 * (g o 3)) + (g o 5)) ≤ 2147483647) ∧ ((-2147483648 ≤ (a1 * (g o 4)) ∧ (a1 * (g o 4)) ≤ 2147483647) ∧ ((-2147483648 ≤ ((a1 * (g o 4)) + (g o 6)) ∧ ((a1 * (g o 4)) + (g o 6)) ≤ 2147483647) ∧ Q 0 (z_up (z_up (z_up (z_up (z_up g o 2 ((g o 2) + a1)) o 5 (g o 3)) o 6 (g o 4)) o 3 ((a1 * (g o 3)) + (g o 5))) o 4 ((a1 * (g o 4)) + (g o 6))))))))) ∧ (¬ (32 ≤ (g o 1)) → ((0 ≤ (g o 1) ∧ (g o 1) < 32) ∧ ((-2147483648 ≤ ((g o 1) + 1) ∧ ((g o 1) + 1) ≤ 2147483647) ∧ ((-2147483648 ≤ ((g o 2) + a1) ∧ ((g o 2) + a1) ≤ 2147483647) ∧ ((-2147483648 ≤ (a1 * (g o 3)) ∧ (a1 * (g o 3)) ≤ 2147483647) ∧ ((-2147483648 ≤ ((a1 * (g o 3)) + (g o 5)) ∧ ((a1 * (g o 3)) + (g o 5)) ≤ 2147483647) ∧ ((-2147483648 ≤ (a1 * (g o 4)) ∧ (a1 * (g o 4)) ≤ 2147483647) ∧ ((-2147483648 ≤ ((a1 * (g o 4)) + (g o 6)) ∧ ((a1 * (g o 4)) + (g o 6)) ≤ 2147483647) ∧ Q 0 (z_up (z_up (z_up (z_up (z_up (z_up (z_up g (o + 1) (g o 1) a1) o 1 ((g o 1) + 1)) o 2 ((g o 2) + a1)) o 5 (g o 3)) o 6 (g o 4)) o 3 ((a1 * (g o 3)) + (g o 5))) o 4 ((a1 * (g o 4)) + (g o 6)))))))))))) : z_O X 1 m_Ch_addTerm [(2, ((o : Nat) : Int)), (0, a1)] N σ g Q := by
  refine z_Oenter mi_Ch_addTerm rfl (fun _ => ?_)
  show z_U X 1 m_Ch_addTerm 0 [(0, (2, ((o : Nat) : Int))), (1, (0, a1))] [] N σ g Q
  refine z_aload_n (i := 0) (c := o) 0 d_Ch_addTerm_0 rfl rfl rfl ?_
  refine z_geti (c := o) (kI := 1) d_Ch_addTerm_1 fd_Ch_many fl_Ch_36 (Or.inl rfl) rfl rfl (ks_Ch_0 ho) (kl_Ch_0 ho) ?_
  refine z_aload_n (i := 0) (c := o) 0 d_Ch_addTerm_4 rfl rfl rfl ?_
  refine z_getr (c := o) (kI := 0) (r2 := ((o + 1 : Nat) : Int)) d_Ch_addTerm_5 fd_Ch_row fl_Ch_9 rfl rfl rfl (ks_Ch_0 ho) (kl_Ch_0 ho) (kr_Ch_0_0 ho) ?_
  refine z_alen (c := (o + 1)) (m := 32) (cA := z_A X 1) d_Ch_addTerm_8 rfl (ks_Ch_1 ho) (kl_Ch_1 ho) rfl (by decide) rfl ?_
  refine z_icmp_ge (tgt := 32) d_Ch_addTerm_9 (by decide) (fun c1 => ?_) (fun c1 => ?_)
  · have h := h.1 c1
    refine z_aload_n (i := 0) (c := o) 0 d_Ch_addTerm_32 rfl rfl rfl ?_
    refine z_dup d_Ch_addTerm_33 rfl ?_
    refine z_geti (c := o) (kI := 2) d_Ch_addTerm_34 fd_Ch_sum fl_Ch_39 (Or.inl rfl) rfl rfl (ks_Ch_0 ho) (kl_Ch_0 ho) ?_
    refine z_iload_n (i := 1) 1 d_Ch_addTerm_37 rfl rfl ?_
    obtain ⟨c2, h⟩ := h
    refine z_iadd d_Ch_addTerm_38 c2 ?_
    refine z_puti (c := o) (kI := 2) d_Ch_addTerm_39 fd_Ch_sum fl_Ch_39 pf_Ch_sum rfl rfl rfl rfl (ks_Ch_0 ho) (kl_Ch_0 ho) ?_
    refine z_iload_n (i := 1) 1 d_Ch_addTerm_42 rfl rfl ?_
    refine z_aload_n (i := 0) (c := o) 0 d_Ch_addTerm_43 rfl rfl rfl ?_
    refine z_geti (c := o) (kI := 3) d_Ch_addTerm_44 fd_Ch_top fl_Ch_15 (Or.inl rfl) rfl rfl (ks_Ch_0 ho) (kl_Ch_0 ho) ?_
    refine z_ti (b := g o 3) (by simp [z_up]) ?_
    obtain ⟨c3, h⟩ := h
    refine z_imul d_Ch_addTerm_47 c3 ?_
    refine z_aload_n (i := 0) (c := o) 0 d_Ch_addTerm_48 rfl rfl rfl ?_
    refine z_geti (c := o) (kI := 5) d_Ch_addTerm_49 fd_Ch_lastTop fl_Ch_22 (Or.inl rfl) rfl rfl (ks_Ch_0 ho) (kl_Ch_0 ho) ?_
    refine z_ti (b := g o 5) (by simp [z_up]) ?_
    obtain ⟨c4, h⟩ := h
    refine z_iadd d_Ch_addTerm_52 c4 ?_
    refine z_istore_n (i := 2) (ls' := [(2, (0, (a1 * (g o 3)) + (g o 5))), (0, (2, ((o : Nat) : Int))), (1, (0, a1))]) d_Ch_addTerm_53 rfl rfl rfl ?_
    refine z_iload_n (i := 1) 2 d_Ch_addTerm_54 rfl rfl ?_
    refine z_aload_n (i := 0) (c := o) 1 d_Ch_addTerm_55 rfl rfl rfl ?_
    refine z_geti (c := o) (kI := 4) d_Ch_addTerm_56 fd_Ch_bottom fl_Ch_19 (Or.inl rfl) rfl rfl (ks_Ch_0 ho) (kl_Ch_0 ho) ?_
    refine z_ti (b := g o 4) (by simp [z_up]) ?_
    obtain ⟨c5, h⟩ := h
    refine z_imul d_Ch_addTerm_59 c5 ?_
    refine z_aload_n (i := 0) (c := o) 1 d_Ch_addTerm_60 rfl rfl rfl ?_
    refine z_geti (c := o) (kI := 6) d_Ch_addTerm_61 fd_Ch_lastBottom fl_Ch_25 (Or.inl rfl) rfl rfl (ks_Ch_0 ho) (kl_Ch_0 ho) ?_
    refine z_ti (b := g o 6) (by simp [z_up]) ?_
    obtain ⟨c6, h⟩ := h
    refine z_iadd d_Ch_addTerm_64 c6 ?_
    refine z_istore_n (i := 3) (ls' := [(3, (0, (a1 * (g o 4)) + (g o 6))), (2, (0, (a1 * (g o 3)) + (g o 5))), (0, (2, ((o : Nat) : Int))), (1, (0, a1))]) d_Ch_addTerm_65 rfl rfl rfl ?_
    refine z_aload_n (i := 0) (c := o) 2 d_Ch_addTerm_66 rfl rfl rfl ?_
    refine z_aload_n (i := 0) (c := o) 2 d_Ch_addTerm_67 rfl rfl rfl ?_
    refine z_geti (c := o) (kI := 3) d_Ch_addTerm_68 fd_Ch_top fl_Ch_15 (Or.inl rfl) rfl rfl (ks_Ch_0 ho) (kl_Ch_0 ho) ?_
    refine z_ti (b := g o 3) (by simp [z_up]) ?_
    refine z_puti (c := o) (kI := 5) d_Ch_addTerm_71 fd_Ch_lastTop fl_Ch_22 pf_Ch_lastTop rfl rfl rfl rfl (ks_Ch_0 ho) (kl_Ch_0 ho) ?_
    refine z_aload_n (i := 0) (c := o) 2 d_Ch_addTerm_74 rfl rfl rfl ?_
    refine z_aload_n (i := 0) (c := o) 2 d_Ch_addTerm_75 rfl rfl rfl ?_
    refine z_geti (c := o) (kI := 4) d_Ch_addTerm_76 fd_Ch_bottom fl_Ch_19 (Or.inl rfl) rfl rfl (ks_Ch_0 ho) (kl_Ch_0 ho) ?_
    refine z_ti (b := g o 4) (by simp [z_up]) ?_
    refine z_puti (c := o) (kI := 6) d_Ch_addTerm_79 fd_Ch_lastBottom fl_Ch_25 pf_Ch_lastBottom rfl rfl rfl rfl (ks_Ch_0 ho) (kl_Ch_0 ho) ?_
    refine z_aload_n (i := 0) (c := o) 2 d_Ch_addTerm_82 rfl rfl rfl ?_
    refine z_iload_n (i := 2) 1 d_Ch_addTerm_83 rfl rfl ?_
    refine z_puti (c := o) (kI := 3) d_Ch_addTerm_84 fd_Ch_top fl_Ch_15 pf_Ch_top rfl rfl rfl rfl (ks_Ch_0 ho) (kl_Ch_0 ho) ?_
    refine z_aload_n (i := 0) (c := o) 2 d_Ch_addTerm_87 rfl rfl rfl ?_
    refine z_iload_n (i := 3) 0 d_Ch_addTerm_88 rfl rfl ?_
    refine z_puti (c := o) (kI := 4) d_Ch_addTerm_89 fd_Ch_bottom fl_Ch_19 pf_Ch_bottom rfl rfl rfl rfl (ks_Ch_0 ho) (kl_Ch_0 ho) ?_
    exact z_vret d_Ch_addTerm_92 rfl (by decide) (by decide) ⟨rfl, rfl, h⟩
  · have h := h.2 c1
    refine z_aload_n (i := 0) (c := o) 0 d_Ch_addTerm_12 rfl rfl rfl ?_
    refine z_getr (c := o) (kI := 0) (r2 := ((o + 1 : Nat) : Int)) d_Ch_addTerm_13 fd_Ch_row fl_Ch_9 rfl rfl rfl (ks_Ch_0 ho) (kl_Ch_0 ho) (kr_Ch_0_0 ho) ?_
    refine z_aload_n (i := 0) (c := o) 0 d_Ch_addTerm_16 rfl rfl rfl ?_
    refine z_geti (c := o) (kI := 1) d_Ch_addTerm_17 fd_Ch_many fl_Ch_36 (Or.inl rfl) rfl rfl (ks_Ch_0 ho) (kl_Ch_0 ho) ?_
    refine z_iload_n (i := 1) 1 d_Ch_addTerm_20 rfl rfl ?_
    obtain ⟨c7, h⟩ := h
    refine z_iast (c := (o + 1)) (m := 32) d_Ch_addTerm_21 rfl (ks_Ch_1 ho) (kl_Ch_1 ho) rfl (by decide) c7 ?_
    refine z_aload_n (i := 0) (c := o) 0 d_Ch_addTerm_22 rfl rfl rfl ?_
    refine z_dup d_Ch_addTerm_23 rfl ?_
    refine z_geti (c := o) (kI := 1) d_Ch_addTerm_24 fd_Ch_many fl_Ch_36 (Or.inl rfl) rfl rfl (ks_Ch_0 ho) (kl_Ch_0 ho) ?_
    refine z_ti (b := g o 1) (by simp [z_up]) ?_
    refine z_iconst (n := 1) d_Ch_addTerm_27 (by decide) ?_
    obtain ⟨c8, h⟩ := h
    refine z_iadd d_Ch_addTerm_28 c8 ?_
    refine z_puti (c := o) (kI := 1) d_Ch_addTerm_29 fd_Ch_many fl_Ch_36 pf_Ch_many rfl rfl rfl rfl (ks_Ch_0 ho) (kl_Ch_0 ho) ?_
    refine z_aload_n (i := 0) (c := o) 0 d_Ch_addTerm_32 rfl rfl rfl ?_
    refine z_dup d_Ch_addTerm_33 rfl ?_
    refine z_geti (c := o) (kI := 2) d_Ch_addTerm_34 fd_Ch_sum fl_Ch_39 (Or.inl rfl) rfl rfl (ks_Ch_0 ho) (kl_Ch_0 ho) ?_
    refine z_ti (b := g o 2) (by simp [z_up]) ?_
    refine z_iload_n (i := 1) 1 d_Ch_addTerm_37 rfl rfl ?_
    obtain ⟨c9, h⟩ := h
    refine z_iadd d_Ch_addTerm_38 c9 ?_
    refine z_puti (c := o) (kI := 2) d_Ch_addTerm_39 fd_Ch_sum fl_Ch_39 pf_Ch_sum rfl rfl rfl rfl (ks_Ch_0 ho) (kl_Ch_0 ho) ?_
    refine z_iload_n (i := 1) 1 d_Ch_addTerm_42 rfl rfl ?_
    refine z_aload_n (i := 0) (c := o) 0 d_Ch_addTerm_43 rfl rfl rfl ?_
    refine z_geti (c := o) (kI := 3) d_Ch_addTerm_44 fd_Ch_top fl_Ch_15 (Or.inl rfl) rfl rfl (ks_Ch_0 ho) (kl_Ch_0 ho) ?_
    refine z_ti (b := g o 3) (by simp [z_up]) ?_
    obtain ⟨c10, h⟩ := h
    refine z_imul d_Ch_addTerm_47 c10 ?_
    refine z_aload_n (i := 0) (c := o) 0 d_Ch_addTerm_48 rfl rfl rfl ?_
    refine z_geti (c := o) (kI := 5) d_Ch_addTerm_49 fd_Ch_lastTop fl_Ch_22 (Or.inl rfl) rfl rfl (ks_Ch_0 ho) (kl_Ch_0 ho) ?_
    refine z_ti (b := g o 5) (by simp [z_up]) ?_
    obtain ⟨c11, h⟩ := h
    refine z_iadd d_Ch_addTerm_52 c11 ?_
    refine z_istore_n (i := 2) (ls' := [(2, (0, (a1 * (g o 3)) + (g o 5))), (0, (2, ((o : Nat) : Int))), (1, (0, a1))]) d_Ch_addTerm_53 rfl rfl rfl ?_
    refine z_iload_n (i := 1) 2 d_Ch_addTerm_54 rfl rfl ?_
    refine z_aload_n (i := 0) (c := o) 1 d_Ch_addTerm_55 rfl rfl rfl ?_
    refine z_geti (c := o) (kI := 4) d_Ch_addTerm_56 fd_Ch_bottom fl_Ch_19 (Or.inl rfl) rfl rfl (ks_Ch_0 ho) (kl_Ch_0 ho) ?_
    refine z_ti (b := g o 4) (by simp [z_up]) ?_
    obtain ⟨c12, h⟩ := h
    refine z_imul d_Ch_addTerm_59 c12 ?_
    refine z_aload_n (i := 0) (c := o) 1 d_Ch_addTerm_60 rfl rfl rfl ?_
    refine z_geti (c := o) (kI := 6) d_Ch_addTerm_61 fd_Ch_lastBottom fl_Ch_25 (Or.inl rfl) rfl rfl (ks_Ch_0 ho) (kl_Ch_0 ho) ?_
    refine z_ti (b := g o 6) (by simp [z_up]) ?_
    obtain ⟨c13, h⟩ := h
    refine z_iadd d_Ch_addTerm_64 c13 ?_
    refine z_istore_n (i := 3) (ls' := [(3, (0, (a1 * (g o 4)) + (g o 6))), (2, (0, (a1 * (g o 3)) + (g o 5))), (0, (2, ((o : Nat) : Int))), (1, (0, a1))]) d_Ch_addTerm_65 rfl rfl rfl ?_
    refine z_aload_n (i := 0) (c := o) 2 d_Ch_addTerm_66 rfl rfl rfl ?_
    refine z_aload_n (i := 0) (c := o) 2 d_Ch_addTerm_67 rfl rfl rfl ?_
    refine z_geti (c := o) (kI := 3) d_Ch_addTerm_68 fd_Ch_top fl_Ch_15 (Or.inl rfl) rfl rfl (ks_Ch_0 ho) (kl_Ch_0 ho) ?_
    refine z_ti (b := g o 3) (by simp [z_up]) ?_
    refine z_puti (c := o) (kI := 5) d_Ch_addTerm_71 fd_Ch_lastTop fl_Ch_22 pf_Ch_lastTop rfl rfl rfl rfl (ks_Ch_0 ho) (kl_Ch_0 ho) ?_
    refine z_aload_n (i := 0) (c := o) 2 d_Ch_addTerm_74 rfl rfl rfl ?_
    refine z_aload_n (i := 0) (c := o) 2 d_Ch_addTerm_75 rfl rfl rfl ?_
    refine z_geti (c := o) (kI := 4) d_Ch_addTerm_76 fd_Ch_bottom fl_Ch_19 (Or.inl rfl) rfl rfl (ks_Ch_0 ho) (kl_Ch_0 ho) ?_
    refine z_ti (b := g o 4) (by simp [z_up]) ?_
    refine z_puti (c := o) (kI := 6) d_Ch_addTerm_79 fd_Ch_lastBottom fl_Ch_25 pf_Ch_lastBottom rfl rfl rfl rfl (ks_Ch_0 ho) (kl_Ch_0 ho) ?_
    refine z_aload_n (i := 0) (c := o) 2 d_Ch_addTerm_82 rfl rfl rfl ?_
    refine z_iload_n (i := 2) 1 d_Ch_addTerm_83 rfl rfl ?_
    refine z_puti (c := o) (kI := 3) d_Ch_addTerm_84 fd_Ch_top fl_Ch_15 pf_Ch_top rfl rfl rfl rfl (ks_Ch_0 ho) (kl_Ch_0 ho) ?_
    refine z_aload_n (i := 0) (c := o) 2 d_Ch_addTerm_87 rfl rfl rfl ?_
    refine z_iload_n (i := 3) 0 d_Ch_addTerm_88 rfl rfl ?_
    refine z_puti (c := o) (kI := 4) d_Ch_addTerm_89 fd_Ch_bottom fl_Ch_19 pf_Ch_bottom rfl rfl rfl rfl (ks_Ch_0 ho) (kl_Ch_0 ho) ?_
    exact z_vret d_Ch_addTerm_92 rfl (by decide) (by decide) ⟨rfl, rfl, h⟩
theorem d_Ch_isAlike_0 : decode (z_c m_Ch_isAlike) 0 = .ok (.aload_n 0, 1) := by decide +kernel
theorem d_Ch_isAlike_1 : decode (z_c m_Ch_isAlike) 1 = .ok (.getfield 15, 3) := by decide +kernel
theorem d_Ch_isAlike_4 : decode (z_c m_Ch_isAlike) 4 = .ok (.aload_n 1, 1) := by decide +kernel
theorem d_Ch_isAlike_5 : decode (z_c m_Ch_isAlike) 5 = .ok (.getfield 15, 3) := by decide +kernel
theorem d_Ch_isAlike_8 : decode (z_c m_Ch_isAlike) 8 = .ok (.if_icmp .ne 18, 3) := by decide +kernel
theorem d_Ch_isAlike_11 : decode (z_c m_Ch_isAlike) 11 = .ok (.aload_n 0, 1) := by decide +kernel
theorem d_Ch_isAlike_12 : decode (z_c m_Ch_isAlike) 12 = .ok (.getfield 19, 3) := by decide +kernel
theorem d_Ch_isAlike_15 : decode (z_c m_Ch_isAlike) 15 = .ok (.aload_n 1, 1) := by decide +kernel
theorem d_Ch_isAlike_16 : decode (z_c m_Ch_isAlike) 16 = .ok (.getfield 19, 3) := by decide +kernel
theorem d_Ch_isAlike_19 : decode (z_c m_Ch_isAlike) 19 = .ok (.if_icmp .ne 7, 3) := by decide +kernel
theorem d_Ch_isAlike_22 : decode (z_c m_Ch_isAlike) 22 = .ok (.iconst 1, 1) := by decide +kernel
theorem d_Ch_isAlike_23 : decode (z_c m_Ch_isAlike) 23 = .ok (.goto 4, 3) := by decide +kernel
theorem d_Ch_isAlike_26 : decode (z_c m_Ch_isAlike) 26 = .ok (.iconst 0, 1) := by decide +kernel
theorem d_Ch_isAlike_27 : decode (z_c m_Ch_isAlike) 27 = .ok (.ireturn, 1) := by decide +kernel
set_option maxRecDepth 8000 in
theorem b_Ch_isAlike_0 {X : z_X} {N : Nat} {σ g : z_G} {Q : z_P} {o p1 : Nat} (ho : z_lay X N σ o z_SCh z_RCh) (hp1 : z_lay X N σ p1 z_SCh z_RCh) (h : (((g o 3) = (g p1 3)) → ((((g o 4) = (g p1 4)) → Q 1 g) ∧ (¬ ((g o 4) = (g p1 4)) → Q 0 g))) ∧ (¬ ((g o 3) = (g p1 3)) → Q 0 g)) : z_O X 1 m_Ch_isAlike [(2, ((o : Nat) : Int)), (2, ((p1 : Nat) : Int))] N σ g Q := by
  refine z_Oenter mi_Ch_isAlike rfl (fun _ => ?_)
  show z_U X 1 m_Ch_isAlike 0 [(0, (2, ((o : Nat) : Int))), (1, (2, ((p1 : Nat) : Int)))] [] N σ g Q
  refine z_aload_n (i := 0) (c := o) 0 d_Ch_isAlike_0 rfl rfl rfl ?_
  refine z_geti (c := o) (kI := 3) d_Ch_isAlike_1 fd_Ch_top fl_Ch_15 (Or.inl rfl) rfl rfl (ks_Ch_0 ho) (kl_Ch_0 ho) ?_
  refine z_aload_n (i := 1) (c := p1) 1 d_Ch_isAlike_4 rfl rfl rfl ?_
  refine z_geti (c := p1) (kI := 3) d_Ch_isAlike_5 fd_Ch_top fl_Ch_15 (Or.inl rfl) rfl rfl (ks_Ch_0 hp1) (kl_Ch_0 hp1) ?_
  refine z_icmp_ne (tgt := 26) d_Ch_isAlike_8 (by decide) (fun c1 => ?_) (fun c1 => ?_)
  · have h := h.2 c1
    refine z_iconst (n := 0) d_Ch_isAlike_26 (by decide) ?_
    exact z_zret d_Ch_isAlike_27 rfl (by decide) (by decide) (by decide) ⟨rfl, rfl, h⟩
  · have h := h.1 c1
    refine z_aload_n (i := 0) (c := o) 0 d_Ch_isAlike_11 rfl rfl rfl ?_
    refine z_geti (c := o) (kI := 4) d_Ch_isAlike_12 fd_Ch_bottom fl_Ch_19 (Or.inl rfl) rfl rfl (ks_Ch_0 ho) (kl_Ch_0 ho) ?_
    refine z_aload_n (i := 1) (c := p1) 1 d_Ch_isAlike_15 rfl rfl rfl ?_
    refine z_geti (c := p1) (kI := 4) d_Ch_isAlike_16 fd_Ch_bottom fl_Ch_19 (Or.inl rfl) rfl rfl (ks_Ch_0 hp1) (kl_Ch_0 hp1) ?_
    refine z_icmp_ne (tgt := 26) d_Ch_isAlike_19 (by decide) (fun c2 => ?_) (fun c2 => ?_)
    · have h := h.2 c2
      refine z_iconst (n := 0) d_Ch_isAlike_26 (by decide) ?_
      exact z_zret d_Ch_isAlike_27 rfl (by decide) (by decide) (by decide) ⟨rfl, rfl, h⟩
    · have h := h.1 c2
      refine z_iconst (n := 1) d_Ch_isAlike_22 (by decide) ?_
      refine z_goto (tgt := 27) d_Ch_isAlike_23 (by decide) ?_
      exact z_zret d_Ch_isAlike_27 rfl (by decide) (by decide) (by decide) ⟨rfl, rfl, h⟩
theorem d_Ch_isOfTree_0 : decode (z_c m_Ch_isOfTree) 0 = .ok (.aload_n 0, 1) := by decide +kernel
theorem d_Ch_isOfTree_1 : decode (z_c m_Ch_isOfTree) 1 = .ok (.getfield 19, 3) := by decide +kernel
theorem d_Ch_isOfTree_4 : decode (z_c m_Ch_isOfTree) 4 = .ok (.iconst 1, 1) := by decide +kernel
theorem d_Ch_isOfTree_5 : decode (z_c m_Ch_isOfTree) 5 = .ok (.if_icmp .le 7, 3) := by decide +kernel
theorem d_Ch_isOfTree_8 : decode (z_c m_Ch_isOfTree) 8 = .ok (.iconst 1, 1) := by decide +kernel
theorem d_Ch_isOfTree_9 : decode (z_c m_Ch_isOfTree) 9 = .ok (.goto 4, 3) := by decide +kernel
theorem d_Ch_isOfTree_12 : decode (z_c m_Ch_isOfTree) 12 = .ok (.iconst 0, 1) := by decide +kernel
theorem d_Ch_isOfTree_13 : decode (z_c m_Ch_isOfTree) 13 = .ok (.ireturn, 1) := by decide +kernel
set_option maxRecDepth 8000 in
theorem b_Ch_isOfTree_0 {X : z_X} {N : Nat} {σ g : z_G} {Q : z_P} {o : Nat} (ho : z_lay X N σ o z_SCh z_RCh) (h : (((g o 4) ≤ 1) → Q 0 g) ∧ (¬ ((g o 4) ≤ 1) → Q 1 g)) : z_O X 1 m_Ch_isOfTree [(2, ((o : Nat) : Int))] N σ g Q := by
  refine z_Oenter mi_Ch_isOfTree rfl (fun _ => ?_)
  show z_U X 1 m_Ch_isOfTree 0 [(0, (2, ((o : Nat) : Int)))] [] N σ g Q
  refine z_aload_n (i := 0) (c := o) 0 d_Ch_isOfTree_0 rfl rfl rfl ?_
  refine z_geti (c := o) (kI := 4) d_Ch_isOfTree_1 fd_Ch_bottom fl_Ch_19 (Or.inl rfl) rfl rfl (ks_Ch_0 ho) (kl_Ch_0 ho) ?_
  refine z_iconst (n := 1) d_Ch_isOfTree_4 (by decide) ?_
  refine z_icmp_le (tgt := 12) d_Ch_isOfTree_5 (by decide) (fun c1 => ?_) (fun c1 => ?_)
  · have h := h.1 c1
    refine z_iconst (n := 0) d_Ch_isOfTree_12 (by decide) ?_
    exact z_zret d_Ch_isOfTree_13 rfl (by decide) (by decide) (by decide) ⟨rfl, rfl, h⟩
  · have h := h.2 c1
    refine z_iconst (n := 1) d_Ch_isOfTree_8 (by decide) ?_
    refine z_goto (tgt := 13) d_Ch_isOfTree_9 (by decide) ?_
    exact z_zret d_Ch_isOfTree_13 rfl (by decide) (by decide) (by decide) ⟨rfl, rfl, h⟩
theorem d_Ch_termOf_0 : decode (z_c m_Ch_termOf) 0 = .ok (.iload_n 1, 1) := by decide +kernel
theorem d_Ch_termOf_1 : decode (z_c m_Ch_termOf) 1 = .ok (.ifCond .lt 29, 3) := by decide +kernel
theorem d_Ch_termOf_4 : decode (z_c m_Ch_termOf) 4 = .ok (.iload_n 1, 1) := by decide +kernel
theorem d_Ch_termOf_5 : decode (z_c m_Ch_termOf) 5 = .ok (.aload_n 0, 1) := by decide +kernel
theorem d_Ch_termOf_6 : decode (z_c m_Ch_termOf) 6 = .ok (.getfield 36, 3) := by decide +kernel
theorem d_Ch_termOf_9 : decode (z_c m_Ch_termOf) 9 = .ok (.if_icmp .ge 21, 3) := by decide +kernel
theorem d_Ch_termOf_12 : decode (z_c m_Ch_termOf) 12 = .ok (.iload_n 1, 1) := by decide +kernel
theorem d_Ch_termOf_13 : decode (z_c m_Ch_termOf) 13 = .ok (.aload_n 0, 1) := by decide +kernel
theorem d_Ch_termOf_14 : decode (z_c m_Ch_termOf) 14 = .ok (.getfield 9, 3) := by decide +kernel
theorem d_Ch_termOf_17 : decode (z_c m_Ch_termOf) 17 = .ok (.arraylength, 1) := by decide +kernel
theorem d_Ch_termOf_18 : decode (z_c m_Ch_termOf) 18 = .ok (.if_icmp .ge 12, 3) := by decide +kernel
theorem d_Ch_termOf_21 : decode (z_c m_Ch_termOf) 21 = .ok (.aload_n 0, 1) := by decide +kernel
theorem d_Ch_termOf_22 : decode (z_c m_Ch_termOf) 22 = .ok (.getfield 9, 3) := by decide +kernel
theorem d_Ch_termOf_25 : decode (z_c m_Ch_termOf) 25 = .ok (.iload_n 1, 1) := by decide +kernel
theorem d_Ch_termOf_26 : decode (z_c m_Ch_termOf) 26 = .ok (.iaload, 1) := by decide +kernel
theorem d_Ch_termOf_27 : decode (z_c m_Ch_termOf) 27 = .ok (.goto 4, 3) := by decide +kernel
theorem d_Ch_termOf_30 : decode (z_c m_Ch_termOf) 30 = .ok (.iconst 0, 1) := by decide +kernel
theorem d_Ch_termOf_31 : decode (z_c m_Ch_termOf) 31 = .ok (.ireturn, 1) := by decide +kernel
set_option maxRecDepth 8000 in
theorem b_Ch_termOf_0 {X : z_X} {N : Nat} {σ g : z_G} {Q : z_P} {a1 : Int} {o : Nat} (ho : z_lay X N σ o z_SCh z_RCh) (h : ((a1 < 0) → Q 0 g) ∧ (¬ (a1 < 0) → ((((g o 1) ≤ a1) → Q 0 g) ∧ (¬ ((g o 1) ≤ a1) → (((32 ≤ a1) → Q 0 g) ∧ (¬ (32 ≤ a1) → ((0 ≤ a1 ∧ a1 < 32) ∧ Q (g (o + 1) a1) g))))))) : z_O X 1 m_Ch_termOf [(2, ((o : Nat) : Int)), (0, a1)] N σ g Q := by
  refine z_Oenter mi_Ch_termOf rfl (fun _ => ?_)
  show z_U X 1 m_Ch_termOf 0 [(0, (2, ((o : Nat) : Int))), (1, (0, a1))] [] N σ g Q
  refine z_iload_n (i := 1) 1 d_Ch_termOf_0 rfl rfl ?_
  refine z_if_lt (tgt := 30) d_Ch_termOf_1 (by decide) (fun c1 => ?_) (fun c1 => ?_)
  · have h := h.1 c1
    refine z_iconst (n := 0) d_Ch_termOf_30 (by decide) ?_
    exact z_iret d_Ch_termOf_31 rfl (by decide) (by decide) ⟨rfl, rfl, h⟩
  · have h := h.2 c1
    refine z_iload_n (i := 1) 1 d_Ch_termOf_4 rfl rfl ?_
    refine z_aload_n (i := 0) (c := o) 0 d_Ch_termOf_5 rfl rfl rfl ?_
    refine z_geti (c := o) (kI := 1) d_Ch_termOf_6 fd_Ch_many fl_Ch_36 (Or.inl rfl) rfl rfl (ks_Ch_0 ho) (kl_Ch_0 ho) ?_
    refine z_icmp_ge (tgt := 30) d_Ch_termOf_9 (by decide) (fun c2 => ?_) (fun c2 => ?_)
    · have h := h.1 c2
      refine z_iconst (n := 0) d_Ch_termOf_30 (by decide) ?_
      exact z_iret d_Ch_termOf_31 rfl (by decide) (by decide) ⟨rfl, rfl, h⟩
    · have h := h.2 c2
      refine z_iload_n (i := 1) 1 d_Ch_termOf_12 rfl rfl ?_
      refine z_aload_n (i := 0) (c := o) 0 d_Ch_termOf_13 rfl rfl rfl ?_
      refine z_getr (c := o) (kI := 0) (r2 := ((o + 1 : Nat) : Int)) d_Ch_termOf_14 fd_Ch_row fl_Ch_9 rfl rfl rfl (ks_Ch_0 ho) (kl_Ch_0 ho) (kr_Ch_0_0 ho) ?_
      refine z_alen (c := (o + 1)) (m := 32) (cA := z_A X 1) d_Ch_termOf_17 rfl (ks_Ch_1 ho) (kl_Ch_1 ho) rfl (by decide) rfl ?_
      refine z_icmp_ge (tgt := 30) d_Ch_termOf_18 (by decide) (fun c3 => ?_) (fun c3 => ?_)
      · have h := h.1 c3
        refine z_iconst (n := 0) d_Ch_termOf_30 (by decide) ?_
        exact z_iret d_Ch_termOf_31 rfl (by decide) (by decide) ⟨rfl, rfl, h⟩
      · have h := h.2 c3
        refine z_aload_n (i := 0) (c := o) 0 d_Ch_termOf_21 rfl rfl rfl ?_
        refine z_getr (c := o) (kI := 0) (r2 := ((o + 1 : Nat) : Int)) d_Ch_termOf_22 fd_Ch_row fl_Ch_9 rfl rfl rfl (ks_Ch_0 ho) (kl_Ch_0 ho) (kr_Ch_0_0 ho) ?_
        refine z_iload_n (i := 1) 1 d_Ch_termOf_25 rfl rfl ?_
        obtain ⟨c4, h⟩ := h
        refine z_iald (c := (o + 1)) (m := 32) d_Ch_termOf_26 rfl (ks_Ch_1 ho) (kl_Ch_1 ho) rfl (by decide) c4 ?_
        refine z_goto (tgt := 31) d_Ch_termOf_27 (by decide) ?_
        exact z_iret d_Ch_termOf_31 rfl (by decide) (by decide) ⟨rfl, rfl, h⟩
theorem d_Ch_turns_0 : decode (z_c m_Ch_turns) 0 = .ok (.aload_n 0, 1) := by decide +kernel
theorem d_Ch_turns_1 : decode (z_c m_Ch_turns) 1 = .ok (.getfield 39, 3) := by decide +kernel
theorem d_Ch_turns_4 : decode (z_c m_Ch_turns) 4 = .ok (.iconst 2, 1) := by decide +kernel
theorem d_Ch_turns_5 : decode (z_c m_Ch_turns) 5 = .ok (.isub, 1) := by decide +kernel
theorem d_Ch_turns_6 : decode (z_c m_Ch_turns) 6 = .ok (.ireturn, 1) := by decide +kernel
set_option maxRecDepth 8000 in
theorem b_Ch_turns_0 {X : z_X} {N : Nat} {σ g : z_G} {Q : z_P} {o : Nat} (ho : z_lay X N σ o z_SCh z_RCh) (h : (-2147483648 ≤ ((g o 2) - 2) ∧ ((g o 2) - 2) ≤ 2147483647) ∧ Q ((g o 2) - 2) g) : z_O X 1 m_Ch_turns [(2, ((o : Nat) : Int))] N σ g Q := by
  refine z_Oenter mi_Ch_turns rfl (fun _ => ?_)
  show z_U X 1 m_Ch_turns 0 [(0, (2, ((o : Nat) : Int)))] [] N σ g Q
  refine z_aload_n (i := 0) (c := o) 0 d_Ch_turns_0 rfl rfl rfl ?_
  refine z_geti (c := o) (kI := 2) d_Ch_turns_1 fd_Ch_sum fl_Ch_39 (Or.inl rfl) rfl rfl (ks_Ch_0 ho) (kl_Ch_0 ho) ?_
  refine z_iconst (n := 2) d_Ch_turns_4 (by decide) ?_
  obtain ⟨c1, h⟩ := h
  refine z_isub d_Ch_turns_5 c1 ?_
  exact z_iret d_Ch_turns_6 rfl (by decide) (by decide) ⟨rfl, rfl, h⟩
theorem d_F_accept_0 : decode (z_c m_F_accept) 0 = .ok (.aload_n 0, 1) := by decide +kernel
theorem d_F_accept_1 : decode (z_c m_F_accept) 1 = .ok (.iconst 0, 1) := by decide +kernel
theorem d_F_accept_2 : decode (z_c m_F_accept) 2 = .ok (.putfield 7, 3) := by decide +kernel
theorem d_F_accept_5 : decode (z_c m_F_accept) 5 = .ok (.iconst 1, 1) := by decide +kernel
theorem d_F_accept_6 : decode (z_c m_F_accept) 6 = .ok (.ireturn, 1) := by decide +kernel
set_option maxRecDepth 8000 in
theorem b_F_accept_0 {X : z_X} {N : Nat} {σ g : z_G} {Q : z_P} (hx : z_lay X N σ 0 z_SF z_RF) (h : Q 1 (z_up g 0 0 0)) : z_O X 1 m_F_accept [(2, 0)] N σ g Q := by
  refine z_Oenter mi_F_accept rfl (fun _ => ?_)
  show z_U X 1 m_F_accept 0 [(0, (2, 0))] [] N σ g Q
  refine z_aload_n (i := 0) (c := 0) 0 d_F_accept_0 rfl rfl rfl ?_
  refine z_iconst (n := 0) d_F_accept_1 (by decide) ?_
  refine z_puti (c := 0) (kI := 0) d_F_accept_2 fd_F_latestStatus fl_F_7 pf_F_latestStatus rfl rfl rfl rfl (ks_F_0 hx) (kl_F_0 hx) ?_
  refine z_iconst (n := 1) d_F_accept_5 (by decide) ?_
  exact z_zret d_F_accept_6 rfl (by decide) (by decide) (by decide) ⟨rfl, rfl, h⟩
theorem d_F_bottom_0 : decode (z_c m_F_bottom) 0 = .ok (.aload_n 0, 1) := by decide +kernel
theorem d_F_bottom_1 : decode (z_c m_F_bottom) 1 = .ok (.getfield 17, 3) := by decide +kernel
theorem d_F_bottom_4 : decode (z_c m_F_bottom) 4 = .ok (.lreturn, 1) := by decide +kernel
set_option maxRecDepth 8000 in
theorem b_F_bottom_0 {X : z_X} {N : Nat} {σ g : z_G} {Q : z_P} (hx : z_lay X N σ 0 z_SF z_RF) (h : Q (g 0 2) g) : z_O X 1 m_F_bottom [(2, 0)] N σ g Q := by
  refine z_Oenter mi_F_bottom rfl (fun _ => ?_)
  show z_U X 1 m_F_bottom 0 [(0, (2, 0))] [] N σ g Q
  refine z_aload_n (i := 0) (c := 0) 0 d_F_bottom_0 rfl rfl rfl ?_
  refine z_getl (c := 0) (kI := 2) d_F_bottom_1 fd_F_toldBottom fl_F_17 rfl rfl rfl (ks_F_0 hx) (kl_F_0 hx) ?_
  exact z_lret d_F_bottom_4 rfl (by decide) (by decide) ⟨rfl, rfl, h⟩
theorem d_F_cross_0 : decode (z_c m_F_cross) 0 = .ok (.iload_n 0, 1) := by decide +kernel
theorem d_F_cross_1 : decode (z_c m_F_cross) 1 = .ok (.i2l, 1) := by decide +kernel
theorem d_F_cross_2 : decode (z_c m_F_cross) 2 = .ok (.iload_n 3, 1) := by decide +kernel
theorem d_F_cross_3 : decode (z_c m_F_cross) 3 = .ok (.i2l, 1) := by decide +kernel
theorem d_F_cross_4 : decode (z_c m_F_cross) 4 = .ok (.lmul, 1) := by decide +kernel
theorem d_F_cross_5 : decode (z_c m_F_cross) 5 = .ok (.iload_n 2, 1) := by decide +kernel
theorem d_F_cross_6 : decode (z_c m_F_cross) 6 = .ok (.i2l, 1) := by decide +kernel
theorem d_F_cross_7 : decode (z_c m_F_cross) 7 = .ok (.iload_n 1, 1) := by decide +kernel
theorem d_F_cross_8 : decode (z_c m_F_cross) 8 = .ok (.i2l, 1) := by decide +kernel
theorem d_F_cross_9 : decode (z_c m_F_cross) 9 = .ok (.lmul, 1) := by decide +kernel
theorem d_F_cross_10 : decode (z_c m_F_cross) 10 = .ok (.lsub, 1) := by decide +kernel
theorem d_F_cross_11 : decode (z_c m_F_cross) 11 = .ok (.lreturn, 1) := by decide +kernel
set_option maxRecDepth 8000 in
theorem b_F_cross_0 {X : z_X} {N : Nat} {σ g : z_G} {Q : z_P} {a0 a1 a2 a3 : Int} (h : (-9223372036854775808 ≤ (a0 * a3) ∧ (a0 * a3) ≤ 9223372036854775807) ∧ ((-9223372036854775808 ≤ (a2 * a1) ∧ (a2 * a1) ≤ 9223372036854775807) ∧ ((-9223372036854775808 ≤ ((a0 * a3) - (a2 * a1)) ∧ ((a0 * a3) - (a2 * a1)) ≤ 9223372036854775807) ∧ Q ((a0 * a3) - (a2 * a1)) g))) : z_O X 1 m_F_cross [(0, a0), (0, a1), (0, a2), (0, a3)] N σ g Q := by
  refine z_Oenter mi_F_cross rfl (fun _ => ?_)
  show z_U X 1 m_F_cross 0 [(0, (0, a0)), (1, (0, a1)), (2, (0, a2)), (3, (0, a3))] [] N σ g Q
  refine z_iload_n (i := 0) 0 d_F_cross_0 rfl rfl ?_
  refine z_i2l d_F_cross_1 ?_
  refine z_iload_n (i := 3) 3 d_F_cross_2 rfl rfl ?_
  refine z_i2l d_F_cross_3 ?_
  obtain ⟨c1, h⟩ := h
  refine z_lmul d_F_cross_4 c1 ?_
  refine z_iload_n (i := 2) 2 d_F_cross_5 rfl rfl ?_
  refine z_i2l d_F_cross_6 ?_
  refine z_iload_n (i := 1) 1 d_F_cross_7 rfl rfl ?_
  refine z_i2l d_F_cross_8 ?_
  obtain ⟨c2, h⟩ := h
  refine z_lmul d_F_cross_9 c2 ?_
  obtain ⟨c3, h⟩ := h
  refine z_lsub d_F_cross_10 c3 ?_
  exact z_lret d_F_cross_11 rfl (by decide) (by decide) ⟨rfl, rfl, h⟩
theorem d_F_divisorOf_0 : decode (z_c m_F_divisorOf) 0 = .ok (.lload_n 0, 1) := by decide +kernel
theorem d_F_divisorOf_1 : decode (z_c m_F_divisorOf) 1 = .ok (.lstore 4, 2) := by decide +kernel
theorem d_F_divisorOf_3 : decode (z_c m_F_divisorOf) 3 = .ok (.lload_n 2, 1) := by decide +kernel
theorem d_F_divisorOf_4 : decode (z_c m_F_divisorOf) 4 = .ok (.lstore 6, 2) := by decide +kernel
theorem d_F_divisorOf_6 : decode (z_c m_F_divisorOf) 6 = .ok (.iconst 0, 1) := by decide +kernel
theorem d_F_divisorOf_7 : decode (z_c m_F_divisorOf) 7 = .ok (.istore 8, 2) := by decide +kernel
theorem d_F_divisorOf_9 : decode (z_c m_F_divisorOf) 9 = .ok (.iload 8, 2) := by decide +kernel
theorem d_F_divisorOf_11 : decode (z_c m_F_divisorOf) 11 = .ok (.sipush 200, 3) := by decide +kernel
theorem d_F_divisorOf_14 : decode (z_c m_F_divisorOf) 14 = .ok (.if_icmp .ge 31, 3) := by decide +kernel
theorem d_F_divisorOf_17 : decode (z_c m_F_divisorOf) 17 = .ok (.lload 6, 2) := by decide +kernel
theorem d_F_divisorOf_19 : decode (z_c m_F_divisorOf) 19 = .ok (.lconst 0, 1) := by decide +kernel
theorem d_F_divisorOf_20 : decode (z_c m_F_divisorOf) 20 = .ok (.lcmp, 1) := by decide +kernel
theorem d_F_divisorOf_21 : decode (z_c m_F_divisorOf) 21 = .ok (.ifCond .eq 24, 3) := by decide +kernel
theorem d_F_divisorOf_24 : decode (z_c m_F_divisorOf) 24 = .ok (.lload 4, 2) := by decide +kernel
theorem d_F_divisorOf_26 : decode (z_c m_F_divisorOf) 26 = .ok (.lload 6, 2) := by decide +kernel
theorem d_F_divisorOf_28 : decode (z_c m_F_divisorOf) 28 = .ok (.lrem, 1) := by decide +kernel
theorem d_F_divisorOf_29 : decode (z_c m_F_divisorOf) 29 = .ok (.lstore 9, 2) := by decide +kernel
theorem d_F_divisorOf_31 : decode (z_c m_F_divisorOf) 31 = .ok (.lload 6, 2) := by decide +kernel
theorem d_F_divisorOf_33 : decode (z_c m_F_divisorOf) 33 = .ok (.lstore 4, 2) := by decide +kernel
theorem d_F_divisorOf_35 : decode (z_c m_F_divisorOf) 35 = .ok (.lload 9, 2) := by decide +kernel
theorem d_F_divisorOf_37 : decode (z_c m_F_divisorOf) 37 = .ok (.lstore 6, 2) := by decide +kernel
theorem d_F_divisorOf_39 : decode (z_c m_F_divisorOf) 39 = .ok (.iinc 8 1, 3) := by decide +kernel
theorem d_F_divisorOf_42 : decode (z_c m_F_divisorOf) 42 = .ok (.goto (-33), 3) := by decide +kernel
theorem d_F_divisorOf_45 : decode (z_c m_F_divisorOf) 45 = .ok (.lload 4, 2) := by decide +kernel
theorem d_F_divisorOf_47 : decode (z_c m_F_divisorOf) 47 = .ok (.lreturn, 1) := by decide +kernel
abbrev L_F_divisorOf_9 (X : z_X) (N : Nat) (σ : z_G) (x4 x6 x8 : Int) (g : z_G) (Q : z_P) : Prop := z_U X 1 m_F_divisorOf 9 [(4, (1, x4)), (6, (1, x6)), (8, (0, x8))] [] N σ g Q
set_option maxRecDepth 8000 in
theorem b_F_divisorOf_0 {X : z_X} {N : Nat} {σ g : z_G} {Q : z_P} {a0 a2 : Int} (h : L_F_divisorOf_9 X N σ a0 a2 0 g Q) : z_O X 1 m_F_divisorOf [(1, a0), (1, a2)] N σ g Q := by
  refine z_Oenter mi_F_divisorOf rfl (fun _ => ?_)
  show z_U X 1 m_F_divisorOf 0 [(0, (1, a0)), (2, (1, a2))] [] N σ g Q
  refine z_lload_n (i := 0) 0 d_F_divisorOf_0 rfl rfl ?_
  refine z_lstore (ls' := [(4, (1, a0)), (0, (1, a0)), (2, (1, a2))]) d_F_divisorOf_1 rfl rfl ?_
  refine z_lload_n (i := 2) 2 d_F_divisorOf_3 rfl rfl ?_
  refine z_lstore (ls' := [(6, (1, a2)), (4, (1, a0)), (0, (1, a0)), (2, (1, a2))]) d_F_divisorOf_4 rfl rfl ?_
  refine z_iconst (n := 0) d_F_divisorOf_6 (by decide) ?_
  refine z_istore (ls' := [(8, (0, 0)), (6, (1, a2)), (4, (1, a0)), (0, (1, a0)), (2, (1, a2))]) d_F_divisorOf_7 rfl rfl ?_
  refine z_sub (ls' := [(4, (1, a0)), (6, (1, a2)), (8, (0, 0))]) [2, 1, 0] rfl ?_
  exact h
set_option maxRecDepth 8000 in
theorem b_F_divisorOf_9 {X : z_X} {N : Nat} {σ g : z_G} {Q : z_P} {x4 x6 x8 : Int} (h : ((200 ≤ x8) → Q x4 g) ∧ (¬ (200 ≤ x8) → (((x6 = 0) → Q x4 g) ∧ (¬ (x6 = 0) → ((0 < x6) ∧ ((-2147483648 ≤ (x8 + 1) ∧ (x8 + 1) ≤ 2147483647) ∧ L_F_divisorOf_9 X N σ x6 (Int.tmod x4 x6) (x8 + 1) g Q)))))) : L_F_divisorOf_9 X N σ x4 x6 x8 g Q := by
  refine z_iload 2 d_F_divisorOf_9 rfl ?_
  refine z_sipush (n := 200) d_F_divisorOf_11 (by decide) (by decide) ?_
  refine z_icmp_ge (tgt := 45) d_F_divisorOf_14 (by decide) (fun c1 => ?_) (fun c1 => ?_)
  · have h := h.1 c1
    refine z_lload 0 d_F_divisorOf_45 rfl ?_
    exact z_lret d_F_divisorOf_47 rfl (by decide) (by decide) ⟨rfl, rfl, h⟩
  · have h := h.2 c1
    refine z_lload 1 d_F_divisorOf_17 rfl ?_
    refine z_lconst (v := 0) d_F_divisorOf_19 (by decide) (by decide) ?_
    refine z_lcmp_eq (tgt := 45) d_F_divisorOf_20 d_F_divisorOf_21 (by decide) (fun c2 => ?_) (fun c2 => ?_)
    · have h := h.1 c2
      refine z_lload 0 d_F_divisorOf_45 rfl ?_
      exact z_lret d_F_divisorOf_47 rfl (by decide) (by decide) ⟨rfl, rfl, h⟩
    · have h := h.2 c2
      refine z_lload 0 d_F_divisorOf_24 rfl ?_
      refine z_lload 1 d_F_divisorOf_26 rfl ?_
      obtain ⟨c3, h⟩ := h
      refine z_lrem d_F_divisorOf_28 c3 ?_
      refine z_lstore (ls' := [(9, (1, Int.tmod x4 x6)), (4, (1, x4)), (6, (1, x6)), (8, (0, x8))]) d_F_divisorOf_29 rfl rfl ?_
      refine z_lload 2 d_F_divisorOf_31 rfl ?_
      refine z_lstore (ls' := [(4, (1, x6)), (9, (1, Int.tmod x4 x6)), (6, (1, x6)), (8, (0, x8))]) d_F_divisorOf_33 rfl rfl ?_
      refine z_lload 1 d_F_divisorOf_35 rfl ?_
      refine z_lstore (ls' := [(6, (1, Int.tmod x4 x6)), (4, (1, x6)), (9, (1, Int.tmod x4 x6)), (8, (0, x8))]) d_F_divisorOf_37 rfl rfl ?_
      obtain ⟨c4, h⟩ := h
      refine z_iinc (n := 1) (ls' := [(8, (0, x8 + 1)), (6, (1, Int.tmod x4 x6)), (4, (1, x6)), (9, (1, Int.tmod x4 x6))]) 3 d_F_divisorOf_39 rfl c4 rfl rfl ?_
      refine z_goto (tgt := 9) d_F_divisorOf_42 (by decide) ?_
      refine z_sub (ls' := [(4, (1, x6)), (6, (1, Int.tmod x4 x6)), (8, (0, x8 + 1))]) [2, 1, 0] rfl ?_
      exact h
theorem d_F_fault_0 : decode (z_c m_F_fault) 0 = .ok (.iload_n 1, 1) := by decide +kernel
theorem d_F_fault_1 : decode (z_c m_F_fault) 1 = .ok (.ifCond .ne 8, 3) := by decide +kernel
theorem d_F_fault_4 : decode (z_c m_F_fault) 4 = .ok (.aload_n 0, 1) := by decide +kernel
theorem d_F_fault_5 : decode (z_c m_F_fault) 5 = .ok (.getfield 34, 3) := by decide +kernel
theorem d_F_fault_8 : decode (z_c m_F_fault) 8 = .ok (.ireturn, 1) := by decide +kernel
theorem d_F_fault_9 : decode (z_c m_F_fault) 9 = .ok (.iload_n 1, 1) := by decide +kernel
theorem d_F_fault_10 : decode (z_c m_F_fault) 10 = .ok (.iconst 1, 1) := by decide +kernel
theorem d_F_fault_11 : decode (z_c m_F_fault) 11 = .ok (.if_icmp .ne 10, 3) := by decide +kernel
theorem d_F_fault_14 : decode (z_c m_F_fault) 14 = .ok (.aload_n 0, 1) := by decide +kernel
theorem d_F_fault_15 : decode (z_c m_F_fault) 15 = .ok (.getfield 37, 3) := by decide +kernel
theorem d_F_fault_18 : decode (z_c m_F_fault) 18 = .ok (.goto 4, 3) := by decide +kernel
theorem d_F_fault_21 : decode (z_c m_F_fault) 21 = .ok (.iconst (-1), 1) := by decide +kernel
theorem d_F_fault_22 : decode (z_c m_F_fault) 22 = .ok (.ireturn, 1) := by decide +kernel
set_option maxRecDepth 8000 in
theorem b_F_fault_0 {X : z_X} {N : Nat} {σ g : z_G} {Q : z_P} {a1 : Int} (hx : z_lay X N σ 0 z_SF z_RF) (h : ((a1 = 0) → Q (g 0 5) g) ∧ (¬ (a1 = 0) → (((a1 = 1) → Q (g 0 6) g) ∧ (¬ (a1 = 1) → Q (-1) g)))) : z_O X 1 m_F_fault [(2, 0), (0, a1)] N σ g Q := by
  refine z_Oenter mi_F_fault rfl (fun _ => ?_)
  show z_U X 1 m_F_fault 0 [(0, (2, 0)), (1, (0, a1))] [] N σ g Q
  refine z_iload_n (i := 1) 1 d_F_fault_0 rfl rfl ?_
  refine z_if_ne (tgt := 9) d_F_fault_1 (by decide) (fun c1 => ?_) (fun c1 => ?_)
  · have h := h.2 c1
    refine z_iload_n (i := 1) 1 d_F_fault_9 rfl rfl ?_
    refine z_iconst (n := 1) d_F_fault_10 (by decide) ?_
    refine z_icmp_ne (tgt := 21) d_F_fault_11 (by decide) (fun c2 => ?_) (fun c2 => ?_)
    · have h := h.2 c2
      refine z_iconst (n := (-1)) d_F_fault_21 (by decide) ?_
      exact z_iret d_F_fault_22 rfl (by decide) (by decide) ⟨rfl, rfl, h⟩
    · have h := h.1 c2
      refine z_aload_n (i := 0) (c := 0) 0 d_F_fault_14 rfl rfl rfl ?_
      refine z_geti (c := 0) (kI := 6) d_F_fault_15 fd_F_faultPlace fl_F_37 (Or.inl rfl) rfl rfl (ks_F_0 hx) (kl_F_0 hx) ?_
      refine z_goto (tgt := 22) d_F_fault_18 (by decide) ?_
      exact z_iret d_F_fault_22 rfl (by decide) (by decide) ⟨rfl, rfl, h⟩
  · have h := h.1 c1
    refine z_aload_n (i := 0) (c := 0) 0 d_F_fault_4 rfl rfl rfl ?_
    refine z_geti (c := 0) (kI := 5) d_F_fault_5 fd_F_faultKind fl_F_34 (Or.inl rfl) rfl rfl (ks_F_0 hx) (kl_F_0 hx) ?_
    exact z_iret d_F_fault_8 rfl (by decide) (by decide) ⟨rfl, rfl, h⟩
theorem d_F_give_0 : decode (z_c m_F_give) 0 = .ok (.aload_n 0, 1) := by decide +kernel
theorem d_F_give_1 : decode (z_c m_F_give) 1 = .ok (.iconst 0, 1) := by decide +kernel
theorem d_F_give_2 : decode (z_c m_F_give) 2 = .ok (.putfield 7, 3) := by decide +kernel
theorem d_F_give_5 : decode (z_c m_F_give) 5 = .ok (.iload_n 1, 1) := by decide +kernel
theorem d_F_give_6 : decode (z_c m_F_give) 6 = .ok (.ireturn, 1) := by decide +kernel
set_option maxRecDepth 8000 in
theorem b_F_give_0 {X : z_X} {N : Nat} {σ g : z_G} {Q : z_P} {a1 : Int} (hx : z_lay X N σ 0 z_SF z_RF) (h : Q a1 (z_up g 0 0 0)) : z_O X 1 m_F_give [(2, 0), (0, a1)] N σ g Q := by
  refine z_Oenter mi_F_give rfl (fun _ => ?_)
  show z_U X 1 m_F_give 0 [(0, (2, 0)), (1, (0, a1))] [] N σ g Q
  refine z_aload_n (i := 0) (c := 0) 0 d_F_give_0 rfl rfl rfl ?_
  refine z_iconst (n := 0) d_F_give_1 (by decide) ?_
  refine z_puti (c := 0) (kI := 0) d_F_give_2 fd_F_latestStatus fl_F_7 pf_F_latestStatus rfl rfl rfl rfl (ks_F_0 hx) (kl_F_0 hx) ?_
  refine z_iload_n (i := 1) 1 d_F_give_5 rfl rfl ?_
  exact z_iret d_F_give_6 rfl (by decide) (by decide) ⟨rfl, rfl, h⟩
theorem d_F_isValue_0 : decode (z_c m_F_isValue) 0 = .ok (.iload_n 1, 1) := by decide +kernel
theorem d_F_isValue_1 : decode (z_c m_F_isValue) 1 = .ok (.iconst 1, 1) := by decide +kernel
theorem d_F_isValue_2 : decode (z_c m_F_isValue) 2 = .ok (.if_icmp .lt 23, 3) := by decide +kernel
theorem d_F_isValue_5 : decode (z_c m_F_isValue) 5 = .ok (.iload_n 1, 1) := by decide +kernel
theorem d_F_isValue_6 : decode (z_c m_F_isValue) 6 = .ok (.sipush 9999, 3) := by decide +kernel
theorem d_F_isValue_9 : decode (z_c m_F_isValue) 9 = .ok (.if_icmp .gt 16, 3) := by decide +kernel
theorem d_F_isValue_12 : decode (z_c m_F_isValue) 12 = .ok (.iload_n 0, 1) := by decide +kernel
theorem d_F_isValue_13 : decode (z_c m_F_isValue) 13 = .ok (.ifCond .lt 12, 3) := by decide +kernel
theorem d_F_isValue_16 : decode (z_c m_F_isValue) 16 = .ok (.iload_n 0, 1) := by decide +kernel
theorem d_F_isValue_17 : decode (z_c m_F_isValue) 17 = .ok (.iload_n 1, 1) := by decide +kernel
theorem d_F_isValue_18 : decode (z_c m_F_isValue) 18 = .ok (.if_icmp .gt 7, 3) := by decide +kernel
theorem d_F_isValue_21 : decode (z_c m_F_isValue) 21 = .ok (.iconst 1, 1) := by decide +kernel
theorem d_F_isValue_22 : decode (z_c m_F_isValue) 22 = .ok (.goto 4, 3) := by decide +kernel
theorem d_F_isValue_25 : decode (z_c m_F_isValue) 25 = .ok (.iconst 0, 1) := by decide +kernel
theorem d_F_isValue_26 : decode (z_c m_F_isValue) 26 = .ok (.ireturn, 1) := by decide +kernel
set_option maxRecDepth 8000 in
theorem b_F_isValue_0 {X : z_X} {N : Nat} {σ g : z_G} {Q : z_P} {a0 a1 : Int} (h : ((a1 < 1) → Q 0 g) ∧ (¬ (a1 < 1) → (((9999 < a1) → Q 0 g) ∧ (¬ (9999 < a1) → (((a0 < 0) → Q 0 g) ∧ (¬ (a0 < 0) → (((a1 < a0) → Q 0 g) ∧ (¬ (a1 < a0) → Q 1 g)))))))) : z_O X 1 m_F_isValue [(0, a0), (0, a1)] N σ g Q := by
  refine z_Oenter mi_F_isValue rfl (fun _ => ?_)
  show z_U X 1 m_F_isValue 0 [(0, (0, a0)), (1, (0, a1))] [] N σ g Q
  refine z_iload_n (i := 1) 1 d_F_isValue_0 rfl rfl ?_
  refine z_iconst (n := 1) d_F_isValue_1 (by decide) ?_
  refine z_icmp_lt (tgt := 25) d_F_isValue_2 (by decide) (fun c1 => ?_) (fun c1 => ?_)
  · have h := h.1 c1
    refine z_iconst (n := 0) d_F_isValue_25 (by decide) ?_
    exact z_zret d_F_isValue_26 rfl (by decide) (by decide) (by decide) ⟨rfl, rfl, h⟩
  · have h := h.2 c1
    refine z_iload_n (i := 1) 1 d_F_isValue_5 rfl rfl ?_
    refine z_sipush (n := 9999) d_F_isValue_6 (by decide) (by decide) ?_
    refine z_icmp_gt (tgt := 25) d_F_isValue_9 (by decide) (fun c2 => ?_) (fun c2 => ?_)
    · have h := h.1 c2
      refine z_iconst (n := 0) d_F_isValue_25 (by decide) ?_
      exact z_zret d_F_isValue_26 rfl (by decide) (by decide) (by decide) ⟨rfl, rfl, h⟩
    · have h := h.2 c2
      refine z_iload_n (i := 0) 0 d_F_isValue_12 rfl rfl ?_
      refine z_if_lt (tgt := 25) d_F_isValue_13 (by decide) (fun c3 => ?_) (fun c3 => ?_)
      · have h := h.1 c3
        refine z_iconst (n := 0) d_F_isValue_25 (by decide) ?_
        exact z_zret d_F_isValue_26 rfl (by decide) (by decide) (by decide) ⟨rfl, rfl, h⟩
      · have h := h.2 c3
        refine z_iload_n (i := 0) 0 d_F_isValue_16 rfl rfl ?_
        refine z_iload_n (i := 1) 1 d_F_isValue_17 rfl rfl ?_
        refine z_icmp_gt (tgt := 25) d_F_isValue_18 (by decide) (fun c4 => ?_) (fun c4 => ?_)
        · have h := h.1 c4
          refine z_iconst (n := 0) d_F_isValue_25 (by decide) ?_
          exact z_zret d_F_isValue_26 rfl (by decide) (by decide) (by decide) ⟨rfl, rfl, h⟩
        · have h := h.2 c4
          refine z_iconst (n := 1) d_F_isValue_21 (by decide) ?_
          refine z_goto (tgt := 26) d_F_isValue_22 (by decide) ?_
          exact z_zret d_F_isValue_26 rfl (by decide) (by decide) (by decide) ⟨rfl, rfl, h⟩
theorem d_F_none_0 : decode (z_c m_F_none) 0 = .ok (.aload_n 0, 1) := by decide +kernel
theorem d_F_none_1 : decode (z_c m_F_none) 1 = .ok (.iload_n 1, 1) := by decide +kernel
theorem d_F_none_2 : decode (z_c m_F_none) 2 = .ok (.putfield 7, 3) := by decide +kernel
theorem d_F_none_5 : decode (z_c m_F_none) 5 = .ok (.iconst (-1), 1) := by decide +kernel
theorem d_F_none_6 : decode (z_c m_F_none) 6 = .ok (.ireturn, 1) := by decide +kernel
set_option maxRecDepth 8000 in
theorem b_F_none_0 {X : z_X} {N : Nat} {σ g : z_G} {Q : z_P} {a1 : Int} (hx : z_lay X N σ 0 z_SF z_RF) (h : Q (-1) (z_up g 0 0 a1)) : z_O X 1 m_F_none [(2, 0), (0, a1)] N σ g Q := by
  refine z_Oenter mi_F_none rfl (fun _ => ?_)
  show z_U X 1 m_F_none 0 [(0, (2, 0)), (1, (0, a1))] [] N σ g Q
  refine z_aload_n (i := 0) (c := 0) 0 d_F_none_0 rfl rfl rfl ?_
  refine z_iload_n (i := 1) 1 d_F_none_1 rfl rfl ?_
  refine z_puti (c := 0) (kI := 0) d_F_none_2 fd_F_latestStatus fl_F_7 pf_F_latestStatus rfl rfl rfl rfl (ks_F_0 hx) (kl_F_0 hx) ?_
  refine z_iconst (n := (-1)) d_F_none_5 (by decide) ?_
  exact z_iret d_F_none_6 rfl (by decide) (by decide) ⟨rfl, rfl, h⟩
theorem d_F_noteFault_0 : decode (z_c m_F_noteFault) 0 = .ok (.aload_n 0, 1) := by decide +kernel
theorem d_F_noteFault_1 : decode (z_c m_F_noteFault) 1 = .ok (.getfield 30, 3) := by decide +kernel
theorem d_F_noteFault_4 : decode (z_c m_F_noteFault) 4 = .ok (.getfield 143, 3) := by decide +kernel
theorem d_F_noteFault_7 : decode (z_c m_F_noteFault) 7 = .ok (.iconst 0, 1) := by decide +kernel
theorem d_F_noteFault_8 : decode (z_c m_F_noteFault) 8 = .ok (.putfield 147, 3) := by decide +kernel
theorem d_F_noteFault_11 : decode (z_c m_F_noteFault) 11 = .ok (.aload_n 0, 1) := by decide +kernel
theorem d_F_noteFault_12 : decode (z_c m_F_noteFault) 12 = .ok (.aload_n 0, 1) := by decide +kernel
theorem d_F_noteFault_13 : decode (z_c m_F_noteFault) 13 = .ok (.getfield 30, 3) := by decide +kernel
theorem d_F_noteFault_16 : decode (z_c m_F_noteFault) 16 = .ok (.getfield 143, 3) := by decide +kernel
theorem d_F_noteFault_19 : decode (z_c m_F_noteFault) 19 = .ok (.getfield 195, 3) := by decide +kernel
theorem d_F_noteFault_22 : decode (z_c m_F_noteFault) 22 = .ok (.putfield 34, 3) := by decide +kernel
theorem d_F_noteFault_25 : decode (z_c m_F_noteFault) 25 = .ok (.aload_n 0, 1) := by decide +kernel
theorem d_F_noteFault_26 : decode (z_c m_F_noteFault) 26 = .ok (.aload_n 0, 1) := by decide +kernel
theorem d_F_noteFault_27 : decode (z_c m_F_noteFault) 27 = .ok (.getfield 30, 3) := by decide +kernel
theorem d_F_noteFault_30 : decode (z_c m_F_noteFault) 30 = .ok (.getfield 143, 3) := by decide +kernel
theorem d_F_noteFault_33 : decode (z_c m_F_noteFault) 33 = .ok (.getfield 196, 3) := by decide +kernel
theorem d_F_noteFault_36 : decode (z_c m_F_noteFault) 36 = .ok (.putfield 37, 3) := by decide +kernel
theorem d_F_noteFault_39 : decode (z_c m_F_noteFault) 39 = .ok (.return_, 1) := by decide +kernel
set_option maxRecDepth 8000 in
theorem b_F_noteFault_0 {X : z_X} {N : Nat} {σ g : z_G} {Q : z_P} (hx : z_lay X N σ 0 z_SF z_RF) (h : Q 0 (z_up (z_up (z_up g 10 1 0) 0 5 (g 10 9)) 0 6 (g 10 10))) : z_O X 1 m_F_noteFault [(2, 0)] N σ g Q := by
  refine z_Oenter mi_F_noteFault rfl (fun _ => ?_)
  show z_U X 1 m_F_noteFault 0 [(0, (2, 0))] [] N σ g Q
  refine z_aload_n (i := 0) (c := 0) 0 d_F_noteFault_0 rfl rfl rfl ?_
  refine z_getr (c := 0) (kI := 4) (r2 := 9) d_F_noteFault_1 fd_F_parser fl_F_30 rfl rfl rfl (ks_F_0 hx) (kl_F_0 hx) (kr_F_0_4 hx) ?_
  refine z_getr (c := 9) (kI := 0) (r2 := 10) d_F_noteFault_4 fd_Pa_tape fl_F_143 rfl rfl rfl (ks_F_9 hx) (kl_F_9 hx) (kr_F_9_0 hx) ?_
  refine z_iconst (n := 0) d_F_noteFault_7 (by decide) ?_
  refine z_puti (c := 10) (kI := 1) d_F_noteFault_8 fd_Ta_taped fl_F_147 pf_Ta_taped rfl rfl rfl rfl (ks_F_10 hx) (kl_F_10 hx) ?_
  refine z_aload_n (i := 0) (c := 0) 0 d_F_noteFault_11 rfl rfl rfl ?_
  refine z_aload_n (i := 0) (c := 0) 0 d_F_noteFault_12 rfl rfl rfl ?_
  refine z_getr (c := 0) (kI := 4) (r2 := 9) d_F_noteFault_13 fd_F_parser fl_F_30 rfl rfl rfl (ks_F_0 hx) (kl_F_0 hx) (kr_F_0_4 hx) ?_
  refine z_getr (c := 9) (kI := 0) (r2 := 10) d_F_noteFault_16 fd_Pa_tape fl_F_143 rfl rfl rfl (ks_F_9 hx) (kl_F_9 hx) (kr_F_9_0 hx) ?_
  refine z_geti (c := 10) (kI := 9) d_F_noteFault_19 fd_Ta_faultKind fl_F_195 (Or.inl rfl) rfl rfl (ks_F_10 hx) (kl_F_10 hx) ?_
  refine z_ti (b := g 10 9) (by simp [z_up]) ?_
  refine z_puti (c := 0) (kI := 5) d_F_noteFault_22 fd_F_faultKind fl_F_34 pf_F_faultKind rfl rfl rfl rfl (ks_F_0 hx) (kl_F_0 hx) ?_
  refine z_aload_n (i := 0) (c := 0) 0 d_F_noteFault_25 rfl rfl rfl ?_
  refine z_aload_n (i := 0) (c := 0) 0 d_F_noteFault_26 rfl rfl rfl ?_
  refine z_getr (c := 0) (kI := 4) (r2 := 9) d_F_noteFault_27 fd_F_parser fl_F_30 rfl rfl rfl (ks_F_0 hx) (kl_F_0 hx) (kr_F_0_4 hx) ?_
  refine z_getr (c := 9) (kI := 0) (r2 := 10) d_F_noteFault_30 fd_Pa_tape fl_F_143 rfl rfl rfl (ks_F_9 hx) (kl_F_9 hx) (kr_F_9_0 hx) ?_
  refine z_geti (c := 10) (kI := 10) d_F_noteFault_33 fd_Ta_faultPlace fl_F_196 (Or.inl rfl) rfl rfl (ks_F_10 hx) (kl_F_10 hx) ?_
  refine z_ti (b := g 10 10) (by simp [z_up]) ?_
  refine z_puti (c := 0) (kI := 6) d_F_noteFault_36 fd_F_faultPlace fl_F_37 pf_F_faultPlace rfl rfl rfl rfl (ks_F_0 hx) (kl_F_0 hx) ?_
  exact z_vret d_F_noteFault_39 rfl (by decide) (by decide) ⟨rfl, rfl, h⟩
theorem d_F_periodOf_0 : decode (z_c m_F_periodOf) 0 = .ok (.iload_n 0, 1) := by decide +kernel
theorem d_F_periodOf_1 : decode (z_c m_F_periodOf) 1 = .ok (.iconst 1, 1) := by decide +kernel
theorem d_F_periodOf_2 : decode (z_c m_F_periodOf) 2 = .ok (.if_icmp .gt 5, 3) := by decide +kernel
theorem d_F_periodOf_5 : decode (z_c m_F_periodOf) 5 = .ok (.iconst 0, 1) := by decide +kernel
theorem d_F_periodOf_6 : decode (z_c m_F_periodOf) 6 = .ok (.ireturn, 1) := by decide +kernel
theorem d_F_periodOf_7 : decode (z_c m_F_periodOf) 7 = .ok (.iconst 1, 1) := by decide +kernel
theorem d_F_periodOf_8 : decode (z_c m_F_periodOf) 8 = .ok (.istore_n 1, 1) := by decide +kernel
theorem d_F_periodOf_9 : decode (z_c m_F_periodOf) 9 = .ok (.bipush 10, 2) := by decide +kernel
theorem d_F_periodOf_11 : decode (z_c m_F_periodOf) 11 = .ok (.iload_n 0, 1) := by decide +kernel
theorem d_F_periodOf_12 : decode (z_c m_F_periodOf) 12 = .ok (.irem, 1) := by decide +kernel
theorem d_F_periodOf_13 : decode (z_c m_F_periodOf) 13 = .ok (.istore_n 2, 1) := by decide +kernel
theorem d_F_periodOf_14 : decode (z_c m_F_periodOf) 14 = .ok (.iload_n 1, 1) := by decide +kernel
theorem d_F_periodOf_15 : decode (z_c m_F_periodOf) 15 = .ok (.sipush 9999, 3) := by decide +kernel
theorem d_F_periodOf_18 : decode (z_c m_F_periodOf) 18 = .ok (.if_icmp .ge 21, 3) := by decide +kernel
theorem d_F_periodOf_21 : decode (z_c m_F_periodOf) 21 = .ok (.iload_n 2, 1) := by decide +kernel
theorem d_F_periodOf_22 : decode (z_c m_F_periodOf) 22 = .ok (.iconst 1, 1) := by decide +kernel
theorem d_F_periodOf_23 : decode (z_c m_F_periodOf) 23 = .ok (.if_icmp .eq 16, 3) := by decide +kernel
theorem d_F_periodOf_26 : decode (z_c m_F_periodOf) 26 = .ok (.iload_n 2, 1) := by decide +kernel
theorem d_F_periodOf_27 : decode (z_c m_F_periodOf) 27 = .ok (.bipush 10, 2) := by decide +kernel
theorem d_F_periodOf_29 : decode (z_c m_F_periodOf) 29 = .ok (.imul, 1) := by decide +kernel
theorem d_F_periodOf_30 : decode (z_c m_F_periodOf) 30 = .ok (.iload_n 0, 1) := by decide +kernel
theorem d_F_periodOf_31 : decode (z_c m_F_periodOf) 31 = .ok (.irem, 1) := by decide +kernel
theorem d_F_periodOf_32 : decode (z_c m_F_periodOf) 32 = .ok (.istore_n 2, 1) := by decide +kernel
theorem d_F_periodOf_33 : decode (z_c m_F_periodOf) 33 = .ok (.iinc 1 1, 3) := by decide +kernel
theorem d_F_periodOf_36 : decode (z_c m_F_periodOf) 36 = .ok (.goto (-22), 3) := by decide +kernel
theorem d_F_periodOf_39 : decode (z_c m_F_periodOf) 39 = .ok (.iload_n 1, 1) := by decide +kernel
theorem d_F_periodOf_40 : decode (z_c m_F_periodOf) 40 = .ok (.ireturn, 1) := by decide +kernel
abbrev L_F_periodOf_14 (X : z_X) (N : Nat) (σ : z_G) (x0 x1 x2 : Int) (g : z_G) (Q : z_P) : Prop := z_U X 1 m_F_periodOf 14 [(0, (0, x0)), (1, (0, x1)), (2, (0, x2))] [] N σ g Q
set_option maxRecDepth 8000 in
theorem b_F_periodOf_0 {X : z_X} {N : Nat} {σ g : z_G} {Q : z_P} {a0 : Int} (h : ((1 < a0) → ((0 < a0) ∧ L_F_periodOf_14 X N σ a0 1 (Int.tmod 10 a0) g Q)) ∧ (¬ (1 < a0) → Q 0 g)) : z_O X 1 m_F_periodOf [(0, a0)] N σ g Q := by
  refine z_Oenter mi_F_periodOf rfl (fun _ => ?_)
  show z_U X 1 m_F_periodOf 0 [(0, (0, a0))] [] N σ g Q
  refine z_iload_n (i := 0) 0 d_F_periodOf_0 rfl rfl ?_
  refine z_iconst (n := 1) d_F_periodOf_1 (by decide) ?_
  refine z_icmp_gt (tgt := 7) d_F_periodOf_2 (by decide) (fun c1 => ?_) (fun c1 => ?_)
  · have h := h.1 c1
    refine z_iconst (n := 1) d_F_periodOf_7 (by decide) ?_
    refine z_istore_n (i := 1) (ls' := [(1, (0, 1)), (0, (0, a0))]) d_F_periodOf_8 rfl rfl rfl ?_
    refine z_bipush (n := 10) d_F_periodOf_9 (by decide) (by decide) ?_
    refine z_iload_n (i := 0) 1 d_F_periodOf_11 rfl rfl ?_
    obtain ⟨c2, h⟩ := h
    refine z_irem d_F_periodOf_12 c2 ?_
    refine z_istore_n (i := 2) (ls' := [(2, (0, Int.tmod 10 a0)), (1, (0, 1)), (0, (0, a0))]) d_F_periodOf_13 rfl rfl rfl ?_
    refine z_sub (ls' := [(0, (0, a0)), (1, (0, 1)), (2, (0, Int.tmod 10 a0))]) [2, 1, 0] rfl ?_
    exact h
  · have h := h.2 c1
    refine z_iconst (n := 0) d_F_periodOf_5 (by decide) ?_
    exact z_iret d_F_periodOf_6 rfl (by decide) (by decide) ⟨rfl, rfl, h⟩
set_option maxRecDepth 8000 in
theorem b_F_periodOf_14 {X : z_X} {N : Nat} {σ g : z_G} {Q : z_P} {x0 x1 x2 : Int} (h : ((9999 ≤ x1) → Q x1 g) ∧ (¬ (9999 ≤ x1) → (((x2 = 1) → Q x1 g) ∧ (¬ (x2 = 1) → ((-2147483648 ≤ (x2 * 10) ∧ (x2 * 10) ≤ 2147483647) ∧ ((0 < x0) ∧ ((-2147483648 ≤ (x1 + 1) ∧ (x1 + 1) ≤ 2147483647) ∧ L_F_periodOf_14 X N σ x0 (x1 + 1) (Int.tmod (x2 * 10) x0) g Q))))))) : L_F_periodOf_14 X N σ x0 x1 x2 g Q := by
  refine z_iload_n (i := 1) 1 d_F_periodOf_14 rfl rfl ?_
  refine z_sipush (n := 9999) d_F_periodOf_15 (by decide) (by decide) ?_
  refine z_icmp_ge (tgt := 39) d_F_periodOf_18 (by decide) (fun c1 => ?_) (fun c1 => ?_)
  · have h := h.1 c1
    refine z_iload_n (i := 1) 1 d_F_periodOf_39 rfl rfl ?_
    exact z_iret d_F_periodOf_40 rfl (by decide) (by decide) ⟨rfl, rfl, h⟩
  · have h := h.2 c1
    refine z_iload_n (i := 2) 2 d_F_periodOf_21 rfl rfl ?_
    refine z_iconst (n := 1) d_F_periodOf_22 (by decide) ?_
    refine z_icmp_eq (tgt := 39) d_F_periodOf_23 (by decide) (fun c2 => ?_) (fun c2 => ?_)
    · have h := h.1 c2
      refine z_iload_n (i := 1) 1 d_F_periodOf_39 rfl rfl ?_
      exact z_iret d_F_periodOf_40 rfl (by decide) (by decide) ⟨rfl, rfl, h⟩
    · have h := h.2 c2
      refine z_iload_n (i := 2) 2 d_F_periodOf_26 rfl rfl ?_
      refine z_bipush (n := 10) d_F_periodOf_27 (by decide) (by decide) ?_
      obtain ⟨c3, h⟩ := h
      refine z_imul d_F_periodOf_29 c3 ?_
      refine z_iload_n (i := 0) 0 d_F_periodOf_30 rfl rfl ?_
      obtain ⟨c4, h⟩ := h
      refine z_irem d_F_periodOf_31 c4 ?_
      refine z_istore_n (i := 2) (ls' := [(2, (0, Int.tmod (x2 * 10) x0)), (0, (0, x0)), (1, (0, x1))]) d_F_periodOf_32 rfl rfl rfl ?_
      obtain ⟨c5, h⟩ := h
      refine z_iinc (n := 1) (ls' := [(1, (0, x1 + 1)), (2, (0, Int.tmod (x2 * 10) x0)), (0, (0, x0))]) 2 d_F_periodOf_33 rfl c5 rfl rfl ?_
      refine z_goto (tgt := 14) d_F_periodOf_36 (by decide) ?_
      refine z_sub (ls' := [(0, (0, x0)), (1, (0, x1 + 1)), (2, (0, Int.tmod (x2 * 10) x0))]) [2, 0, 1] rfl ?_
      exact h
theorem d_F_power_0 : decode (z_c m_F_power) 0 = .ok (.lconst 1, 1) := by decide +kernel
theorem d_F_power_1 : decode (z_c m_F_power) 1 = .ok (.lstore_n 3, 1) := by decide +kernel
theorem d_F_power_2 : decode (z_c m_F_power) 2 = .ok (.iconst 0, 1) := by decide +kernel
theorem d_F_power_3 : decode (z_c m_F_power) 3 = .ok (.istore 5, 2) := by decide +kernel
theorem d_F_power_5 : decode (z_c m_F_power) 5 = .ok (.iload 5, 2) := by decide +kernel
theorem d_F_power_7 : decode (z_c m_F_power) 7 = .ok (.iload_n 2, 1) := by decide +kernel
theorem d_F_power_8 : decode (z_c m_F_power) 8 = .ok (.if_icmp .ge 13, 3) := by decide +kernel
theorem d_F_power_11 : decode (z_c m_F_power) 11 = .ok (.lload_n 3, 1) := by decide +kernel
theorem d_F_power_12 : decode (z_c m_F_power) 12 = .ok (.lload_n 0, 1) := by decide +kernel
theorem d_F_power_13 : decode (z_c m_F_power) 13 = .ok (.lmul, 1) := by decide +kernel
theorem d_F_power_14 : decode (z_c m_F_power) 14 = .ok (.lstore_n 3, 1) := by decide +kernel
theorem d_F_power_15 : decode (z_c m_F_power) 15 = .ok (.iinc 5 1, 3) := by decide +kernel
theorem d_F_power_18 : decode (z_c m_F_power) 18 = .ok (.goto (-13), 3) := by decide +kernel
theorem d_F_power_21 : decode (z_c m_F_power) 21 = .ok (.lload_n 3, 1) := by decide +kernel
theorem d_F_power_22 : decode (z_c m_F_power) 22 = .ok (.lreturn, 1) := by decide +kernel
abbrev L_F_power_5 (X : z_X) (N : Nat) (σ : z_G) (x0 x2 x3 x5 : Int) (g : z_G) (Q : z_P) : Prop := z_U X 1 m_F_power 5 [(0, (1, x0)), (2, (0, x2)), (3, (1, x3)), (5, (0, x5))] [] N σ g Q
set_option maxRecDepth 8000 in
theorem b_F_power_0 {X : z_X} {N : Nat} {σ g : z_G} {Q : z_P} {a0 a2 : Int} (h : L_F_power_5 X N σ a0 a2 1 0 g Q) : z_O X 1 m_F_power [(1, a0), (0, a2)] N σ g Q := by
  refine z_Oenter mi_F_power rfl (fun _ => ?_)
  show z_U X 1 m_F_power 0 [(0, (1, a0)), (2, (0, a2))] [] N σ g Q
  refine z_lconst (v := 1) d_F_power_0 (by decide) (by decide) ?_
  refine z_lstore_n (i := 3) (ls' := [(3, (1, 1)), (0, (1, a0)), (2, (0, a2))]) d_F_power_1 rfl rfl rfl ?_
  refine z_iconst (n := 0) d_F_power_2 (by decide) ?_
  refine z_istore (ls' := [(5, (0, 0)), (3, (1, 1)), (0, (1, a0)), (2, (0, a2))]) d_F_power_3 rfl rfl ?_
  refine z_sub (ls' := [(0, (1, a0)), (2, (0, a2)), (3, (1, 1)), (5, (0, 0))]) [2, 3, 1, 0] rfl ?_
  exact h
set_option maxRecDepth 8000 in
theorem b_F_power_5 {X : z_X} {N : Nat} {σ g : z_G} {Q : z_P} {x0 x2 x3 x5 : Int} (h : ((x2 ≤ x5) → Q x3 g) ∧ (¬ (x2 ≤ x5) → ((-9223372036854775808 ≤ (x3 * x0) ∧ (x3 * x0) ≤ 9223372036854775807) ∧ ((-2147483648 ≤ (x5 + 1) ∧ (x5 + 1) ≤ 2147483647) ∧ L_F_power_5 X N σ x0 x2 (x3 * x0) (x5 + 1) g Q)))) : L_F_power_5 X N σ x0 x2 x3 x5 g Q := by
  refine z_iload 3 d_F_power_5 rfl ?_
  refine z_iload_n (i := 2) 1 d_F_power_7 rfl rfl ?_
  refine z_icmp_ge (tgt := 21) d_F_power_8 (by decide) (fun c1 => ?_) (fun c1 => ?_)
  · have h := h.1 c1
    refine z_lload_n (i := 3) 2 d_F_power_21 rfl rfl ?_
    exact z_lret d_F_power_22 rfl (by decide) (by decide) ⟨rfl, rfl, h⟩
  · have h := h.2 c1
    refine z_lload_n (i := 3) 2 d_F_power_11 rfl rfl ?_
    refine z_lload_n (i := 0) 0 d_F_power_12 rfl rfl ?_
    obtain ⟨c2, h⟩ := h
    refine z_lmul d_F_power_13 c2 ?_
    refine z_lstore_n (i := 3) (ls' := [(3, (1, x3 * x0)), (0, (1, x0)), (2, (0, x2)), (5, (0, x5))]) d_F_power_14 rfl rfl rfl ?_
    obtain ⟨c3, h⟩ := h
    refine z_iinc (n := 1) (ls' := [(5, (0, x5 + 1)), (3, (1, x3 * x0)), (0, (1, x0)), (2, (0, x2))]) 3 d_F_power_15 rfl c3 rfl rfl ?_
    refine z_goto (tgt := 5) d_F_power_18 (by decide) ?_
    refine z_sub (ls' := [(0, (1, x0)), (2, (0, x2)), (3, (1, x3 * x0)), (5, (0, x5 + 1))]) [2, 3, 1, 0] rfl ?_
    exact h
theorem d_F_refuse_0 : decode (z_c m_F_refuse) 0 = .ok (.aload_n 0, 1) := by decide +kernel
theorem d_F_refuse_1 : decode (z_c m_F_refuse) 1 = .ok (.iload_n 1, 1) := by decide +kernel
theorem d_F_refuse_2 : decode (z_c m_F_refuse) 2 = .ok (.putfield 7, 3) := by decide +kernel
theorem d_F_refuse_5 : decode (z_c m_F_refuse) 5 = .ok (.iconst 0, 1) := by decide +kernel
theorem d_F_refuse_6 : decode (z_c m_F_refuse) 6 = .ok (.ireturn, 1) := by decide +kernel
set_option maxRecDepth 8000 in
theorem b_F_refuse_0 {X : z_X} {N : Nat} {σ g : z_G} {Q : z_P} {a1 : Int} (hx : z_lay X N σ 0 z_SF z_RF) (h : Q 0 (z_up g 0 0 a1)) : z_O X 1 m_F_refuse [(2, 0), (0, a1)] N σ g Q := by
  refine z_Oenter mi_F_refuse rfl (fun _ => ?_)
  show z_U X 1 m_F_refuse 0 [(0, (2, 0)), (1, (0, a1))] [] N σ g Q
  refine z_aload_n (i := 0) (c := 0) 0 d_F_refuse_0 rfl rfl rfl ?_
  refine z_iload_n (i := 1) 1 d_F_refuse_1 rfl rfl ?_
  refine z_puti (c := 0) (kI := 0) d_F_refuse_2 fd_F_latestStatus fl_F_7 pf_F_latestStatus rfl rfl rfl rfl (ks_F_0 hx) (kl_F_0 hx) ?_
  refine z_iconst (n := 0) d_F_refuse_5 (by decide) ?_
  exact z_zret d_F_refuse_6 rfl (by decide) (by decide) (by decide) ⟨rfl, rfl, h⟩
theorem d_F_restOf_0 : decode (z_c m_F_restOf) 0 = .ok (.iload_n 2, 1) := by decide +kernel
theorem d_F_restOf_1 : decode (z_c m_F_restOf) 1 = .ok (.iconst 1, 1) := by decide +kernel
theorem d_F_restOf_2 : decode (z_c m_F_restOf) 2 = .ok (.if_icmp .ge 5, 3) := by decide +kernel
theorem d_F_restOf_5 : decode (z_c m_F_restOf) 5 = .ok (.iconst 0, 1) := by decide +kernel
theorem d_F_restOf_6 : decode (z_c m_F_restOf) 6 = .ok (.ireturn, 1) := by decide +kernel
theorem d_F_restOf_7 : decode (z_c m_F_restOf) 7 = .ok (.iload_n 0, 1) := by decide +kernel
theorem d_F_restOf_8 : decode (z_c m_F_restOf) 8 = .ok (.iload_n 2, 1) := by decide +kernel
theorem d_F_restOf_9 : decode (z_c m_F_restOf) 9 = .ok (.irem, 1) := by decide +kernel
theorem d_F_restOf_10 : decode (z_c m_F_restOf) 10 = .ok (.i2l, 1) := by decide +kernel
theorem d_F_restOf_11 : decode (z_c m_F_restOf) 11 = .ok (.lstore_n 3, 1) := by decide +kernel
theorem d_F_restOf_12 : decode (z_c m_F_restOf) 12 = .ok (.bipush 10, 2) := by decide +kernel
theorem d_F_restOf_14 : decode (z_c m_F_restOf) 14 = .ok (.iload_n 2, 1) := by decide +kernel
theorem d_F_restOf_15 : decode (z_c m_F_restOf) 15 = .ok (.irem, 1) := by decide +kernel
theorem d_F_restOf_16 : decode (z_c m_F_restOf) 16 = .ok (.i2l, 1) := by decide +kernel
theorem d_F_restOf_17 : decode (z_c m_F_restOf) 17 = .ok (.lstore 5, 2) := by decide +kernel
theorem d_F_restOf_19 : decode (z_c m_F_restOf) 19 = .ok (.iconst 0, 1) := by decide +kernel
theorem d_F_restOf_20 : decode (z_c m_F_restOf) 20 = .ok (.istore 7, 2) := by decide +kernel
theorem d_F_restOf_22 : decode (z_c m_F_restOf) 22 = .ok (.iload 7, 2) := by decide +kernel
theorem d_F_restOf_24 : decode (z_c m_F_restOf) 24 = .ok (.bipush 31, 2) := by decide +kernel
theorem d_F_restOf_26 : decode (z_c m_F_restOf) 26 = .ok (.if_icmp .ge 37, 3) := by decide +kernel
theorem d_F_restOf_29 : decode (z_c m_F_restOf) 29 = .ok (.iload_n 1, 1) := by decide +kernel
theorem d_F_restOf_30 : decode (z_c m_F_restOf) 30 = .ok (.iload 7, 2) := by decide +kernel
theorem d_F_restOf_32 : decode (z_c m_F_restOf) 32 = .ok (.ishr, 1) := by decide +kernel
theorem d_F_restOf_33 : decode (z_c m_F_restOf) 33 = .ok (.iconst 1, 1) := by decide +kernel
theorem d_F_restOf_34 : decode (z_c m_F_restOf) 34 = .ok (.iand, 1) := by decide +kernel
theorem d_F_restOf_35 : decode (z_c m_F_restOf) 35 = .ok (.iconst 1, 1) := by decide +kernel
theorem d_F_restOf_36 : decode (z_c m_F_restOf) 36 = .ok (.if_icmp .ne 11, 3) := by decide +kernel
theorem d_F_restOf_39 : decode (z_c m_F_restOf) 39 = .ok (.lload_n 3, 1) := by decide +kernel
theorem d_F_restOf_40 : decode (z_c m_F_restOf) 40 = .ok (.lload 5, 2) := by decide +kernel
theorem d_F_restOf_42 : decode (z_c m_F_restOf) 42 = .ok (.lmul, 1) := by decide +kernel
theorem d_F_restOf_43 : decode (z_c m_F_restOf) 43 = .ok (.iload_n 2, 1) := by decide +kernel
theorem d_F_restOf_44 : decode (z_c m_F_restOf) 44 = .ok (.i2l, 1) := by decide +kernel
theorem d_F_restOf_45 : decode (z_c m_F_restOf) 45 = .ok (.lrem, 1) := by decide +kernel
theorem d_F_restOf_46 : decode (z_c m_F_restOf) 46 = .ok (.lstore_n 3, 1) := by decide +kernel
theorem d_F_restOf_47 : decode (z_c m_F_restOf) 47 = .ok (.lload 5, 2) := by decide +kernel
theorem d_F_restOf_49 : decode (z_c m_F_restOf) 49 = .ok (.lload 5, 2) := by decide +kernel
theorem d_F_restOf_51 : decode (z_c m_F_restOf) 51 = .ok (.lmul, 1) := by decide +kernel
theorem d_F_restOf_52 : decode (z_c m_F_restOf) 52 = .ok (.iload_n 2, 1) := by decide +kernel
theorem d_F_restOf_53 : decode (z_c m_F_restOf) 53 = .ok (.i2l, 1) := by decide +kernel
theorem d_F_restOf_54 : decode (z_c m_F_restOf) 54 = .ok (.lrem, 1) := by decide +kernel
theorem d_F_restOf_55 : decode (z_c m_F_restOf) 55 = .ok (.lstore 5, 2) := by decide +kernel
theorem d_F_restOf_57 : decode (z_c m_F_restOf) 57 = .ok (.iinc 7 1, 3) := by decide +kernel
theorem d_F_restOf_60 : decode (z_c m_F_restOf) 60 = .ok (.goto (-38), 3) := by decide +kernel
theorem d_F_restOf_63 : decode (z_c m_F_restOf) 63 = .ok (.lload_n 3, 1) := by decide +kernel
theorem d_F_restOf_64 : decode (z_c m_F_restOf) 64 = .ok (.l2i, 1) := by decide +kernel
theorem d_F_restOf_65 : decode (z_c m_F_restOf) 65 = .ok (.ireturn, 1) := by decide +kernel
abbrev L_F_restOf_22 (X : z_X) (N : Nat) (σ : z_G) (x1 x2 x3 x5 x7 : Int) (g : z_G) (Q : z_P) : Prop := z_U X 1 m_F_restOf 22 [(1, (0, x1)), (2, (0, x2)), (3, (1, x3)), (5, (1, x5)), (7, (0, x7))] [] N σ g Q
set_option maxRecDepth 8000 in
theorem b_F_restOf_0 {X : z_X} {N : Nat} {σ g : z_G} {Q : z_P} {a0 a1 a2 : Int} (h : ((1 ≤ a2) → ((0 < a2) ∧ L_F_restOf_22 X N σ a1 a2 (Int.tmod a0 a2) (Int.tmod 10 a2) 0 g Q)) ∧ (¬ (1 ≤ a2) → Q 0 g)) : z_O X 1 m_F_restOf [(0, a0), (0, a1), (0, a2)] N σ g Q := by
  refine z_Oenter mi_F_restOf rfl (fun _ => ?_)
  show z_U X 1 m_F_restOf 0 [(0, (0, a0)), (1, (0, a1)), (2, (0, a2))] [] N σ g Q
  refine z_iload_n (i := 2) 2 d_F_restOf_0 rfl rfl ?_
  refine z_iconst (n := 1) d_F_restOf_1 (by decide) ?_
  refine z_icmp_ge (tgt := 7) d_F_restOf_2 (by decide) (fun c1 => ?_) (fun c1 => ?_)
  · have h := h.1 c1
    refine z_iload_n (i := 0) 0 d_F_restOf_7 rfl rfl ?_
    refine z_iload_n (i := 2) 2 d_F_restOf_8 rfl rfl ?_
    obtain ⟨c2, h⟩ := h
    refine z_irem d_F_restOf_9 c2 ?_
    refine z_i2l d_F_restOf_10 ?_
    refine z_lstore_n (i := 3) (ls' := [(3, (1, Int.tmod a0 a2)), (0, (0, a0)), (1, (0, a1)), (2, (0, a2))]) d_F_restOf_11 rfl rfl rfl ?_
    refine z_bipush (n := 10) d_F_restOf_12 (by decide) (by decide) ?_
    refine z_iload_n (i := 2) 3 d_F_restOf_14 rfl rfl ?_
    refine z_irem d_F_restOf_15 c2 ?_
    refine z_i2l d_F_restOf_16 ?_
    refine z_lstore (ls' := [(5, (1, Int.tmod 10 a2)), (3, (1, Int.tmod a0 a2)), (0, (0, a0)), (1, (0, a1)), (2, (0, a2))]) d_F_restOf_17 rfl rfl ?_
    refine z_iconst (n := 0) d_F_restOf_19 (by decide) ?_
    refine z_istore (ls' := [(7, (0, 0)), (5, (1, Int.tmod 10 a2)), (3, (1, Int.tmod a0 a2)), (0, (0, a0)), (1, (0, a1)), (2, (0, a2))]) d_F_restOf_20 rfl rfl ?_
    refine z_sub (ls' := [(1, (0, a1)), (2, (0, a2)), (3, (1, Int.tmod a0 a2)), (5, (1, Int.tmod 10 a2)), (7, (0, 0))]) [4, 5, 2, 1, 0] rfl ?_
    exact h
  · have h := h.2 c1
    refine z_iconst (n := 0) d_F_restOf_5 (by decide) ?_
    exact z_iret d_F_restOf_6 rfl (by decide) (by decide) ⟨rfl, rfl, h⟩
set_option maxRecDepth 8000 in
theorem b_F_restOf_22 {X : z_X} {N : Nat} {σ g : z_G} {Q : z_P} {x1 x2 x3 x5 x7 : Int} (h : ((31 ≤ x7) → ((-2147483648 ≤ x3 ∧ x3 ≤ 2147483647) ∧ Q x3 g)) ∧ (¬ (31 ≤ x7) → ((((Int32.toInt (Int32.ofInt (Int32.toInt (Int32.ofInt x1 >>> (Int32.ofInt x7 &&& 31))) &&& Int32.ofInt 1)) = 1) → ((-9223372036854775808 ≤ (x3 * x5) ∧ (x3 * x5) ≤ 9223372036854775807) ∧ ((0 < x2) ∧ ((-9223372036854775808 ≤ (x5 * x5) ∧ (x5 * x5) ≤ 9223372036854775807) ∧ ((-2147483648 ≤ (x7 + 1) ∧ (x7 + 1) ≤ 2147483647) ∧ L_F_restOf_22 X N σ x1 x2 (Int.tmod (x3 * x5) x2) (Int.tmod (x5 * x5) x2) (x7 + 1) g Q))))) ∧ (¬ ((Int32.toInt (Int32.ofInt (Int32.toInt (Int32.ofInt x1 >>> (Int32.ofInt x7 &&& 31))) &&& Int32.ofInt 1)) = 1) → ((-9223372036854775808 ≤ (x5 * x5) ∧ (x5 * x5) ≤ 9223372036854775807) ∧ ((0 < x2) ∧ ((-2147483648 ≤ (x7 + 1) ∧ (x7 + 1) ≤ 2147483647) ∧ L_F_restOf_22 X N σ x1 x2 x3 (Int.tmod (x5 * x5) x2) (x7 + 1) g Q))))))) : L_F_restOf_22 X N σ x1 x2 x3 x5 x7 g Q := by
  refine z_iload 4 d_F_restOf_22 rfl ?_
  refine z_bipush (n := 31) d_F_restOf_24 (by decide) (by decide) ?_
  refine z_icmp_ge (tgt := 63) d_F_restOf_26 (by decide) (fun c1 => ?_) (fun c1 => ?_)
  · have h := h.1 c1
    refine z_lload_n (i := 3) 2 d_F_restOf_63 rfl rfl ?_
    obtain ⟨c2, h⟩ := h
    refine z_l2i' d_F_restOf_64 c2 ?_
    exact z_iret d_F_restOf_65 rfl (by decide) (by decide) ⟨rfl, rfl, h⟩
  · have h := h.2 c1
    refine z_iload_n (i := 1) 0 d_F_restOf_29 rfl rfl ?_
    refine z_iload 4 d_F_restOf_30 rfl ?_
    refine z_ishr d_F_restOf_32 ?_
    refine z_iconst (n := 1) d_F_restOf_33 (by decide) ?_
    refine z_iand d_F_restOf_34 ?_
    refine z_iconst (n := 1) d_F_restOf_35 (by decide) ?_
    refine z_icmp_ne (tgt := 47) d_F_restOf_36 (by decide) (fun c3 => ?_) (fun c3 => ?_)
    · have h := h.2 c3
      refine z_lload 3 d_F_restOf_47 rfl ?_
      refine z_lload 3 d_F_restOf_49 rfl ?_
      obtain ⟨c4, h⟩ := h
      refine z_lmul d_F_restOf_51 c4 ?_
      refine z_iload_n (i := 2) 1 d_F_restOf_52 rfl rfl ?_
      refine z_i2l d_F_restOf_53 ?_
      obtain ⟨c5, h⟩ := h
      refine z_lrem d_F_restOf_54 c5 ?_
      refine z_lstore (ls' := [(5, (1, Int.tmod (x5 * x5) x2)), (1, (0, x1)), (2, (0, x2)), (3, (1, x3)), (7, (0, x7))]) d_F_restOf_55 rfl rfl ?_
      obtain ⟨c6, h⟩ := h
      refine z_iinc (n := 1) (ls' := [(7, (0, x7 + 1)), (5, (1, Int.tmod (x5 * x5) x2)), (1, (0, x1)), (2, (0, x2)), (3, (1, x3))]) 4 d_F_restOf_57 rfl c6 rfl rfl ?_
      refine z_goto (tgt := 22) d_F_restOf_60 (by decide) ?_
      refine z_sub (ls' := [(1, (0, x1)), (2, (0, x2)), (3, (1, x3)), (5, (1, Int.tmod (x5 * x5) x2)), (7, (0, x7 + 1))]) [2, 3, 4, 1, 0] rfl ?_
      exact h
    · have h := h.1 c3
      refine z_lload_n (i := 3) 2 d_F_restOf_39 rfl rfl ?_
      refine z_lload 3 d_F_restOf_40 rfl ?_
      obtain ⟨c7, h⟩ := h
      refine z_lmul d_F_restOf_42 c7 ?_
      refine z_iload_n (i := 2) 1 d_F_restOf_43 rfl rfl ?_
      refine z_i2l d_F_restOf_44 ?_
      obtain ⟨c8, h⟩ := h
      refine z_lrem d_F_restOf_45 c8 ?_
      refine z_lstore_n (i := 3) (ls' := [(3, (1, Int.tmod (x3 * x5) x2)), (1, (0, x1)), (2, (0, x2)), (5, (1, x5)), (7, (0, x7))]) d_F_restOf_46 rfl rfl rfl ?_
      refine z_lload 3 d_F_restOf_47 rfl ?_
      refine z_lload 3 d_F_restOf_49 rfl ?_
      obtain ⟨c9, h⟩ := h
      refine z_lmul d_F_restOf_51 c9 ?_
      refine z_iload_n (i := 2) 2 d_F_restOf_52 rfl rfl ?_
      refine z_i2l d_F_restOf_53 ?_
      refine z_lrem d_F_restOf_54 c8 ?_
      refine z_lstore (ls' := [(5, (1, Int.tmod (x5 * x5) x2)), (3, (1, Int.tmod (x3 * x5) x2)), (1, (0, x1)), (2, (0, x2)), (7, (0, x7))]) d_F_restOf_55 rfl rfl ?_
      obtain ⟨c10, h⟩ := h
      refine z_iinc (n := 1) (ls' := [(7, (0, x7 + 1)), (5, (1, Int.tmod (x5 * x5) x2)), (3, (1, Int.tmod (x3 * x5) x2)), (1, (0, x1)), (2, (0, x2))]) 4 d_F_restOf_57 rfl c10 rfl rfl ?_
      refine z_goto (tgt := 22) d_F_restOf_60 (by decide) ?_
      refine z_sub (ls' := [(1, (0, x1)), (2, (0, x2)), (3, (1, Int.tmod (x3 * x5) x2)), (5, (1, Int.tmod (x5 * x5) x2)), (7, (0, x7 + 1))]) [3, 4, 2, 1, 0] rfl ?_
      exact h
theorem d_F_status_0 : decode (z_c m_F_status) 0 = .ok (.aload_n 0, 1) := by decide +kernel
theorem d_F_status_1 : decode (z_c m_F_status) 1 = .ok (.getfield 7, 3) := by decide +kernel
theorem d_F_status_4 : decode (z_c m_F_status) 4 = .ok (.ireturn, 1) := by decide +kernel
set_option maxRecDepth 8000 in
theorem b_F_status_0 {X : z_X} {N : Nat} {σ g : z_G} {Q : z_P} (hx : z_lay X N σ 0 z_SF z_RF) (h : Q (g 0 0) g) : z_O X 1 m_F_status [(2, 0)] N σ g Q := by
  refine z_Oenter mi_F_status rfl (fun _ => ?_)
  show z_U X 1 m_F_status 0 [(0, (2, 0))] [] N σ g Q
  refine z_aload_n (i := 0) (c := 0) 0 d_F_status_0 rfl rfl rfl ?_
  refine z_geti (c := 0) (kI := 0) d_F_status_1 fd_F_latestStatus fl_F_7 (Or.inl rfl) rfl rfl (ks_F_0 hx) (kl_F_0 hx) ?_
  exact z_iret d_F_status_4 rfl (by decide) (by decide) ⟨rfl, rfl, h⟩
theorem d_F_timesWithin_0 : decode (z_c m_F_timesWithin) 0 = .ok (.iconst 0, 1) := by decide +kernel
theorem d_F_timesWithin_1 : decode (z_c m_F_timesWithin) 1 = .ok (.istore_n 2, 1) := by decide +kernel
theorem d_F_timesWithin_2 : decode (z_c m_F_timesWithin) 2 = .ok (.iload_n 1, 1) := by decide +kernel
theorem d_F_timesWithin_3 : decode (z_c m_F_timesWithin) 3 = .ok (.istore_n 3, 1) := by decide +kernel
theorem d_F_timesWithin_4 : decode (z_c m_F_timesWithin) 4 = .ok (.iload_n 2, 1) := by decide +kernel
theorem d_F_timesWithin_5 : decode (z_c m_F_timesWithin) 5 = .ok (.bipush 32, 2) := by decide +kernel
theorem d_F_timesWithin_7 : decode (z_c m_F_timesWithin) 7 = .ok (.if_icmp .ge 28, 3) := by decide +kernel
theorem d_F_timesWithin_10 : decode (z_c m_F_timesWithin) 10 = .ok (.iload_n 0, 1) := by decide +kernel
theorem d_F_timesWithin_11 : decode (z_c m_F_timesWithin) 11 = .ok (.iconst 1, 1) := by decide +kernel
theorem d_F_timesWithin_12 : decode (z_c m_F_timesWithin) 12 = .ok (.if_icmp .le 23, 3) := by decide +kernel
theorem d_F_timesWithin_15 : decode (z_c m_F_timesWithin) 15 = .ok (.iload_n 3, 1) := by decide +kernel
theorem d_F_timesWithin_16 : decode (z_c m_F_timesWithin) 16 = .ok (.ifCond .le 19, 3) := by decide +kernel
theorem d_F_timesWithin_19 : decode (z_c m_F_timesWithin) 19 = .ok (.iload_n 3, 1) := by decide +kernel
theorem d_F_timesWithin_20 : decode (z_c m_F_timesWithin) 20 = .ok (.iload_n 0, 1) := by decide +kernel
theorem d_F_timesWithin_21 : decode (z_c m_F_timesWithin) 21 = .ok (.irem, 1) := by decide +kernel
theorem d_F_timesWithin_22 : decode (z_c m_F_timesWithin) 22 = .ok (.ifCond .ne 13, 3) := by decide +kernel
theorem d_F_timesWithin_25 : decode (z_c m_F_timesWithin) 25 = .ok (.iload_n 3, 1) := by decide +kernel
theorem d_F_timesWithin_26 : decode (z_c m_F_timesWithin) 26 = .ok (.iload_n 0, 1) := by decide +kernel
theorem d_F_timesWithin_27 : decode (z_c m_F_timesWithin) 27 = .ok (.idiv, 1) := by decide +kernel
theorem d_F_timesWithin_28 : decode (z_c m_F_timesWithin) 28 = .ok (.istore_n 3, 1) := by decide +kernel
theorem d_F_timesWithin_29 : decode (z_c m_F_timesWithin) 29 = .ok (.iinc 2 1, 3) := by decide +kernel
theorem d_F_timesWithin_32 : decode (z_c m_F_timesWithin) 32 = .ok (.goto (-28), 3) := by decide +kernel
theorem d_F_timesWithin_35 : decode (z_c m_F_timesWithin) 35 = .ok (.iload_n 2, 1) := by decide +kernel
theorem d_F_timesWithin_36 : decode (z_c m_F_timesWithin) 36 = .ok (.ireturn, 1) := by decide +kernel
abbrev L_F_timesWithin_4 (X : z_X) (N : Nat) (σ : z_G) (x0 x2 x3 : Int) (g : z_G) (Q : z_P) : Prop := z_U X 1 m_F_timesWithin 4 [(0, (0, x0)), (2, (0, x2)), (3, (0, x3))] [] N σ g Q
set_option maxRecDepth 8000 in
theorem b_F_timesWithin_0 {X : z_X} {N : Nat} {σ g : z_G} {Q : z_P} {a0 a1 : Int} (h : L_F_timesWithin_4 X N σ a0 0 a1 g Q) : z_O X 1 m_F_timesWithin [(0, a0), (0, a1)] N σ g Q := by
  refine z_Oenter mi_F_timesWithin rfl (fun _ => ?_)
  show z_U X 1 m_F_timesWithin 0 [(0, (0, a0)), (1, (0, a1))] [] N σ g Q
  refine z_iconst (n := 0) d_F_timesWithin_0 (by decide) ?_
  refine z_istore_n (i := 2) (ls' := [(2, (0, 0)), (0, (0, a0)), (1, (0, a1))]) d_F_timesWithin_1 rfl rfl rfl ?_
  refine z_iload_n (i := 1) 2 d_F_timesWithin_2 rfl rfl ?_
  refine z_istore_n (i := 3) (ls' := [(3, (0, a1)), (2, (0, 0)), (0, (0, a0)), (1, (0, a1))]) d_F_timesWithin_3 rfl rfl rfl ?_
  refine z_sub (ls' := [(0, (0, a0)), (2, (0, 0)), (3, (0, a1))]) [2, 1, 0] rfl ?_
  exact h
set_option maxRecDepth 8000 in
theorem b_F_timesWithin_4 {X : z_X} {N : Nat} {σ g : z_G} {Q : z_P} {x0 x2 x3 : Int} (h : ((32 ≤ x2) → Q x2 g) ∧ (¬ (32 ≤ x2) → (((x0 ≤ 1) → Q x2 g) ∧ (¬ (x0 ≤ 1) → (((x3 ≤ 0) → Q x2 g) ∧ (¬ (x3 ≤ 0) → ((0 < x0) ∧ ((((Int.tmod x3 x0) = 0) → ((-2147483648 ≤ (x2 + 1) ∧ (x2 + 1) ≤ 2147483647) ∧ L_F_timesWithin_4 X N σ x0 (x2 + 1) (Int.tdiv x3 x0) g Q)) ∧ (¬ ((Int.tmod x3 x0) = 0) → Q x2 g))))))))) : L_F_timesWithin_4 X N σ x0 x2 x3 g Q := by
  refine z_iload_n (i := 2) 1 d_F_timesWithin_4 rfl rfl ?_
  refine z_bipush (n := 32) d_F_timesWithin_5 (by decide) (by decide) ?_
  refine z_icmp_ge (tgt := 35) d_F_timesWithin_7 (by decide) (fun c1 => ?_) (fun c1 => ?_)
  · have h := h.1 c1
    refine z_iload_n (i := 2) 1 d_F_timesWithin_35 rfl rfl ?_
    exact z_iret d_F_timesWithin_36 rfl (by decide) (by decide) ⟨rfl, rfl, h⟩
  · have h := h.2 c1
    refine z_iload_n (i := 0) 0 d_F_timesWithin_10 rfl rfl ?_
    refine z_iconst (n := 1) d_F_timesWithin_11 (by decide) ?_
    refine z_icmp_le (tgt := 35) d_F_timesWithin_12 (by decide) (fun c2 => ?_) (fun c2 => ?_)
    · have h := h.1 c2
      refine z_iload_n (i := 2) 1 d_F_timesWithin_35 rfl rfl ?_
      exact z_iret d_F_timesWithin_36 rfl (by decide) (by decide) ⟨rfl, rfl, h⟩
    · have h := h.2 c2
      refine z_iload_n (i := 3) 2 d_F_timesWithin_15 rfl rfl ?_
      refine z_if_le (tgt := 35) d_F_timesWithin_16 (by decide) (fun c3 => ?_) (fun c3 => ?_)
      · have h := h.1 c3
        refine z_iload_n (i := 2) 1 d_F_timesWithin_35 rfl rfl ?_
        exact z_iret d_F_timesWithin_36 rfl (by decide) (by decide) ⟨rfl, rfl, h⟩
      · have h := h.2 c3
        refine z_iload_n (i := 3) 2 d_F_timesWithin_19 rfl rfl ?_
        refine z_iload_n (i := 0) 0 d_F_timesWithin_20 rfl rfl ?_
        obtain ⟨c4, h⟩ := h
        refine z_irem d_F_timesWithin_21 c4 ?_
        refine z_if_ne (tgt := 35) d_F_timesWithin_22 (by decide) (fun c5 => ?_) (fun c5 => ?_)
        · have h := h.2 c5
          refine z_iload_n (i := 2) 1 d_F_timesWithin_35 rfl rfl ?_
          exact z_iret d_F_timesWithin_36 rfl (by decide) (by decide) ⟨rfl, rfl, h⟩
        · have h := h.1 c5
          refine z_iload_n (i := 3) 2 d_F_timesWithin_25 rfl rfl ?_
          refine z_iload_n (i := 0) 0 d_F_timesWithin_26 rfl rfl ?_
          refine z_idiv d_F_timesWithin_27 c4 ?_
          refine z_istore_n (i := 3) (ls' := [(3, (0, Int.tdiv x3 x0)), (0, (0, x0)), (2, (0, x2))]) d_F_timesWithin_28 rfl rfl rfl ?_
          obtain ⟨c6, h⟩ := h
          refine z_iinc (n := 1) (ls' := [(2, (0, x2 + 1)), (3, (0, Int.tdiv x3 x0)), (0, (0, x0))]) 2 d_F_timesWithin_29 rfl c6 rfl rfl ?_
          refine z_goto (tgt := 4) d_F_timesWithin_32 (by decide) ?_
          refine z_sub (ls' := [(0, (0, x0)), (2, (0, x2 + 1)), (3, (0, Int.tdiv x3 x0))]) [2, 0, 1] rfl ?_
          exact h
theorem d_F_top_0 : decode (z_c m_F_top) 0 = .ok (.aload_n 0, 1) := by decide +kernel
theorem d_F_top_1 : decode (z_c m_F_top) 1 = .ok (.getfield 13, 3) := by decide +kernel
theorem d_F_top_4 : decode (z_c m_F_top) 4 = .ok (.lreturn, 1) := by decide +kernel
set_option maxRecDepth 8000 in
theorem b_F_top_0 {X : z_X} {N : Nat} {σ g : z_G} {Q : z_P} (hx : z_lay X N σ 0 z_SF z_RF) (h : Q (g 0 1) g) : z_O X 1 m_F_top [(2, 0)] N σ g Q := by
  refine z_Oenter mi_F_top rfl (fun _ => ?_)
  show z_U X 1 m_F_top 0 [(0, (2, 0))] [] N σ g Q
  refine z_aload_n (i := 0) (c := 0) 0 d_F_top_0 rfl rfl rfl ?_
  refine z_getl (c := 0) (kI := 1) d_F_top_1 fd_F_toldTop fl_F_13 rfl rfl rfl (ks_F_0 hx) (kl_F_0 hx) ?_
  exact z_lret d_F_top_4 rfl (by decide) (by decide) ⟨rfl, rfl, h⟩
theorem d_F_without_0 : decode (z_c m_F_without) 0 = .ok (.iload_n 2, 1) := by decide +kernel
theorem d_F_without_1 : decode (z_c m_F_without) 1 = .ok (.istore_n 3, 1) := by decide +kernel
theorem d_F_without_2 : decode (z_c m_F_without) 2 = .ok (.iconst 0, 1) := by decide +kernel
theorem d_F_without_3 : decode (z_c m_F_without) 3 = .ok (.istore 4, 2) := by decide +kernel
theorem d_F_without_5 : decode (z_c m_F_without) 5 = .ok (.iload 4, 2) := by decide +kernel
theorem d_F_without_7 : decode (z_c m_F_without) 7 = .ok (.iload_n 1, 1) := by decide +kernel
theorem d_F_without_8 : decode (z_c m_F_without) 8 = .ok (.if_icmp .ge 18, 3) := by decide +kernel
theorem d_F_without_11 : decode (z_c m_F_without) 11 = .ok (.iload_n 0, 1) := by decide +kernel
theorem d_F_without_12 : decode (z_c m_F_without) 12 = .ok (.iconst 1, 1) := by decide +kernel
theorem d_F_without_13 : decode (z_c m_F_without) 13 = .ok (.if_icmp .le 7, 3) := by decide +kernel
theorem d_F_without_16 : decode (z_c m_F_without) 16 = .ok (.iload_n 3, 1) := by decide +kernel
theorem d_F_without_17 : decode (z_c m_F_without) 17 = .ok (.iload_n 0, 1) := by decide +kernel
theorem d_F_without_18 : decode (z_c m_F_without) 18 = .ok (.idiv, 1) := by decide +kernel
theorem d_F_without_19 : decode (z_c m_F_without) 19 = .ok (.istore_n 3, 1) := by decide +kernel
theorem d_F_without_20 : decode (z_c m_F_without) 20 = .ok (.iinc 4 1, 3) := by decide +kernel
theorem d_F_without_23 : decode (z_c m_F_without) 23 = .ok (.goto (-18), 3) := by decide +kernel
theorem d_F_without_26 : decode (z_c m_F_without) 26 = .ok (.iload_n 3, 1) := by decide +kernel
theorem d_F_without_27 : decode (z_c m_F_without) 27 = .ok (.ireturn, 1) := by decide +kernel
abbrev L_F_without_5 (X : z_X) (N : Nat) (σ : z_G) (x0 x1 x3 x4 : Int) (g : z_G) (Q : z_P) : Prop := z_U X 1 m_F_without 5 [(0, (0, x0)), (1, (0, x1)), (3, (0, x3)), (4, (0, x4))] [] N σ g Q
set_option maxRecDepth 8000 in
theorem b_F_without_0 {X : z_X} {N : Nat} {σ g : z_G} {Q : z_P} {a0 a1 a2 : Int} (h : L_F_without_5 X N σ a0 a1 a2 0 g Q) : z_O X 1 m_F_without [(0, a0), (0, a1), (0, a2)] N σ g Q := by
  refine z_Oenter mi_F_without rfl (fun _ => ?_)
  show z_U X 1 m_F_without 0 [(0, (0, a0)), (1, (0, a1)), (2, (0, a2))] [] N σ g Q
  refine z_iload_n (i := 2) 2 d_F_without_0 rfl rfl ?_
  refine z_istore_n (i := 3) (ls' := [(3, (0, a2)), (0, (0, a0)), (1, (0, a1)), (2, (0, a2))]) d_F_without_1 rfl rfl rfl ?_
  refine z_iconst (n := 0) d_F_without_2 (by decide) ?_
  refine z_istore (ls' := [(4, (0, 0)), (3, (0, a2)), (0, (0, a0)), (1, (0, a1)), (2, (0, a2))]) d_F_without_3 rfl rfl ?_
  refine z_sub (ls' := [(0, (0, a0)), (1, (0, a1)), (3, (0, a2)), (4, (0, 0))]) [2, 3, 1, 0] rfl ?_
  exact h
set_option maxRecDepth 8000 in
theorem b_F_without_5 {X : z_X} {N : Nat} {σ g : z_G} {Q : z_P} {x0 x1 x3 x4 : Int} (h : ((x1 ≤ x4) → Q x3 g) ∧ (¬ (x1 ≤ x4) → (((x0 ≤ 1) → ((-2147483648 ≤ (x4 + 1) ∧ (x4 + 1) ≤ 2147483647) ∧ L_F_without_5 X N σ x0 x1 x3 (x4 + 1) g Q)) ∧ (¬ (x0 ≤ 1) → ((0 < x0) ∧ ((-2147483648 ≤ (x4 + 1) ∧ (x4 + 1) ≤ 2147483647) ∧ L_F_without_5 X N σ x0 x1 (Int.tdiv x3 x0) (x4 + 1) g Q)))))) : L_F_without_5 X N σ x0 x1 x3 x4 g Q := by
  refine z_iload 3 d_F_without_5 rfl ?_
  refine z_iload_n (i := 1) 1 d_F_without_7 rfl rfl ?_
  refine z_icmp_ge (tgt := 26) d_F_without_8 (by decide) (fun c1 => ?_) (fun c1 => ?_)
  · have h := h.1 c1
    refine z_iload_n (i := 3) 2 d_F_without_26 rfl rfl ?_
    exact z_iret d_F_without_27 rfl (by decide) (by decide) ⟨rfl, rfl, h⟩
  · have h := h.2 c1
    refine z_iload_n (i := 0) 0 d_F_without_11 rfl rfl ?_
    refine z_iconst (n := 1) d_F_without_12 (by decide) ?_
    refine z_icmp_le (tgt := 20) d_F_without_13 (by decide) (fun c2 => ?_) (fun c2 => ?_)
    · have h := h.1 c2
      obtain ⟨c3, h⟩ := h
      refine z_iinc (n := 1) (ls' := [(4, (0, x4 + 1)), (0, (0, x0)), (1, (0, x1)), (3, (0, x3))]) 3 d_F_without_20 rfl c3 rfl rfl ?_
      refine z_goto (tgt := 5) d_F_without_23 (by decide) ?_
      refine z_sub (ls' := [(0, (0, x0)), (1, (0, x1)), (3, (0, x3)), (4, (0, x4 + 1))]) [1, 2, 3, 0] rfl ?_
      exact h
    · have h := h.2 c2
      refine z_iload_n (i := 3) 2 d_F_without_16 rfl rfl ?_
      refine z_iload_n (i := 0) 0 d_F_without_17 rfl rfl ?_
      obtain ⟨c4, h⟩ := h
      refine z_idiv d_F_without_18 c4 ?_
      refine z_istore_n (i := 3) (ls' := [(3, (0, Int.tdiv x3 x0)), (0, (0, x0)), (1, (0, x1)), (4, (0, x4))]) d_F_without_19 rfl rfl rfl ?_
      obtain ⟨c5, h⟩ := h
      refine z_iinc (n := 1) (ls' := [(4, (0, x4 + 1)), (3, (0, Int.tdiv x3 x0)), (0, (0, x0)), (1, (0, x1))]) 3 d_F_without_20 rfl c5 rfl rfl ?_
      refine z_goto (tgt := 5) d_F_without_23 (by decide) ?_
      refine z_sub (ls' := [(0, (0, x0)), (1, (0, x1)), (3, (0, Int.tdiv x3 x0)), (4, (0, x4 + 1))]) [2, 3, 1, 0] rfl ?_
      exact h
theorem d_Pa_mostOf_0 : decode (z_c m_Pa_mostOf) 0 = .ok (.iload_n 0, 1) := by decide +kernel
theorem d_Pa_mostOf_1 : decode (z_c m_Pa_mostOf) 1 = .ok (.lookupswitch 45 #[(4, 35), (6, 38), (9, 42)], 35) := by decide +kernel
theorem d_Pa_mostOf_36 : decode (z_c m_Pa_mostOf) 36 = .ok (.bipush 99, 2) := by decide +kernel
theorem d_Pa_mostOf_38 : decode (z_c m_Pa_mostOf) 38 = .ok (.ireturn, 1) := by decide +kernel
theorem d_Pa_mostOf_39 : decode (z_c m_Pa_mostOf) 39 = .ok (.sipush 200, 3) := by decide +kernel
theorem d_Pa_mostOf_42 : decode (z_c m_Pa_mostOf) 42 = .ok (.ireturn, 1) := by decide +kernel
theorem d_Pa_mostOf_43 : decode (z_c m_Pa_mostOf) 43 = .ok (.bipush 99, 2) := by decide +kernel
theorem d_Pa_mostOf_45 : decode (z_c m_Pa_mostOf) 45 = .ok (.ireturn, 1) := by decide +kernel
theorem d_Pa_mostOf_46 : decode (z_c m_Pa_mostOf) 46 = .ok (.iconst 0, 1) := by decide +kernel
theorem d_Pa_mostOf_47 : decode (z_c m_Pa_mostOf) 47 = .ok (.ireturn, 1) := by decide +kernel
set_option maxRecDepth 8000 in
theorem b_Pa_mostOf_0 {X : z_X} {N : Nat} {σ g : z_G} {Q : z_P} {a0 : Int} (h : ((a0 = 4) → Q 99 g) ∧ ((a0 = 6) → Q 200 g) ∧ ((a0 = 9) → Q 99 g) ∧ ((¬ (a0 = 4) ∧ ¬ (a0 = 6) ∧ ¬ (a0 = 9)) → Q 0 g)) : z_O X 1 m_Pa_mostOf [(0, a0)] N σ g Q := by
  refine z_Oenter mi_Pa_mostOf rfl (fun _ => ?_)
  show z_U X 1 m_Pa_mostOf 0 [(0, (0, a0))] [] N σ g Q
  refine z_iload_n (i := 0) 0 d_Pa_mostOf_0 rfl rfl ?_
  by_cases c2 : a0 = 4
  · have h := h.1 c2
    refine z_ti c2 ?_
    refine z_look (off := 35) (tgt := 36) d_Pa_mostOf_1 (by decide) (by decide) (by decide) ?_
    refine z_bipush (n := 99) d_Pa_mostOf_36 (by decide) (by decide) ?_
    exact z_iret d_Pa_mostOf_38 rfl (by decide) (by decide) ⟨rfl, rfl, h⟩
  have h := h.2
  by_cases c3 : a0 = 6
  · have h := h.1 c3
    refine z_ti c3 ?_
    refine z_look (off := 38) (tgt := 39) d_Pa_mostOf_1 (by decide) (by decide) (by decide) ?_
    refine z_sipush (n := 200) d_Pa_mostOf_39 (by decide) (by decide) ?_
    exact z_iret d_Pa_mostOf_42 rfl (by decide) (by decide) ⟨rfl, rfl, h⟩
  have h := h.2
  by_cases c4 : a0 = 9
  · have h := h.1 c4
    refine z_ti c4 ?_
    refine z_look (off := 42) (tgt := 43) d_Pa_mostOf_1 (by decide) (by decide) (by decide) ?_
    refine z_bipush (n := 99) d_Pa_mostOf_43 (by decide) (by decide) ?_
    exact z_iret d_Pa_mostOf_45 rfl (by decide) (by decide) ⟨rfl, rfl, h⟩
  have h := h.2
  have h := h ⟨c2, c3, c4⟩
  refine z_look (off := 45) (tgt := 46) d_Pa_mostOf_1 (by decide) (by simp [Op.lookupswitch.offset, Ne.symm c2, Ne.symm c3, Ne.symm c4]) (by decide) ?_
  refine z_iconst (n := 0) d_Pa_mostOf_46 (by decide) ?_
  exact z_iret d_Pa_mostOf_47 rfl (by decide) (by decide) ⟨rfl, rfl, h⟩
theorem d_Pg_addEnd_0 : decode (z_c m_Pg_addEnd) 0 = .ok (.aload_n 0, 1) := by decide +kernel
theorem d_Pg_addEnd_1 : decode (z_c m_Pg_addEnd) 1 = .ok (.getfield 33, 3) := by decide +kernel
theorem d_Pg_addEnd_4 : decode (z_c m_Pg_addEnd) 4 = .ok (.bipush 60, 2) := by decide +kernel
theorem d_Pg_addEnd_6 : decode (z_c m_Pg_addEnd) 6 = .ok (.if_icmp .ge 56, 3) := by decide +kernel
theorem d_Pg_addEnd_9 : decode (z_c m_Pg_addEnd) 9 = .ok (.iload_n 1, 1) := by decide +kernel
theorem d_Pg_addEnd_10 : decode (z_c m_Pg_addEnd) 10 = .ok (.ifCond .lt 52, 3) := by decide +kernel
theorem d_Pg_addEnd_13 : decode (z_c m_Pg_addEnd) 13 = .ok (.iload_n 1, 1) := by decide +kernel
theorem d_Pg_addEnd_14 : decode (z_c m_Pg_addEnd) 14 = .ok (.aload_n 0, 1) := by decide +kernel
theorem d_Pg_addEnd_15 : decode (z_c m_Pg_addEnd) 15 = .ok (.getfield 33, 3) := by decide +kernel
theorem d_Pg_addEnd_18 : decode (z_c m_Pg_addEnd) 18 = .ok (.if_icmp .ge 44, 3) := by decide +kernel
theorem d_Pg_addEnd_21 : decode (z_c m_Pg_addEnd) 21 = .ok (.aload_n 0, 1) := by decide +kernel
theorem d_Pg_addEnd_22 : decode (z_c m_Pg_addEnd) 22 = .ok (.getfield 9, 3) := by decide +kernel
theorem d_Pg_addEnd_25 : decode (z_c m_Pg_addEnd) 25 = .ok (.aload_n 0, 1) := by decide +kernel
theorem d_Pg_addEnd_26 : decode (z_c m_Pg_addEnd) 26 = .ok (.getfield 33, 3) := by decide +kernel
theorem d_Pg_addEnd_29 : decode (z_c m_Pg_addEnd) 29 = .ok (.bipush 11, 2) := by decide +kernel
theorem d_Pg_addEnd_31 : decode (z_c m_Pg_addEnd) 31 = .ok (.iastore, 1) := by decide +kernel
theorem d_Pg_addEnd_32 : decode (z_c m_Pg_addEnd) 32 = .ok (.aload_n 0, 1) := by decide +kernel
theorem d_Pg_addEnd_33 : decode (z_c m_Pg_addEnd) 33 = .ok (.getfield 22, 3) := by decide +kernel
theorem d_Pg_addEnd_36 : decode (z_c m_Pg_addEnd) 36 = .ok (.aload_n 0, 1) := by decide +kernel
theorem d_Pg_addEnd_37 : decode (z_c m_Pg_addEnd) 37 = .ok (.getfield 33, 3) := by decide +kernel
theorem d_Pg_addEnd_40 : decode (z_c m_Pg_addEnd) 40 = .ok (.iload_n 1, 1) := by decide +kernel
theorem d_Pg_addEnd_41 : decode (z_c m_Pg_addEnd) 41 = .ok (.iastore, 1) := by decide +kernel
theorem d_Pg_addEnd_42 : decode (z_c m_Pg_addEnd) 42 = .ok (.aload_n 0, 1) := by decide +kernel
theorem d_Pg_addEnd_43 : decode (z_c m_Pg_addEnd) 43 = .ok (.getfield 22, 3) := by decide +kernel
theorem d_Pg_addEnd_46 : decode (z_c m_Pg_addEnd) 46 = .ok (.iload_n 1, 1) := by decide +kernel
theorem d_Pg_addEnd_47 : decode (z_c m_Pg_addEnd) 47 = .ok (.aload_n 0, 1) := by decide +kernel
theorem d_Pg_addEnd_48 : decode (z_c m_Pg_addEnd) 48 = .ok (.getfield 33, 3) := by decide +kernel
theorem d_Pg_addEnd_51 : decode (z_c m_Pg_addEnd) 51 = .ok (.iastore, 1) := by decide +kernel
theorem d_Pg_addEnd_52 : decode (z_c m_Pg_addEnd) 52 = .ok (.aload_n 0, 1) := by decide +kernel
theorem d_Pg_addEnd_53 : decode (z_c m_Pg_addEnd) 53 = .ok (.dup, 1) := by decide +kernel
theorem d_Pg_addEnd_54 : decode (z_c m_Pg_addEnd) 54 = .ok (.getfield 33, 3) := by decide +kernel
theorem d_Pg_addEnd_57 : decode (z_c m_Pg_addEnd) 57 = .ok (.iconst 1, 1) := by decide +kernel
theorem d_Pg_addEnd_58 : decode (z_c m_Pg_addEnd) 58 = .ok (.iadd, 1) := by decide +kernel
theorem d_Pg_addEnd_59 : decode (z_c m_Pg_addEnd) 59 = .ok (.putfield 33, 3) := by decide +kernel
theorem d_Pg_addEnd_62 : decode (z_c m_Pg_addEnd) 62 = .ok (.return_, 1) := by decide +kernel
set_option maxRecDepth 8000 in
theorem b_Pg_addEnd_0 {X : z_X} {N : Nat} {σ g : z_G} {Q : z_P} {a1 : Int} {o : Nat} (ho : z_lay X N σ o z_SPg z_RPg) (h : ((60 ≤ (g o 2)) → Q 0 g) ∧ (¬ (60 ≤ (g o 2)) → (((a1 < 0) → Q 0 g) ∧ (¬ (a1 < 0) → ((((g o 2) ≤ a1) → Q 0 g) ∧ (¬ ((g o 2) ≤ a1) → ((0 ≤ (g o 2) ∧ (g o 2) < 60) ∧ ((0 ≤ a1 ∧ a1 < 60) ∧ ((-2147483648 ≤ ((g o 2) + 1) ∧ ((g o 2) + 1) ≤ 2147483647) ∧ Q 0 (z_up (z_up (z_up (z_up g (o + 1) (g o 2) 11) (o + 5) (g o 2) a1) (o + 5) a1 (g o 2)) o 2 ((g o 2) + 1))))))))))) : z_O X 1 m_Pg_addEnd [(2, ((o : Nat) : Int)), (0, a1)] N σ g Q := by
  refine z_Oenter mi_Pg_addEnd rfl (fun _ => ?_)
  show z_U X 1 m_Pg_addEnd 0 [(0, (2, ((o : Nat) : Int))), (1, (0, a1))] [] N σ g Q
  refine z_aload_n (i := 0) (c := o) 0 d_Pg_addEnd_0 rfl rfl rfl ?_
  refine z_geti (c := o) (kI := 2) d_Pg_addEnd_1 fd_Pg_lines fl_Pg_33 (Or.inl rfl) rfl rfl (ks_Pg_0 ho) (kl_Pg_0 ho) ?_
  refine z_bipush (n := 60) d_Pg_addEnd_4 (by decide) (by decide) ?_
  refine z_icmp_ge (tgt := 62) d_Pg_addEnd_6 (by decide) (fun c1 => ?_) (fun c1 => ?_)
  · have h := h.1 c1
    exact z_vret d_Pg_addEnd_62 rfl (by decide) (by decide) ⟨rfl, rfl, h⟩
  · have h := h.2 c1
    refine z_iload_n (i := 1) 1 d_Pg_addEnd_9 rfl rfl ?_
    refine z_if_lt (tgt := 62) d_Pg_addEnd_10 (by decide) (fun c2 => ?_) (fun c2 => ?_)
    · have h := h.1 c2
      exact z_vret d_Pg_addEnd_62 rfl (by decide) (by decide) ⟨rfl, rfl, h⟩
    · have h := h.2 c2
      refine z_iload_n (i := 1) 1 d_Pg_addEnd_13 rfl rfl ?_
      refine z_aload_n (i := 0) (c := o) 0 d_Pg_addEnd_14 rfl rfl rfl ?_
      refine z_geti (c := o) (kI := 2) d_Pg_addEnd_15 fd_Pg_lines fl_Pg_33 (Or.inl rfl) rfl rfl (ks_Pg_0 ho) (kl_Pg_0 ho) ?_
      refine z_icmp_ge (tgt := 62) d_Pg_addEnd_18 (by decide) (fun c3 => ?_) (fun c3 => ?_)
      · have h := h.1 c3
        exact z_vret d_Pg_addEnd_62 rfl (by decide) (by decide) ⟨rfl, rfl, h⟩
      · have h := h.2 c3
        refine z_aload_n (i := 0) (c := o) 0 d_Pg_addEnd_21 rfl rfl rfl ?_
        refine z_getr (c := o) (kI := 3) (r2 := ((o + 1 : Nat) : Int)) d_Pg_addEnd_22 fd_Pg_kinds fl_Pg_9 rfl rfl rfl (ks_Pg_0 ho) (kl_Pg_0 ho) (kr_Pg_0_3 ho) ?_
        refine z_aload_n (i := 0) (c := o) 0 d_Pg_addEnd_25 rfl rfl rfl ?_
        refine z_geti (c := o) (kI := 2) d_Pg_addEnd_26 fd_Pg_lines fl_Pg_33 (Or.inl rfl) rfl rfl (ks_Pg_0 ho) (kl_Pg_0 ho) ?_
        refine z_bipush (n := 11) d_Pg_addEnd_29 (by decide) (by decide) ?_
        obtain ⟨c4, h⟩ := h
        refine z_iast (c := (o + 1)) (m := 60) d_Pg_addEnd_31 rfl (ks_Pg_1 ho) (kl_Pg_1 ho) rfl (by decide) c4 ?_
        refine z_aload_n (i := 0) (c := o) 0 d_Pg_addEnd_32 rfl rfl rfl ?_
        refine z_getr (c := o) (kI := 7) (r2 := ((o + 5 : Nat) : Int)) d_Pg_addEnd_33 fd_Pg_mates fl_Pg_22 rfl rfl rfl (ks_Pg_0 ho) (kl_Pg_0 ho) (kr_Pg_0_7 ho) ?_
        refine z_aload_n (i := 0) (c := o) 0 d_Pg_addEnd_36 rfl rfl rfl ?_
        refine z_geti (c := o) (kI := 2) d_Pg_addEnd_37 fd_Pg_lines fl_Pg_33 (Or.inl rfl) rfl rfl (ks_Pg_0 ho) (kl_Pg_0 ho) ?_
        refine z_ti (b := g o 2) (by simp [z_up]) ?_
        refine z_iload_n (i := 1) 1 d_Pg_addEnd_40 rfl rfl ?_
        refine z_iast (c := (o + 5)) (m := 60) d_Pg_addEnd_41 rfl (ks_Pg_5 ho) (kl_Pg_5 ho) rfl (by decide) c4 ?_
        refine z_aload_n (i := 0) (c := o) 0 d_Pg_addEnd_42 rfl rfl rfl ?_
        refine z_getr (c := o) (kI := 7) (r2 := ((o + 5 : Nat) : Int)) d_Pg_addEnd_43 fd_Pg_mates fl_Pg_22 rfl rfl rfl (ks_Pg_0 ho) (kl_Pg_0 ho) (kr_Pg_0_7 ho) ?_
        refine z_iload_n (i := 1) 1 d_Pg_addEnd_46 rfl rfl ?_
        refine z_aload_n (i := 0) (c := o) 0 d_Pg_addEnd_47 rfl rfl rfl ?_
        refine z_geti (c := o) (kI := 2) d_Pg_addEnd_48 fd_Pg_lines fl_Pg_33 (Or.inl rfl) rfl rfl (ks_Pg_0 ho) (kl_Pg_0 ho) ?_
        refine z_ti (b := g o 2) (by simp [z_up]) ?_
        obtain ⟨c5, h⟩ := h
        refine z_iast (c := (o + 5)) (m := 60) d_Pg_addEnd_51 rfl (ks_Pg_5 ho) (kl_Pg_5 ho) rfl (by decide) c5 ?_
        refine z_aload_n (i := 0) (c := o) 0 d_Pg_addEnd_52 rfl rfl rfl ?_
        refine z_dup d_Pg_addEnd_53 rfl ?_
        refine z_geti (c := o) (kI := 2) d_Pg_addEnd_54 fd_Pg_lines fl_Pg_33 (Or.inl rfl) rfl rfl (ks_Pg_0 ho) (kl_Pg_0 ho) ?_
        refine z_ti (b := g o 2) (by simp [z_up]) ?_
        refine z_iconst (n := 1) d_Pg_addEnd_57 (by decide) ?_
        obtain ⟨c6, h⟩ := h
        refine z_iadd d_Pg_addEnd_58 c6 ?_
        refine z_puti (c := o) (kI := 2) d_Pg_addEnd_59 fd_Pg_lines fl_Pg_33 pf_Pg_lines rfl rfl rfl rfl (ks_Pg_0 ho) (kl_Pg_0 ho) ?_
        exact z_vret d_Pg_addEnd_62 rfl (by decide) (by decide) ⟨rfl, rfl, h⟩
theorem d_Pg_addStep_0 : decode (z_c m_Pg_addStep) 0 = .ok (.aload_n 0, 1) := by decide +kernel
theorem d_Pg_addStep_1 : decode (z_c m_Pg_addStep) 1 = .ok (.getfield 33, 3) := by decide +kernel
theorem d_Pg_addStep_4 : decode (z_c m_Pg_addStep) 4 = .ok (.bipush 60, 2) := by decide +kernel
theorem d_Pg_addStep_6 : decode (z_c m_Pg_addStep) 6 = .ok (.if_icmp .ge 77, 3) := by decide +kernel
theorem d_Pg_addStep_9 : decode (z_c m_Pg_addStep) 9 = .ok (.aload_n 0, 1) := by decide +kernel
theorem d_Pg_addStep_10 : decode (z_c m_Pg_addStep) 10 = .ok (.getfield 9, 3) := by decide +kernel
theorem d_Pg_addStep_13 : decode (z_c m_Pg_addStep) 13 = .ok (.aload_n 0, 1) := by decide +kernel
theorem d_Pg_addStep_14 : decode (z_c m_Pg_addStep) 14 = .ok (.getfield 33, 3) := by decide +kernel
theorem d_Pg_addStep_17 : decode (z_c m_Pg_addStep) 17 = .ok (.iload_n 1, 1) := by decide +kernel
theorem d_Pg_addStep_18 : decode (z_c m_Pg_addStep) 18 = .ok (.iastore, 1) := by decide +kernel
theorem d_Pg_addStep_19 : decode (z_c m_Pg_addStep) 19 = .ok (.aload_n 0, 1) := by decide +kernel
theorem d_Pg_addStep_20 : decode (z_c m_Pg_addStep) 20 = .ok (.getfield 13, 3) := by decide +kernel
theorem d_Pg_addStep_23 : decode (z_c m_Pg_addStep) 23 = .ok (.aload_n 0, 1) := by decide +kernel
theorem d_Pg_addStep_24 : decode (z_c m_Pg_addStep) 24 = .ok (.getfield 33, 3) := by decide +kernel
theorem d_Pg_addStep_27 : decode (z_c m_Pg_addStep) 27 = .ok (.iload_n 2, 1) := by decide +kernel
theorem d_Pg_addStep_28 : decode (z_c m_Pg_addStep) 28 = .ok (.iastore, 1) := by decide +kernel
theorem d_Pg_addStep_29 : decode (z_c m_Pg_addStep) 29 = .ok (.aload_n 0, 1) := by decide +kernel
theorem d_Pg_addStep_30 : decode (z_c m_Pg_addStep) 30 = .ok (.getfield 16, 3) := by decide +kernel
theorem d_Pg_addStep_33 : decode (z_c m_Pg_addStep) 33 = .ok (.aload_n 0, 1) := by decide +kernel
theorem d_Pg_addStep_34 : decode (z_c m_Pg_addStep) 34 = .ok (.getfield 33, 3) := by decide +kernel
theorem d_Pg_addStep_37 : decode (z_c m_Pg_addStep) 37 = .ok (.iload_n 3, 1) := by decide +kernel
theorem d_Pg_addStep_38 : decode (z_c m_Pg_addStep) 38 = .ok (.iastore, 1) := by decide +kernel
theorem d_Pg_addStep_39 : decode (z_c m_Pg_addStep) 39 = .ok (.aload_n 0, 1) := by decide +kernel
theorem d_Pg_addStep_40 : decode (z_c m_Pg_addStep) 40 = .ok (.getfield 19, 3) := by decide +kernel
theorem d_Pg_addStep_43 : decode (z_c m_Pg_addStep) 43 = .ok (.aload_n 0, 1) := by decide +kernel
theorem d_Pg_addStep_44 : decode (z_c m_Pg_addStep) 44 = .ok (.getfield 33, 3) := by decide +kernel
theorem d_Pg_addStep_47 : decode (z_c m_Pg_addStep) 47 = .ok (.iload 4, 2) := by decide +kernel
theorem d_Pg_addStep_49 : decode (z_c m_Pg_addStep) 49 = .ok (.iastore, 1) := by decide +kernel
theorem d_Pg_addStep_50 : decode (z_c m_Pg_addStep) 50 = .ok (.aload_n 0, 1) := by decide +kernel
theorem d_Pg_addStep_51 : decode (z_c m_Pg_addStep) 51 = .ok (.getfield 22, 3) := by decide +kernel
theorem d_Pg_addStep_54 : decode (z_c m_Pg_addStep) 54 = .ok (.aload_n 0, 1) := by decide +kernel
theorem d_Pg_addStep_55 : decode (z_c m_Pg_addStep) 55 = .ok (.getfield 33, 3) := by decide +kernel
theorem d_Pg_addStep_58 : decode (z_c m_Pg_addStep) 58 = .ok (.aload_n 0, 1) := by decide +kernel
theorem d_Pg_addStep_59 : decode (z_c m_Pg_addStep) 59 = .ok (.getfield 33, 3) := by decide +kernel
theorem d_Pg_addStep_62 : decode (z_c m_Pg_addStep) 62 = .ok (.iastore, 1) := by decide +kernel
theorem d_Pg_addStep_63 : decode (z_c m_Pg_addStep) 63 = .ok (.aload_n 0, 1) := by decide +kernel
theorem d_Pg_addStep_64 : decode (z_c m_Pg_addStep) 64 = .ok (.dup, 1) := by decide +kernel
theorem d_Pg_addStep_65 : decode (z_c m_Pg_addStep) 65 = .ok (.getfield 33, 3) := by decide +kernel
theorem d_Pg_addStep_68 : decode (z_c m_Pg_addStep) 68 = .ok (.iconst 1, 1) := by decide +kernel
theorem d_Pg_addStep_69 : decode (z_c m_Pg_addStep) 69 = .ok (.iadd, 1) := by decide +kernel
theorem d_Pg_addStep_70 : decode (z_c m_Pg_addStep) 70 = .ok (.putfield 33, 3) := by decide +kernel
theorem d_Pg_addStep_73 : decode (z_c m_Pg_addStep) 73 = .ok (.aload_n 0, 1) := by decide +kernel
theorem d_Pg_addStep_74 : decode (z_c m_Pg_addStep) 74 = .ok (.dup, 1) := by decide +kernel
theorem d_Pg_addStep_75 : decode (z_c m_Pg_addStep) 75 = .ok (.getfield 29, 3) := by decide +kernel
theorem d_Pg_addStep_78 : decode (z_c m_Pg_addStep) 78 = .ok (.iconst 1, 1) := by decide +kernel
theorem d_Pg_addStep_79 : decode (z_c m_Pg_addStep) 79 = .ok (.iadd, 1) := by decide +kernel
theorem d_Pg_addStep_80 : decode (z_c m_Pg_addStep) 80 = .ok (.putfield 29, 3) := by decide +kernel
theorem d_Pg_addStep_83 : decode (z_c m_Pg_addStep) 83 = .ok (.return_, 1) := by decide +kernel
set_option maxRecDepth 8000 in
theorem b_Pg_addStep_0 {X : z_X} {N : Nat} {σ g : z_G} {Q : z_P} {a1 a2 a3 a4 : Int} {o : Nat} (ho : z_lay X N σ o z_SPg z_RPg) (h : ((60 ≤ (g o 2)) → Q 0 g) ∧ (¬ (60 ≤ (g o 2)) → ((0 ≤ (g o 2) ∧ (g o 2) < 60) ∧ ((-2147483648 ≤ ((g o 2) + 1) ∧ ((g o 2) + 1) ≤ 2147483647) ∧ ((-2147483648 ≤ ((g o 1) + 1) ∧ ((g o 1) + 1) ≤ 2147483647) ∧ Q 0 (z_up (z_up (z_up (z_up (z_up (z_up (z_up g (o + 1) (g o 2) a1) (o + 2) (g o 2) a2) (o + 3) (g o 2) a3) (o + 4) (g o 2) a4) (o + 5) (g o 2) (g o 2)) o 2 ((g o 2) + 1)) o 1 ((g o 1) + 1))))))) : z_O X 1 m_Pg_addStep [(2, ((o : Nat) : Int)), (0, a1), (0, a2), (0, a3), (0, a4)] N σ g Q := by
  refine z_Oenter mi_Pg_addStep rfl (fun _ => ?_)
  show z_U X 1 m_Pg_addStep 0 [(0, (2, ((o : Nat) : Int))), (1, (0, a1)), (2, (0, a2)), (3, (0, a3)), (4, (0, a4))] [] N σ g Q
  refine z_aload_n (i := 0) (c := o) 0 d_Pg_addStep_0 rfl rfl rfl ?_
  refine z_geti (c := o) (kI := 2) d_Pg_addStep_1 fd_Pg_lines fl_Pg_33 (Or.inl rfl) rfl rfl (ks_Pg_0 ho) (kl_Pg_0 ho) ?_
  refine z_bipush (n := 60) d_Pg_addStep_4 (by decide) (by decide) ?_
  refine z_icmp_ge (tgt := 83) d_Pg_addStep_6 (by decide) (fun c1 => ?_) (fun c1 => ?_)
  · have h := h.1 c1
    exact z_vret d_Pg_addStep_83 rfl (by decide) (by decide) ⟨rfl, rfl, h⟩
  · have h := h.2 c1
    refine z_aload_n (i := 0) (c := o) 0 d_Pg_addStep_9 rfl rfl rfl ?_
    refine z_getr (c := o) (kI := 3) (r2 := ((o + 1 : Nat) : Int)) d_Pg_addStep_10 fd_Pg_kinds fl_Pg_9 rfl rfl rfl (ks_Pg_0 ho) (kl_Pg_0 ho) (kr_Pg_0_3 ho) ?_
    refine z_aload_n (i := 0) (c := o) 0 d_Pg_addStep_13 rfl rfl rfl ?_
    refine z_geti (c := o) (kI := 2) d_Pg_addStep_14 fd_Pg_lines fl_Pg_33 (Or.inl rfl) rfl rfl (ks_Pg_0 ho) (kl_Pg_0 ho) ?_
    refine z_iload_n (i := 1) 1 d_Pg_addStep_17 rfl rfl ?_
    obtain ⟨c2, h⟩ := h
    refine z_iast (c := (o + 1)) (m := 60) d_Pg_addStep_18 rfl (ks_Pg_1 ho) (kl_Pg_1 ho) rfl (by decide) c2 ?_
    refine z_aload_n (i := 0) (c := o) 0 d_Pg_addStep_19 rfl rfl rfl ?_
    refine z_getr (c := o) (kI := 4) (r2 := ((o + 2 : Nat) : Int)) d_Pg_addStep_20 fd_Pg_tests fl_Pg_13 rfl rfl rfl (ks_Pg_0 ho) (kl_Pg_0 ho) (kr_Pg_0_4 ho) ?_
    refine z_aload_n (i := 0) (c := o) 0 d_Pg_addStep_23 rfl rfl rfl ?_
    refine z_geti (c := o) (kI := 2) d_Pg_addStep_24 fd_Pg_lines fl_Pg_33 (Or.inl rfl) rfl rfl (ks_Pg_0 ho) (kl_Pg_0 ho) ?_
    refine z_ti (b := g o 2) (by simp [z_up]) ?_
    refine z_iload_n (i := 2) 2 d_Pg_addStep_27 rfl rfl ?_
    refine z_iast (c := (o + 2)) (m := 60) d_Pg_addStep_28 rfl (ks_Pg_2 ho) (kl_Pg_2 ho) rfl (by decide) c2 ?_
    refine z_aload_n (i := 0) (c := o) 0 d_Pg_addStep_29 rfl rfl rfl ?_
    refine z_getr (c := o) (kI := 5) (r2 := ((o + 3 : Nat) : Int)) d_Pg_addStep_30 fd_Pg_firsts fl_Pg_16 rfl rfl rfl (ks_Pg_0 ho) (kl_Pg_0 ho) (kr_Pg_0_5 ho) ?_
    refine z_aload_n (i := 0) (c := o) 0 d_Pg_addStep_33 rfl rfl rfl ?_
    refine z_geti (c := o) (kI := 2) d_Pg_addStep_34 fd_Pg_lines fl_Pg_33 (Or.inl rfl) rfl rfl (ks_Pg_0 ho) (kl_Pg_0 ho) ?_
    refine z_ti (b := g o 2) (by simp [z_up]) ?_
    refine z_iload_n (i := 3) 3 d_Pg_addStep_37 rfl rfl ?_
    refine z_iast (c := (o + 3)) (m := 60) d_Pg_addStep_38 rfl (ks_Pg_3 ho) (kl_Pg_3 ho) rfl (by decide) c2 ?_
    refine z_aload_n (i := 0) (c := o) 0 d_Pg_addStep_39 rfl rfl rfl ?_
    refine z_getr (c := o) (kI := 6) (r2 := ((o + 4 : Nat) : Int)) d_Pg_addStep_40 fd_Pg_seconds fl_Pg_19 rfl rfl rfl (ks_Pg_0 ho) (kl_Pg_0 ho) (kr_Pg_0_6 ho) ?_
    refine z_aload_n (i := 0) (c := o) 0 d_Pg_addStep_43 rfl rfl rfl ?_
    refine z_geti (c := o) (kI := 2) d_Pg_addStep_44 fd_Pg_lines fl_Pg_33 (Or.inl rfl) rfl rfl (ks_Pg_0 ho) (kl_Pg_0 ho) ?_
    refine z_ti (b := g o 2) (by simp [z_up]) ?_
    refine z_iload 4 d_Pg_addStep_47 rfl ?_
    refine z_iast (c := (o + 4)) (m := 60) d_Pg_addStep_49 rfl (ks_Pg_4 ho) (kl_Pg_4 ho) rfl (by decide) c2 ?_
    refine z_aload_n (i := 0) (c := o) 0 d_Pg_addStep_50 rfl rfl rfl ?_
    refine z_getr (c := o) (kI := 7) (r2 := ((o + 5 : Nat) : Int)) d_Pg_addStep_51 fd_Pg_mates fl_Pg_22 rfl rfl rfl (ks_Pg_0 ho) (kl_Pg_0 ho) (kr_Pg_0_7 ho) ?_
    refine z_aload_n (i := 0) (c := o) 0 d_Pg_addStep_54 rfl rfl rfl ?_
    refine z_geti (c := o) (kI := 2) d_Pg_addStep_55 fd_Pg_lines fl_Pg_33 (Or.inl rfl) rfl rfl (ks_Pg_0 ho) (kl_Pg_0 ho) ?_
    refine z_ti (b := g o 2) (by simp [z_up]) ?_
    refine z_aload_n (i := 0) (c := o) 0 d_Pg_addStep_58 rfl rfl rfl ?_
    refine z_geti (c := o) (kI := 2) d_Pg_addStep_59 fd_Pg_lines fl_Pg_33 (Or.inl rfl) rfl rfl (ks_Pg_0 ho) (kl_Pg_0 ho) ?_
    refine z_ti (b := g o 2) (by simp [z_up]) ?_
    refine z_iast (c := (o + 5)) (m := 60) d_Pg_addStep_62 rfl (ks_Pg_5 ho) (kl_Pg_5 ho) rfl (by decide) c2 ?_
    refine z_aload_n (i := 0) (c := o) 0 d_Pg_addStep_63 rfl rfl rfl ?_
    refine z_dup d_Pg_addStep_64 rfl ?_
    refine z_geti (c := o) (kI := 2) d_Pg_addStep_65 fd_Pg_lines fl_Pg_33 (Or.inl rfl) rfl rfl (ks_Pg_0 ho) (kl_Pg_0 ho) ?_
    refine z_ti (b := g o 2) (by simp [z_up]) ?_
    refine z_iconst (n := 1) d_Pg_addStep_68 (by decide) ?_
    obtain ⟨c3, h⟩ := h
    refine z_iadd d_Pg_addStep_69 c3 ?_
    refine z_puti (c := o) (kI := 2) d_Pg_addStep_70 fd_Pg_lines fl_Pg_33 pf_Pg_lines rfl rfl rfl rfl (ks_Pg_0 ho) (kl_Pg_0 ho) ?_
    refine z_aload_n (i := 0) (c := o) 0 d_Pg_addStep_73 rfl rfl rfl ?_
    refine z_dup d_Pg_addStep_74 rfl ?_
    refine z_geti (c := o) (kI := 1) d_Pg_addStep_75 fd_Pg_steps fl_Pg_29 (Or.inl rfl) rfl rfl (ks_Pg_0 ho) (kl_Pg_0 ho) ?_
    refine z_ti (b := g o 1) (by simp [z_up]) ?_
    refine z_iconst (n := 1) d_Pg_addStep_78 (by decide) ?_
    obtain ⟨c4, h⟩ := h
    refine z_iadd d_Pg_addStep_79 c4 ?_
    refine z_puti (c := o) (kI := 1) d_Pg_addStep_80 fd_Pg_steps fl_Pg_29 pf_Pg_steps rfl rfl rfl rfl (ks_Pg_0 ho) (kl_Pg_0 ho) ?_
    exact z_vret d_Pg_addStep_83 rfl (by decide) (by decide) ⟨rfl, rfl, h⟩
theorem d_Pg_clear_0 : decode (z_c m_Pg_clear) 0 = .ok (.aload_n 0, 1) := by decide +kernel
theorem d_Pg_clear_1 : decode (z_c m_Pg_clear) 1 = .ok (.iconst 0, 1) := by decide +kernel
theorem d_Pg_clear_2 : decode (z_c m_Pg_clear) 2 = .ok (.putfield 25, 3) := by decide +kernel
theorem d_Pg_clear_5 : decode (z_c m_Pg_clear) 5 = .ok (.aload_n 0, 1) := by decide +kernel
theorem d_Pg_clear_6 : decode (z_c m_Pg_clear) 6 = .ok (.iconst 0, 1) := by decide +kernel
theorem d_Pg_clear_7 : decode (z_c m_Pg_clear) 7 = .ok (.putfield 29, 3) := by decide +kernel
theorem d_Pg_clear_10 : decode (z_c m_Pg_clear) 10 = .ok (.aload_n 0, 1) := by decide +kernel
theorem d_Pg_clear_11 : decode (z_c m_Pg_clear) 11 = .ok (.iconst 0, 1) := by decide +kernel
theorem d_Pg_clear_12 : decode (z_c m_Pg_clear) 12 = .ok (.putfield 33, 3) := by decide +kernel
theorem d_Pg_clear_15 : decode (z_c m_Pg_clear) 15 = .ok (.return_, 1) := by decide +kernel
set_option maxRecDepth 8000 in
theorem b_Pg_clear_0 {X : z_X} {N : Nat} {σ g : z_G} {Q : z_P} {o : Nat} (ho : z_lay X N σ o z_SPg z_RPg) (h : Q 0 (z_up (z_up (z_up g o 0 0) o 1 0) o 2 0)) : z_O X 1 m_Pg_clear [(2, ((o : Nat) : Int))] N σ g Q := by
  refine z_Oenter mi_Pg_clear rfl (fun _ => ?_)
  show z_U X 1 m_Pg_clear 0 [(0, (2, ((o : Nat) : Int)))] [] N σ g Q
  refine z_aload_n (i := 0) (c := o) 0 d_Pg_clear_0 rfl rfl rfl ?_
  refine z_iconst (n := 0) d_Pg_clear_1 (by decide) ?_
  refine z_putz (c := o) (kI := 0) d_Pg_clear_2 fd_Pg_given fl_Pg_25 pf_Pg_given rfl rfl rfl rfl (ks_Pg_0 ho) (kl_Pg_0 ho) (by decide) ?_
  refine z_aload_n (i := 0) (c := o) 0 d_Pg_clear_5 rfl rfl rfl ?_
  refine z_iconst (n := 0) d_Pg_clear_6 (by decide) ?_
  refine z_puti (c := o) (kI := 1) d_Pg_clear_7 fd_Pg_steps fl_Pg_29 pf_Pg_steps rfl rfl rfl rfl (ks_Pg_0 ho) (kl_Pg_0 ho) ?_
  refine z_aload_n (i := 0) (c := o) 0 d_Pg_clear_10 rfl rfl rfl ?_
  refine z_iconst (n := 0) d_Pg_clear_11 (by decide) ?_
  refine z_puti (c := o) (kI := 2) d_Pg_clear_12 fd_Pg_lines fl_Pg_33 pf_Pg_lines rfl rfl rfl rfl (ks_Pg_0 ho) (kl_Pg_0 ho) ?_
  exact z_vret d_Pg_clear_15 rfl (by decide) (by decide) ⟨rfl, rfl, h⟩
theorem d_Pg_copyFrom_0 : decode (z_c m_Pg_copyFrom) 0 = .ok (.aload_n 0, 1) := by decide +kernel
theorem d_Pg_copyFrom_1 : decode (z_c m_Pg_copyFrom) 1 = .ok (.aload_n 1, 1) := by decide +kernel
theorem d_Pg_copyFrom_2 : decode (z_c m_Pg_copyFrom) 2 = .ok (.getfield 25, 3) := by decide +kernel
theorem d_Pg_copyFrom_5 : decode (z_c m_Pg_copyFrom) 5 = .ok (.putfield 25, 3) := by decide +kernel
theorem d_Pg_copyFrom_8 : decode (z_c m_Pg_copyFrom) 8 = .ok (.aload_n 0, 1) := by decide +kernel
theorem d_Pg_copyFrom_9 : decode (z_c m_Pg_copyFrom) 9 = .ok (.aload_n 1, 1) := by decide +kernel
theorem d_Pg_copyFrom_10 : decode (z_c m_Pg_copyFrom) 10 = .ok (.getfield 29, 3) := by decide +kernel
theorem d_Pg_copyFrom_13 : decode (z_c m_Pg_copyFrom) 13 = .ok (.putfield 29, 3) := by decide +kernel
theorem d_Pg_copyFrom_16 : decode (z_c m_Pg_copyFrom) 16 = .ok (.aload_n 0, 1) := by decide +kernel
theorem d_Pg_copyFrom_17 : decode (z_c m_Pg_copyFrom) 17 = .ok (.aload_n 1, 1) := by decide +kernel
theorem d_Pg_copyFrom_18 : decode (z_c m_Pg_copyFrom) 18 = .ok (.getfield 33, 3) := by decide +kernel
theorem d_Pg_copyFrom_21 : decode (z_c m_Pg_copyFrom) 21 = .ok (.putfield 33, 3) := by decide +kernel
theorem d_Pg_copyFrom_24 : decode (z_c m_Pg_copyFrom) 24 = .ok (.aload_n 1, 1) := by decide +kernel
theorem d_Pg_copyFrom_25 : decode (z_c m_Pg_copyFrom) 25 = .ok (.getfield 9, 3) := by decide +kernel
theorem d_Pg_copyFrom_28 : decode (z_c m_Pg_copyFrom) 28 = .ok (.iconst 0, 1) := by decide +kernel
theorem d_Pg_copyFrom_29 : decode (z_c m_Pg_copyFrom) 29 = .ok (.aload_n 0, 1) := by decide +kernel
theorem d_Pg_copyFrom_30 : decode (z_c m_Pg_copyFrom) 30 = .ok (.getfield 9, 3) := by decide +kernel
theorem d_Pg_copyFrom_33 : decode (z_c m_Pg_copyFrom) 33 = .ok (.iconst 0, 1) := by decide +kernel
theorem d_Pg_copyFrom_34 : decode (z_c m_Pg_copyFrom) 34 = .ok (.bipush 60, 2) := by decide +kernel
theorem d_Pg_copyFrom_36 : decode (z_c m_Pg_copyFrom) 36 = .ok (.invokestatic 36, 3) := by decide +kernel
theorem d_Pg_copyFrom_39 : decode (z_c m_Pg_copyFrom) 39 = .ok (.aload_n 1, 1) := by decide +kernel
theorem d_Pg_copyFrom_40 : decode (z_c m_Pg_copyFrom) 40 = .ok (.getfield 13, 3) := by decide +kernel
theorem d_Pg_copyFrom_43 : decode (z_c m_Pg_copyFrom) 43 = .ok (.iconst 0, 1) := by decide +kernel
theorem d_Pg_copyFrom_44 : decode (z_c m_Pg_copyFrom) 44 = .ok (.aload_n 0, 1) := by decide +kernel
theorem d_Pg_copyFrom_45 : decode (z_c m_Pg_copyFrom) 45 = .ok (.getfield 13, 3) := by decide +kernel
theorem d_Pg_copyFrom_48 : decode (z_c m_Pg_copyFrom) 48 = .ok (.iconst 0, 1) := by decide +kernel
theorem d_Pg_copyFrom_49 : decode (z_c m_Pg_copyFrom) 49 = .ok (.bipush 60, 2) := by decide +kernel
theorem d_Pg_copyFrom_51 : decode (z_c m_Pg_copyFrom) 51 = .ok (.invokestatic 36, 3) := by decide +kernel
theorem d_Pg_copyFrom_54 : decode (z_c m_Pg_copyFrom) 54 = .ok (.aload_n 1, 1) := by decide +kernel
theorem d_Pg_copyFrom_55 : decode (z_c m_Pg_copyFrom) 55 = .ok (.getfield 16, 3) := by decide +kernel
theorem d_Pg_copyFrom_58 : decode (z_c m_Pg_copyFrom) 58 = .ok (.iconst 0, 1) := by decide +kernel
theorem d_Pg_copyFrom_59 : decode (z_c m_Pg_copyFrom) 59 = .ok (.aload_n 0, 1) := by decide +kernel
theorem d_Pg_copyFrom_60 : decode (z_c m_Pg_copyFrom) 60 = .ok (.getfield 16, 3) := by decide +kernel
theorem d_Pg_copyFrom_63 : decode (z_c m_Pg_copyFrom) 63 = .ok (.iconst 0, 1) := by decide +kernel
theorem d_Pg_copyFrom_64 : decode (z_c m_Pg_copyFrom) 64 = .ok (.bipush 60, 2) := by decide +kernel
theorem d_Pg_copyFrom_66 : decode (z_c m_Pg_copyFrom) 66 = .ok (.invokestatic 36, 3) := by decide +kernel
theorem d_Pg_copyFrom_69 : decode (z_c m_Pg_copyFrom) 69 = .ok (.aload_n 1, 1) := by decide +kernel
theorem d_Pg_copyFrom_70 : decode (z_c m_Pg_copyFrom) 70 = .ok (.getfield 19, 3) := by decide +kernel
theorem d_Pg_copyFrom_73 : decode (z_c m_Pg_copyFrom) 73 = .ok (.iconst 0, 1) := by decide +kernel
theorem d_Pg_copyFrom_74 : decode (z_c m_Pg_copyFrom) 74 = .ok (.aload_n 0, 1) := by decide +kernel
theorem d_Pg_copyFrom_75 : decode (z_c m_Pg_copyFrom) 75 = .ok (.getfield 19, 3) := by decide +kernel
theorem d_Pg_copyFrom_78 : decode (z_c m_Pg_copyFrom) 78 = .ok (.iconst 0, 1) := by decide +kernel
theorem d_Pg_copyFrom_79 : decode (z_c m_Pg_copyFrom) 79 = .ok (.bipush 60, 2) := by decide +kernel
theorem d_Pg_copyFrom_81 : decode (z_c m_Pg_copyFrom) 81 = .ok (.invokestatic 36, 3) := by decide +kernel
theorem d_Pg_copyFrom_84 : decode (z_c m_Pg_copyFrom) 84 = .ok (.aload_n 1, 1) := by decide +kernel
theorem d_Pg_copyFrom_85 : decode (z_c m_Pg_copyFrom) 85 = .ok (.getfield 22, 3) := by decide +kernel
theorem d_Pg_copyFrom_88 : decode (z_c m_Pg_copyFrom) 88 = .ok (.iconst 0, 1) := by decide +kernel
theorem d_Pg_copyFrom_89 : decode (z_c m_Pg_copyFrom) 89 = .ok (.aload_n 0, 1) := by decide +kernel
theorem d_Pg_copyFrom_90 : decode (z_c m_Pg_copyFrom) 90 = .ok (.getfield 22, 3) := by decide +kernel
theorem d_Pg_copyFrom_93 : decode (z_c m_Pg_copyFrom) 93 = .ok (.iconst 0, 1) := by decide +kernel
theorem d_Pg_copyFrom_94 : decode (z_c m_Pg_copyFrom) 94 = .ok (.bipush 60, 2) := by decide +kernel
theorem d_Pg_copyFrom_96 : decode (z_c m_Pg_copyFrom) 96 = .ok (.invokestatic 36, 3) := by decide +kernel
theorem d_Pg_copyFrom_99 : decode (z_c m_Pg_copyFrom) 99 = .ok (.return_, 1) := by decide +kernel
set_option maxRecDepth 8000 in
theorem b_Pg_copyFrom_0 {X : z_X} {N : Nat} {σ g : z_G} {Q : z_P} {o p1 : Nat} (ho : z_lay X N σ o z_SPg z_RPg) (hp1 : z_lay X N σ p1 z_SPg z_RPg) (h : Q 0 (z_cp (z_cp (z_cp (z_cp (z_cp (z_up (z_up (z_up g o 0 (g p1 0)) o 1 ((z_up g o 0 (g p1 0)) p1 1)) o 2 ((z_up (z_up g o 0 (g p1 0)) o 1 ((z_up g o 0 (g p1 0)) p1 1)) p1 2)) (p1 + 1) (o + 1) 0 0 60) (p1 + 2) (o + 2) 0 0 60) (p1 + 3) (o + 3) 0 0 60) (p1 + 4) (o + 4) 0 0 60) (p1 + 5) (o + 5) 0 0 60)) : z_O X 1 m_Pg_copyFrom [(2, ((o : Nat) : Int)), (2, ((p1 : Nat) : Int))] N σ g Q := by
  refine z_Oenter mi_Pg_copyFrom rfl (fun _ => ?_)
  show z_U X 1 m_Pg_copyFrom 0 [(0, (2, ((o : Nat) : Int))), (1, (2, ((p1 : Nat) : Int)))] [] N σ g Q
  refine z_aload_n (i := 0) (c := o) 0 d_Pg_copyFrom_0 rfl rfl rfl ?_
  refine z_aload_n (i := 1) (c := p1) 1 d_Pg_copyFrom_1 rfl rfl rfl ?_
  refine z_getz (c := p1) (kI := 0) d_Pg_copyFrom_2 fd_Pg_given fl_Pg_25 rfl rfl rfl (ks_Pg_0 hp1) (kl_Pg_0 hp1) (fun z1 => ?_)
  refine z_putz (c := o) (kI := 0) d_Pg_copyFrom_5 fd_Pg_given fl_Pg_25 pf_Pg_given rfl rfl rfl rfl (ks_Pg_0 ho) (kl_Pg_0 ho) z1 ?_
  refine z_aload_n (i := 0) (c := o) 0 d_Pg_copyFrom_8 rfl rfl rfl ?_
  refine z_aload_n (i := 1) (c := p1) 1 d_Pg_copyFrom_9 rfl rfl rfl ?_
  refine z_geti (c := p1) (kI := 1) d_Pg_copyFrom_10 fd_Pg_steps fl_Pg_29 (Or.inl rfl) rfl rfl (ks_Pg_0 hp1) (kl_Pg_0 hp1) ?_
  refine z_puti (c := o) (kI := 1) d_Pg_copyFrom_13 fd_Pg_steps fl_Pg_29 pf_Pg_steps rfl rfl rfl rfl (ks_Pg_0 ho) (kl_Pg_0 ho) ?_
  refine z_aload_n (i := 0) (c := o) 0 d_Pg_copyFrom_16 rfl rfl rfl ?_
  refine z_aload_n (i := 1) (c := p1) 1 d_Pg_copyFrom_17 rfl rfl rfl ?_
  refine z_geti (c := p1) (kI := 2) d_Pg_copyFrom_18 fd_Pg_lines fl_Pg_33 (Or.inl rfl) rfl rfl (ks_Pg_0 hp1) (kl_Pg_0 hp1) ?_
  refine z_puti (c := o) (kI := 2) d_Pg_copyFrom_21 fd_Pg_lines fl_Pg_33 pf_Pg_lines rfl rfl rfl rfl (ks_Pg_0 ho) (kl_Pg_0 ho) ?_
  refine z_aload_n (i := 1) (c := p1) 1 d_Pg_copyFrom_24 rfl rfl rfl ?_
  refine z_getr (c := p1) (kI := 3) (r2 := ((p1 + 1 : Nat) : Int)) d_Pg_copyFrom_25 fd_Pg_kinds fl_Pg_9 rfl rfl rfl (ks_Pg_0 hp1) (kl_Pg_0 hp1) (kr_Pg_0_3 hp1) ?_
  refine z_iconst (n := 0) d_Pg_copyFrom_28 (by decide) ?_
  refine z_aload_n (i := 0) (c := o) 0 d_Pg_copyFrom_29 rfl rfl rfl ?_
  refine z_getr (c := o) (kI := 3) (r2 := ((o + 1 : Nat) : Int)) d_Pg_copyFrom_30 fd_Pg_kinds fl_Pg_9 rfl rfl rfl (ks_Pg_0 ho) (kl_Pg_0 ho) (kr_Pg_0_3 ho) ?_
  refine z_iconst (n := 0) d_Pg_copyFrom_33 (by decide) ?_
  refine z_bipush (n := 60) d_Pg_copyFrom_34 (by decide) (by decide) ?_
  refine z_cpy (t := 0) (c0 := (p1 + 1)) (c1 := (o + 1)) (m0 := 60) (m1 := 60) d_Pg_copyFrom_36 kac_Pg_36 (Or.inl ⟨rfl, rfl⟩) rfl rfl rfl (ks_Pg_1 hp1) (ks_Pg_1 ho) (kl_Pg_1 hp1) (kl_Pg_1 ho) rfl rfl (by decide) kas kan kai (by decide) (Nat.le_of_ble_eq_true rfl) (by decide) ?_
  refine z_aload_n (i := 1) (c := p1) 1 d_Pg_copyFrom_39 rfl rfl rfl ?_
  refine z_getr (c := p1) (kI := 4) (r2 := ((p1 + 2 : Nat) : Int)) d_Pg_copyFrom_40 fd_Pg_tests fl_Pg_13 rfl rfl rfl (ks_Pg_0 hp1) (kl_Pg_0 hp1) (kr_Pg_0_4 hp1) ?_
  refine z_iconst (n := 0) d_Pg_copyFrom_43 (by decide) ?_
  refine z_aload_n (i := 0) (c := o) 0 d_Pg_copyFrom_44 rfl rfl rfl ?_
  refine z_getr (c := o) (kI := 4) (r2 := ((o + 2 : Nat) : Int)) d_Pg_copyFrom_45 fd_Pg_tests fl_Pg_13 rfl rfl rfl (ks_Pg_0 ho) (kl_Pg_0 ho) (kr_Pg_0_4 ho) ?_
  refine z_iconst (n := 0) d_Pg_copyFrom_48 (by decide) ?_
  refine z_bipush (n := 60) d_Pg_copyFrom_49 (by decide) (by decide) ?_
  refine z_cpy (t := 0) (c0 := (p1 + 2)) (c1 := (o + 2)) (m0 := 60) (m1 := 60) d_Pg_copyFrom_51 kac_Pg_36 (Or.inl ⟨rfl, rfl⟩) rfl rfl rfl (ks_Pg_2 hp1) (ks_Pg_2 ho) (kl_Pg_2 hp1) (kl_Pg_2 ho) rfl rfl (by decide) kas kan kai (by decide) (Nat.le_of_ble_eq_true rfl) (by decide) ?_
  refine z_aload_n (i := 1) (c := p1) 1 d_Pg_copyFrom_54 rfl rfl rfl ?_
  refine z_getr (c := p1) (kI := 5) (r2 := ((p1 + 3 : Nat) : Int)) d_Pg_copyFrom_55 fd_Pg_firsts fl_Pg_16 rfl rfl rfl (ks_Pg_0 hp1) (kl_Pg_0 hp1) (kr_Pg_0_5 hp1) ?_
  refine z_iconst (n := 0) d_Pg_copyFrom_58 (by decide) ?_
  refine z_aload_n (i := 0) (c := o) 0 d_Pg_copyFrom_59 rfl rfl rfl ?_
  refine z_getr (c := o) (kI := 5) (r2 := ((o + 3 : Nat) : Int)) d_Pg_copyFrom_60 fd_Pg_firsts fl_Pg_16 rfl rfl rfl (ks_Pg_0 ho) (kl_Pg_0 ho) (kr_Pg_0_5 ho) ?_
  refine z_iconst (n := 0) d_Pg_copyFrom_63 (by decide) ?_
  refine z_bipush (n := 60) d_Pg_copyFrom_64 (by decide) (by decide) ?_
  refine z_cpy (t := 0) (c0 := (p1 + 3)) (c1 := (o + 3)) (m0 := 60) (m1 := 60) d_Pg_copyFrom_66 kac_Pg_36 (Or.inl ⟨rfl, rfl⟩) rfl rfl rfl (ks_Pg_3 hp1) (ks_Pg_3 ho) (kl_Pg_3 hp1) (kl_Pg_3 ho) rfl rfl (by decide) kas kan kai (by decide) (Nat.le_of_ble_eq_true rfl) (by decide) ?_
  refine z_aload_n (i := 1) (c := p1) 1 d_Pg_copyFrom_69 rfl rfl rfl ?_
  refine z_getr (c := p1) (kI := 6) (r2 := ((p1 + 4 : Nat) : Int)) d_Pg_copyFrom_70 fd_Pg_seconds fl_Pg_19 rfl rfl rfl (ks_Pg_0 hp1) (kl_Pg_0 hp1) (kr_Pg_0_6 hp1) ?_
  refine z_iconst (n := 0) d_Pg_copyFrom_73 (by decide) ?_
  refine z_aload_n (i := 0) (c := o) 0 d_Pg_copyFrom_74 rfl rfl rfl ?_
  refine z_getr (c := o) (kI := 6) (r2 := ((o + 4 : Nat) : Int)) d_Pg_copyFrom_75 fd_Pg_seconds fl_Pg_19 rfl rfl rfl (ks_Pg_0 ho) (kl_Pg_0 ho) (kr_Pg_0_6 ho) ?_
  refine z_iconst (n := 0) d_Pg_copyFrom_78 (by decide) ?_
  refine z_bipush (n := 60) d_Pg_copyFrom_79 (by decide) (by decide) ?_
  refine z_cpy (t := 0) (c0 := (p1 + 4)) (c1 := (o + 4)) (m0 := 60) (m1 := 60) d_Pg_copyFrom_81 kac_Pg_36 (Or.inl ⟨rfl, rfl⟩) rfl rfl rfl (ks_Pg_4 hp1) (ks_Pg_4 ho) (kl_Pg_4 hp1) (kl_Pg_4 ho) rfl rfl (by decide) kas kan kai (by decide) (Nat.le_of_ble_eq_true rfl) (by decide) ?_
  refine z_aload_n (i := 1) (c := p1) 1 d_Pg_copyFrom_84 rfl rfl rfl ?_
  refine z_getr (c := p1) (kI := 7) (r2 := ((p1 + 5 : Nat) : Int)) d_Pg_copyFrom_85 fd_Pg_mates fl_Pg_22 rfl rfl rfl (ks_Pg_0 hp1) (kl_Pg_0 hp1) (kr_Pg_0_7 hp1) ?_
  refine z_iconst (n := 0) d_Pg_copyFrom_88 (by decide) ?_
  refine z_aload_n (i := 0) (c := o) 0 d_Pg_copyFrom_89 rfl rfl rfl ?_
  refine z_getr (c := o) (kI := 7) (r2 := ((o + 5 : Nat) : Int)) d_Pg_copyFrom_90 fd_Pg_mates fl_Pg_22 rfl rfl rfl (ks_Pg_0 ho) (kl_Pg_0 ho) (kr_Pg_0_7 ho) ?_
  refine z_iconst (n := 0) d_Pg_copyFrom_93 (by decide) ?_
  refine z_bipush (n := 60) d_Pg_copyFrom_94 (by decide) (by decide) ?_
  refine z_cpy (t := 0) (c0 := (p1 + 5)) (c1 := (o + 5)) (m0 := 60) (m1 := 60) d_Pg_copyFrom_96 kac_Pg_36 (Or.inl ⟨rfl, rfl⟩) rfl rfl rfl (ks_Pg_5 hp1) (ks_Pg_5 ho) (kl_Pg_5 hp1) (kl_Pg_5 ho) rfl rfl (by decide) kas kan kai (by decide) (Nat.le_of_ble_eq_true rfl) (by decide) ?_
  exact z_vret d_Pg_copyFrom_99 rfl (by decide) (by decide) ⟨rfl, rfl, h⟩
theorem d_Pg_wordOf_0 : decode (z_c m_Pg_wordOf) 0 = .ok (.iload_n 0, 1) := by decide +kernel
theorem d_Pg_wordOf_1 : decode (z_c m_Pg_wordOf) 1 = .ok (.tableswitch 92 0 10 #[59, 62, 65, 68, 71, 74, 77, 80, 83, 86, 89], 59) := by decide +kernel
theorem d_Pg_wordOf_60 : decode (z_c m_Pg_wordOf) 60 = .ok (.ldc 42, 2) := by decide +kernel
theorem d_Pg_wordOf_62 : decode (z_c m_Pg_wordOf) 62 = .ok (.areturn, 1) := by decide +kernel
theorem d_Pg_wordOf_63 : decode (z_c m_Pg_wordOf) 63 = .ok (.ldc 44, 2) := by decide +kernel
theorem d_Pg_wordOf_65 : decode (z_c m_Pg_wordOf) 65 = .ok (.areturn, 1) := by decide +kernel
theorem d_Pg_wordOf_66 : decode (z_c m_Pg_wordOf) 66 = .ok (.ldc 46, 2) := by decide +kernel
theorem d_Pg_wordOf_68 : decode (z_c m_Pg_wordOf) 68 = .ok (.areturn, 1) := by decide +kernel
theorem d_Pg_wordOf_69 : decode (z_c m_Pg_wordOf) 69 = .ok (.ldc 48, 2) := by decide +kernel
theorem d_Pg_wordOf_71 : decode (z_c m_Pg_wordOf) 71 = .ok (.areturn, 1) := by decide +kernel
theorem d_Pg_wordOf_72 : decode (z_c m_Pg_wordOf) 72 = .ok (.ldc 50, 2) := by decide +kernel
theorem d_Pg_wordOf_74 : decode (z_c m_Pg_wordOf) 74 = .ok (.areturn, 1) := by decide +kernel
theorem d_Pg_wordOf_75 : decode (z_c m_Pg_wordOf) 75 = .ok (.ldc 52, 2) := by decide +kernel
theorem d_Pg_wordOf_77 : decode (z_c m_Pg_wordOf) 77 = .ok (.areturn, 1) := by decide +kernel
theorem d_Pg_wordOf_78 : decode (z_c m_Pg_wordOf) 78 = .ok (.ldc 54, 2) := by decide +kernel
theorem d_Pg_wordOf_80 : decode (z_c m_Pg_wordOf) 80 = .ok (.areturn, 1) := by decide +kernel
theorem d_Pg_wordOf_81 : decode (z_c m_Pg_wordOf) 81 = .ok (.ldc 56, 2) := by decide +kernel
theorem d_Pg_wordOf_83 : decode (z_c m_Pg_wordOf) 83 = .ok (.areturn, 1) := by decide +kernel
theorem d_Pg_wordOf_84 : decode (z_c m_Pg_wordOf) 84 = .ok (.ldc 58, 2) := by decide +kernel
theorem d_Pg_wordOf_86 : decode (z_c m_Pg_wordOf) 86 = .ok (.areturn, 1) := by decide +kernel
theorem d_Pg_wordOf_87 : decode (z_c m_Pg_wordOf) 87 = .ok (.ldc 60, 2) := by decide +kernel
theorem d_Pg_wordOf_89 : decode (z_c m_Pg_wordOf) 89 = .ok (.areturn, 1) := by decide +kernel
theorem d_Pg_wordOf_90 : decode (z_c m_Pg_wordOf) 90 = .ok (.ldc 62, 2) := by decide +kernel
theorem d_Pg_wordOf_92 : decode (z_c m_Pg_wordOf) 92 = .ok (.areturn, 1) := by decide +kernel
theorem d_Pg_wordOf_93 : decode (z_c m_Pg_wordOf) 93 = .ok (.ldc 64, 2) := by decide +kernel
theorem d_Pg_wordOf_95 : decode (z_c m_Pg_wordOf) 95 = .ok (.areturn, 1) := by decide +kernel
set_option maxRecDepth 8000 in
theorem b_Pg_wordOf_0 {X : z_X} {N : Nat} {σ g : z_G} {Q : z_P} {a0 : Int} (h : ((a0 = 0) → Q 7 g) ∧ ((a0 = 1) → Q 8 g) ∧ ((a0 = 2) → Q 9 g) ∧ ((a0 = 3) → Q 10 g) ∧ ((a0 = 4) → Q 4 g) ∧ ((a0 = 5) → Q 11 g) ∧ ((a0 = 6) → Q 1 g) ∧ ((a0 = 7) → Q 12 g) ∧ ((a0 = 8) → Q 13 g) ∧ ((a0 = 9) → Q 14 g) ∧ ((a0 = 10) → Q 15 g) ∧ ((¬ (a0 = 0) ∧ ¬ (a0 = 1) ∧ ¬ (a0 = 2) ∧ ¬ (a0 = 3) ∧ ¬ (a0 = 4) ∧ ¬ (a0 = 5) ∧ ¬ (a0 = 6) ∧ ¬ (a0 = 7) ∧ ¬ (a0 = 8) ∧ ¬ (a0 = 9) ∧ ¬ (a0 = 10)) → Q 6 g)) : z_O X 1 m_Pg_wordOf [(0, a0)] N σ g Q := by
  refine z_Oenter mi_Pg_wordOf rfl (fun _ => ?_)
  show z_U X 1 m_Pg_wordOf 0 [(0, (0, a0))] [] N σ g Q
  refine z_iload_n (i := 0) 0 d_Pg_wordOf_0 rfl rfl ?_
  by_cases c2 : a0 = 0
  · have h := h.1 c2
    refine z_ti c2 ?_
    refine z_tab (off := 59) (tgt := 60) d_Pg_wordOf_1 (by decide) (by decide) (by decide) (by decide) ?_
    refine z_ldcs (q := ("FareyRank$Program", 42, 7)) d_Pg_wordOf_60 (List.mem_of_getElem? (i := 7) rfl) rfl rfl rfl ?_
    exact z_sret d_Pg_wordOf_62 rfl (by decide) (by decide) ⟨rfl, rfl, h⟩
  have h := h.2
  by_cases c3 : a0 = 1
  · have h := h.1 c3
    refine z_ti c3 ?_
    refine z_tab (off := 62) (tgt := 63) d_Pg_wordOf_1 (by decide) (by decide) (by decide) (by decide) ?_
    refine z_ldcs (q := ("FareyRank$Program", 44, 8)) d_Pg_wordOf_63 (List.mem_of_getElem? (i := 8) rfl) rfl rfl rfl ?_
    exact z_sret d_Pg_wordOf_65 rfl (by decide) (by decide) ⟨rfl, rfl, h⟩
  have h := h.2
  by_cases c4 : a0 = 2
  · have h := h.1 c4
    refine z_ti c4 ?_
    refine z_tab (off := 65) (tgt := 66) d_Pg_wordOf_1 (by decide) (by decide) (by decide) (by decide) ?_
    refine z_ldcs (q := ("FareyRank$Program", 46, 9)) d_Pg_wordOf_66 (List.mem_of_getElem? (i := 9) rfl) rfl rfl rfl ?_
    exact z_sret d_Pg_wordOf_68 rfl (by decide) (by decide) ⟨rfl, rfl, h⟩
  have h := h.2
  by_cases c5 : a0 = 3
  · have h := h.1 c5
    refine z_ti c5 ?_
    refine z_tab (off := 68) (tgt := 69) d_Pg_wordOf_1 (by decide) (by decide) (by decide) (by decide) ?_
    refine z_ldcs (q := ("FareyRank$Program", 48, 10)) d_Pg_wordOf_69 (List.mem_of_getElem? (i := 10) rfl) rfl rfl rfl ?_
    exact z_sret d_Pg_wordOf_71 rfl (by decide) (by decide) ⟨rfl, rfl, h⟩
  have h := h.2
  by_cases c6 : a0 = 4
  · have h := h.1 c6
    refine z_ti c6 ?_
    refine z_tab (off := 71) (tgt := 72) d_Pg_wordOf_1 (by decide) (by decide) (by decide) (by decide) ?_
    refine z_ldcs (q := ("FareyRank$Program", 50, 4)) d_Pg_wordOf_72 (List.mem_of_getElem? (i := 11) rfl) rfl rfl rfl ?_
    exact z_sret d_Pg_wordOf_74 rfl (by decide) (by decide) ⟨rfl, rfl, h⟩
  have h := h.2
  by_cases c7 : a0 = 5
  · have h := h.1 c7
    refine z_ti c7 ?_
    refine z_tab (off := 74) (tgt := 75) d_Pg_wordOf_1 (by decide) (by decide) (by decide) (by decide) ?_
    refine z_ldcs (q := ("FareyRank$Program", 52, 11)) d_Pg_wordOf_75 (List.mem_of_getElem? (i := 12) rfl) rfl rfl rfl ?_
    exact z_sret d_Pg_wordOf_77 rfl (by decide) (by decide) ⟨rfl, rfl, h⟩
  have h := h.2
  by_cases c8 : a0 = 6
  · have h := h.1 c8
    refine z_ti c8 ?_
    refine z_tab (off := 77) (tgt := 78) d_Pg_wordOf_1 (by decide) (by decide) (by decide) (by decide) ?_
    refine z_ldcs (q := ("FareyRank$Program", 54, 1)) d_Pg_wordOf_78 (List.mem_of_getElem? (i := 13) rfl) rfl rfl rfl ?_
    exact z_sret d_Pg_wordOf_80 rfl (by decide) (by decide) ⟨rfl, rfl, h⟩
  have h := h.2
  by_cases c9 : a0 = 7
  · have h := h.1 c9
    refine z_ti c9 ?_
    refine z_tab (off := 80) (tgt := 81) d_Pg_wordOf_1 (by decide) (by decide) (by decide) (by decide) ?_
    refine z_ldcs (q := ("FareyRank$Program", 56, 12)) d_Pg_wordOf_81 (List.mem_of_getElem? (i := 14) rfl) rfl rfl rfl ?_
    exact z_sret d_Pg_wordOf_83 rfl (by decide) (by decide) ⟨rfl, rfl, h⟩
  have h := h.2
  by_cases c10 : a0 = 8
  · have h := h.1 c10
    refine z_ti c10 ?_
    refine z_tab (off := 83) (tgt := 84) d_Pg_wordOf_1 (by decide) (by decide) (by decide) (by decide) ?_
    refine z_ldcs (q := ("FareyRank$Program", 58, 13)) d_Pg_wordOf_84 (List.mem_of_getElem? (i := 15) rfl) rfl rfl rfl ?_
    exact z_sret d_Pg_wordOf_86 rfl (by decide) (by decide) ⟨rfl, rfl, h⟩
  have h := h.2
  by_cases c11 : a0 = 9
  · have h := h.1 c11
    refine z_ti c11 ?_
    refine z_tab (off := 86) (tgt := 87) d_Pg_wordOf_1 (by decide) (by decide) (by decide) (by decide) ?_
    refine z_ldcs (q := ("FareyRank$Program", 60, 14)) d_Pg_wordOf_87 (List.mem_of_getElem? (i := 16) rfl) rfl rfl rfl ?_
    exact z_sret d_Pg_wordOf_89 rfl (by decide) (by decide) ⟨rfl, rfl, h⟩
  have h := h.2
  by_cases c12 : a0 = 10
  · have h := h.1 c12
    refine z_ti c12 ?_
    refine z_tab (off := 89) (tgt := 90) d_Pg_wordOf_1 (by decide) (by decide) (by decide) (by decide) ?_
    refine z_ldcs (q := ("FareyRank$Program", 62, 15)) d_Pg_wordOf_90 (List.mem_of_getElem? (i := 17) rfl) rfl rfl rfl ?_
    exact z_sret d_Pg_wordOf_92 rfl (by decide) (by decide) ⟨rfl, rfl, h⟩
  have h := h.2
  have h := h ⟨c2, c3, c4, c5, c6, c7, c8, c9, c10, c11, c12⟩
  refine z_tabo (tgt := 93) d_Pg_wordOf_1 ((Int.lt_or_le a0 0).elim Or.inl (fun q => Or.inr (z_st (z_st (z_st (z_st (z_st (z_st (z_st (z_st (z_st (z_st (z_st q c2) c3) c4) c5) c6) c7) c8) c9) c10) c11) c12))) (by decide) ?_
  refine z_ldcs (q := ("FareyRank$Program", 64, 6)) d_Pg_wordOf_93 (List.mem_of_getElem? (i := 18) rfl) rfl rfl rfl ?_
  exact z_sret d_Pg_wordOf_95 rfl (by decide) (by decide) ⟨rfl, rfl, h⟩
theorem d_Pi_copyFrom_0 : decode (z_c m_Pi_copyFrom) 0 = .ok (.aload_n 1, 1) := by decide +kernel
theorem d_Pi_copyFrom_1 : decode (z_c m_Pi_copyFrom) 1 = .ok (.getfield 9, 3) := by decide +kernel
theorem d_Pi_copyFrom_4 : decode (z_c m_Pi_copyFrom) 4 = .ok (.iconst 0, 1) := by decide +kernel
theorem d_Pi_copyFrom_5 : decode (z_c m_Pi_copyFrom) 5 = .ok (.aload_n 0, 1) := by decide +kernel
theorem d_Pi_copyFrom_6 : decode (z_c m_Pi_copyFrom) 6 = .ok (.getfield 9, 3) := by decide +kernel
theorem d_Pi_copyFrom_9 : decode (z_c m_Pi_copyFrom) 9 = .ok (.iconst 0, 1) := by decide +kernel
theorem d_Pi_copyFrom_10 : decode (z_c m_Pi_copyFrom) 10 = .ok (.bipush 12, 2) := by decide +kernel
theorem d_Pi_copyFrom_12 : decode (z_c m_Pi_copyFrom) 12 = .ok (.invokestatic 21, 3) := by decide +kernel
theorem d_Pi_copyFrom_15 : decode (z_c m_Pi_copyFrom) 15 = .ok (.aload_n 1, 1) := by decide +kernel
theorem d_Pi_copyFrom_16 : decode (z_c m_Pi_copyFrom) 16 = .ok (.getfield 15, 3) := by decide +kernel
theorem d_Pi_copyFrom_19 : decode (z_c m_Pi_copyFrom) 19 = .ok (.iconst 0, 1) := by decide +kernel
theorem d_Pi_copyFrom_20 : decode (z_c m_Pi_copyFrom) 20 = .ok (.aload_n 0, 1) := by decide +kernel
theorem d_Pi_copyFrom_21 : decode (z_c m_Pi_copyFrom) 21 = .ok (.getfield 15, 3) := by decide +kernel
theorem d_Pi_copyFrom_24 : decode (z_c m_Pi_copyFrom) 24 = .ok (.iconst 0, 1) := by decide +kernel
theorem d_Pi_copyFrom_25 : decode (z_c m_Pi_copyFrom) 25 = .ok (.bipush 12, 2) := by decide +kernel
theorem d_Pi_copyFrom_27 : decode (z_c m_Pi_copyFrom) 27 = .ok (.invokestatic 21, 3) := by decide +kernel
theorem d_Pi_copyFrom_30 : decode (z_c m_Pi_copyFrom) 30 = .ok (.aload_n 1, 1) := by decide +kernel
theorem d_Pi_copyFrom_31 : decode (z_c m_Pi_copyFrom) 31 = .ok (.getfield 18, 3) := by decide +kernel
theorem d_Pi_copyFrom_34 : decode (z_c m_Pi_copyFrom) 34 = .ok (.iconst 0, 1) := by decide +kernel
theorem d_Pi_copyFrom_35 : decode (z_c m_Pi_copyFrom) 35 = .ok (.aload_n 0, 1) := by decide +kernel
theorem d_Pi_copyFrom_36 : decode (z_c m_Pi_copyFrom) 36 = .ok (.getfield 18, 3) := by decide +kernel
theorem d_Pi_copyFrom_39 : decode (z_c m_Pi_copyFrom) 39 = .ok (.iconst 0, 1) := by decide +kernel
theorem d_Pi_copyFrom_40 : decode (z_c m_Pi_copyFrom) 40 = .ok (.bipush 12, 2) := by decide +kernel
theorem d_Pi_copyFrom_42 : decode (z_c m_Pi_copyFrom) 42 = .ok (.invokestatic 21, 3) := by decide +kernel
theorem d_Pi_copyFrom_45 : decode (z_c m_Pi_copyFrom) 45 = .ok (.aload_n 0, 1) := by decide +kernel
theorem d_Pi_copyFrom_46 : decode (z_c m_Pi_copyFrom) 46 = .ok (.aload_n 1, 1) := by decide +kernel
theorem d_Pi_copyFrom_47 : decode (z_c m_Pi_copyFrom) 47 = .ok (.getfield 27, 3) := by decide +kernel
theorem d_Pi_copyFrom_50 : decode (z_c m_Pi_copyFrom) 50 = .ok (.putfield 27, 3) := by decide +kernel
theorem d_Pi_copyFrom_53 : decode (z_c m_Pi_copyFrom) 53 = .ok (.return_, 1) := by decide +kernel
set_option maxRecDepth 8000 in
theorem b_Pi_copyFrom_0 {X : z_X} {N : Nat} {σ g : z_G} {Q : z_P} {o p1 : Nat} (ho : z_lay X N σ o z_SPi z_RPi) (hp1 : z_lay X N σ p1 z_SPi z_RPi) (h : Q 0 (z_up (z_cp (z_cp (z_cp g (p1 + 1) (o + 1) 0 0 12) (p1 + 2) (o + 2) 0 0 12) (p1 + 3) (o + 3) 0 0 12) o 3 ((z_cp (z_cp (z_cp g (p1 + 1) (o + 1) 0 0 12) (p1 + 2) (o + 2) 0 0 12) (p1 + 3) (o + 3) 0 0 12) p1 3))) : z_O X 1 m_Pi_copyFrom [(2, ((o : Nat) : Int)), (2, ((p1 : Nat) : Int))] N σ g Q := by
  refine z_Oenter mi_Pi_copyFrom rfl (fun _ => ?_)
  show z_U X 1 m_Pi_copyFrom 0 [(0, (2, ((o : Nat) : Int))), (1, (2, ((p1 : Nat) : Int)))] [] N σ g Q
  refine z_aload_n (i := 1) (c := p1) 1 d_Pi_copyFrom_0 rfl rfl rfl ?_
  refine z_getr (c := p1) (kI := 0) (r2 := ((p1 + 1 : Nat) : Int)) d_Pi_copyFrom_1 fd_Pi_tops fl_Pi_9 rfl rfl rfl (ks_Pi_0 hp1) (kl_Pi_0 hp1) (kr_Pi_0_0 hp1) ?_
  refine z_iconst (n := 0) d_Pi_copyFrom_4 (by decide) ?_
  refine z_aload_n (i := 0) (c := o) 0 d_Pi_copyFrom_5 rfl rfl rfl ?_
  refine z_getr (c := o) (kI := 0) (r2 := ((o + 1 : Nat) : Int)) d_Pi_copyFrom_6 fd_Pi_tops fl_Pi_9 rfl rfl rfl (ks_Pi_0 ho) (kl_Pi_0 ho) (kr_Pi_0_0 ho) ?_
  refine z_iconst (n := 0) d_Pi_copyFrom_9 (by decide) ?_
  refine z_bipush (n := 12) d_Pi_copyFrom_10 (by decide) (by decide) ?_
  refine z_cpy (t := 0) (c0 := (p1 + 1)) (c1 := (o + 1)) (m0 := 12) (m1 := 12) d_Pi_copyFrom_12 kac_Pi_21 (Or.inl ⟨rfl, rfl⟩) rfl rfl rfl (ks_Pi_1 hp1) (ks_Pi_1 ho) (kl_Pi_1 hp1) (kl_Pi_1 ho) rfl rfl (by decide) kas kan kai (by decide) (Nat.le_of_ble_eq_true rfl) (by decide) ?_
  refine z_aload_n (i := 1) (c := p1) 1 d_Pi_copyFrom_15 rfl rfl rfl ?_
  refine z_getr (c := p1) (kI := 1) (r2 := ((p1 + 2 : Nat) : Int)) d_Pi_copyFrom_16 fd_Pi_bottoms fl_Pi_15 rfl rfl rfl (ks_Pi_0 hp1) (kl_Pi_0 hp1) (kr_Pi_0_1 hp1) ?_
  refine z_iconst (n := 0) d_Pi_copyFrom_19 (by decide) ?_
  refine z_aload_n (i := 0) (c := o) 0 d_Pi_copyFrom_20 rfl rfl rfl ?_
  refine z_getr (c := o) (kI := 1) (r2 := ((o + 2 : Nat) : Int)) d_Pi_copyFrom_21 fd_Pi_bottoms fl_Pi_15 rfl rfl rfl (ks_Pi_0 ho) (kl_Pi_0 ho) (kr_Pi_0_1 ho) ?_
  refine z_iconst (n := 0) d_Pi_copyFrom_24 (by decide) ?_
  refine z_bipush (n := 12) d_Pi_copyFrom_25 (by decide) (by decide) ?_
  refine z_cpy (t := 0) (c0 := (p1 + 2)) (c1 := (o + 2)) (m0 := 12) (m1 := 12) d_Pi_copyFrom_27 kac_Pi_21 (Or.inl ⟨rfl, rfl⟩) rfl rfl rfl (ks_Pi_2 hp1) (ks_Pi_2 ho) (kl_Pi_2 hp1) (kl_Pi_2 ho) rfl rfl (by decide) kas kan kai (by decide) (Nat.le_of_ble_eq_true rfl) (by decide) ?_
  refine z_aload_n (i := 1) (c := p1) 1 d_Pi_copyFrom_30 rfl rfl rfl ?_
  refine z_getr (c := p1) (kI := 2) (r2 := ((p1 + 3 : Nat) : Int)) d_Pi_copyFrom_31 fd_Pi_weights fl_Pi_18 rfl rfl rfl (ks_Pi_0 hp1) (kl_Pi_0 hp1) (kr_Pi_0_2 hp1) ?_
  refine z_iconst (n := 0) d_Pi_copyFrom_34 (by decide) ?_
  refine z_aload_n (i := 0) (c := o) 0 d_Pi_copyFrom_35 rfl rfl rfl ?_
  refine z_getr (c := o) (kI := 2) (r2 := ((o + 3 : Nat) : Int)) d_Pi_copyFrom_36 fd_Pi_weights fl_Pi_18 rfl rfl rfl (ks_Pi_0 ho) (kl_Pi_0 ho) (kr_Pi_0_2 ho) ?_
  refine z_iconst (n := 0) d_Pi_copyFrom_39 (by decide) ?_
  refine z_bipush (n := 12) d_Pi_copyFrom_40 (by decide) (by decide) ?_
  refine z_cpy (t := 0) (c0 := (p1 + 3)) (c1 := (o + 3)) (m0 := 12) (m1 := 12) d_Pi_copyFrom_42 kac_Pi_21 (Or.inl ⟨rfl, rfl⟩) rfl rfl rfl (ks_Pi_3 hp1) (ks_Pi_3 ho) (kl_Pi_3 hp1) (kl_Pi_3 ho) rfl rfl (by decide) kas kan kai (by decide) (Nat.le_of_ble_eq_true rfl) (by decide) ?_
  refine z_aload_n (i := 0) (c := o) 0 d_Pi_copyFrom_45 rfl rfl rfl ?_
  refine z_aload_n (i := 1) (c := p1) 1 d_Pi_copyFrom_46 rfl rfl rfl ?_
  refine z_geti (c := p1) (kI := 3) d_Pi_copyFrom_47 fd_Pi_many fl_Pi_27 (Or.inl rfl) rfl rfl (ks_Pi_0 hp1) (kl_Pi_0 hp1) ?_
  refine z_puti (c := o) (kI := 3) d_Pi_copyFrom_50 fd_Pi_many fl_Pi_27 pf_Pi_many rfl rfl rfl rfl (ks_Pi_0 ho) (kl_Pi_0 ho) ?_
  exact z_vret d_Pi_copyFrom_53 rfl (by decide) (by decide) ⟨rfl, rfl, h⟩
theorem d_Pi_drop_0 : decode (z_c m_Pi_drop) 0 = .ok (.iload_n 1, 1) := by decide +kernel
theorem d_Pi_drop_1 : decode (z_c m_Pi_drop) 1 = .ok (.ifCond .lt 11, 3) := by decide +kernel
theorem d_Pi_drop_4 : decode (z_c m_Pi_drop) 4 = .ok (.iload_n 1, 1) := by decide +kernel
theorem d_Pi_drop_5 : decode (z_c m_Pi_drop) 5 = .ok (.aload_n 0, 1) := by decide +kernel
theorem d_Pi_drop_6 : decode (z_c m_Pi_drop) 6 = .ok (.getfield 27, 3) := by decide +kernel
theorem d_Pi_drop_9 : decode (z_c m_Pi_drop) 9 = .ok (.if_icmp .lt 5, 3) := by decide +kernel
theorem d_Pi_drop_12 : decode (z_c m_Pi_drop) 12 = .ok (.iconst 0, 1) := by decide +kernel
theorem d_Pi_drop_13 : decode (z_c m_Pi_drop) 13 = .ok (.ireturn, 1) := by decide +kernel
theorem d_Pi_drop_14 : decode (z_c m_Pi_drop) 14 = .ok (.aload_n 0, 1) := by decide +kernel
theorem d_Pi_drop_15 : decode (z_c m_Pi_drop) 15 = .ok (.getfield 18, 3) := by decide +kernel
theorem d_Pi_drop_18 : decode (z_c m_Pi_drop) 18 = .ok (.iload_n 1, 1) := by decide +kernel
theorem d_Pi_drop_19 : decode (z_c m_Pi_drop) 19 = .ok (.iaload, 1) := by decide +kernel
theorem d_Pi_drop_20 : decode (z_c m_Pi_drop) 20 = .ok (.istore_n 2, 1) := by decide +kernel
theorem d_Pi_drop_21 : decode (z_c m_Pi_drop) 21 = .ok (.iload_n 1, 1) := by decide +kernel
theorem d_Pi_drop_22 : decode (z_c m_Pi_drop) 22 = .ok (.istore_n 3, 1) := by decide +kernel
theorem d_Pi_drop_23 : decode (z_c m_Pi_drop) 23 = .ok (.iload_n 3, 1) := by decide +kernel
theorem d_Pi_drop_24 : decode (z_c m_Pi_drop) 24 = .ok (.iconst 1, 1) := by decide +kernel
theorem d_Pi_drop_25 : decode (z_c m_Pi_drop) 25 = .ok (.iadd, 1) := by decide +kernel
theorem d_Pi_drop_26 : decode (z_c m_Pi_drop) 26 = .ok (.aload_n 0, 1) := by decide +kernel
theorem d_Pi_drop_27 : decode (z_c m_Pi_drop) 27 = .ok (.getfield 27, 3) := by decide +kernel
theorem d_Pi_drop_30 : decode (z_c m_Pi_drop) 30 = .ok (.if_icmp .ge 51, 3) := by decide +kernel
theorem d_Pi_drop_33 : decode (z_c m_Pi_drop) 33 = .ok (.aload_n 0, 1) := by decide +kernel
theorem d_Pi_drop_34 : decode (z_c m_Pi_drop) 34 = .ok (.getfield 9, 3) := by decide +kernel
theorem d_Pi_drop_37 : decode (z_c m_Pi_drop) 37 = .ok (.iload_n 3, 1) := by decide +kernel
theorem d_Pi_drop_38 : decode (z_c m_Pi_drop) 38 = .ok (.aload_n 0, 1) := by decide +kernel
theorem d_Pi_drop_39 : decode (z_c m_Pi_drop) 39 = .ok (.getfield 9, 3) := by decide +kernel
theorem d_Pi_drop_42 : decode (z_c m_Pi_drop) 42 = .ok (.iload_n 3, 1) := by decide +kernel
theorem d_Pi_drop_43 : decode (z_c m_Pi_drop) 43 = .ok (.iconst 1, 1) := by decide +kernel
theorem d_Pi_drop_44 : decode (z_c m_Pi_drop) 44 = .ok (.iadd, 1) := by decide +kernel
theorem d_Pi_drop_45 : decode (z_c m_Pi_drop) 45 = .ok (.iaload, 1) := by decide +kernel
theorem d_Pi_drop_46 : decode (z_c m_Pi_drop) 46 = .ok (.iastore, 1) := by decide +kernel
theorem d_Pi_drop_47 : decode (z_c m_Pi_drop) 47 = .ok (.aload_n 0, 1) := by decide +kernel
theorem d_Pi_drop_48 : decode (z_c m_Pi_drop) 48 = .ok (.getfield 15, 3) := by decide +kernel
theorem d_Pi_drop_51 : decode (z_c m_Pi_drop) 51 = .ok (.iload_n 3, 1) := by decide +kernel
theorem d_Pi_drop_52 : decode (z_c m_Pi_drop) 52 = .ok (.aload_n 0, 1) := by decide +kernel
theorem d_Pi_drop_53 : decode (z_c m_Pi_drop) 53 = .ok (.getfield 15, 3) := by decide +kernel
theorem d_Pi_drop_56 : decode (z_c m_Pi_drop) 56 = .ok (.iload_n 3, 1) := by decide +kernel
theorem d_Pi_drop_57 : decode (z_c m_Pi_drop) 57 = .ok (.iconst 1, 1) := by decide +kernel
theorem d_Pi_drop_58 : decode (z_c m_Pi_drop) 58 = .ok (.iadd, 1) := by decide +kernel
theorem d_Pi_drop_59 : decode (z_c m_Pi_drop) 59 = .ok (.iaload, 1) := by decide +kernel
theorem d_Pi_drop_60 : decode (z_c m_Pi_drop) 60 = .ok (.iastore, 1) := by decide +kernel
theorem d_Pi_drop_61 : decode (z_c m_Pi_drop) 61 = .ok (.aload_n 0, 1) := by decide +kernel
theorem d_Pi_drop_62 : decode (z_c m_Pi_drop) 62 = .ok (.getfield 18, 3) := by decide +kernel
theorem d_Pi_drop_65 : decode (z_c m_Pi_drop) 65 = .ok (.iload_n 3, 1) := by decide +kernel
theorem d_Pi_drop_66 : decode (z_c m_Pi_drop) 66 = .ok (.aload_n 0, 1) := by decide +kernel
theorem d_Pi_drop_67 : decode (z_c m_Pi_drop) 67 = .ok (.getfield 18, 3) := by decide +kernel
theorem d_Pi_drop_70 : decode (z_c m_Pi_drop) 70 = .ok (.iload_n 3, 1) := by decide +kernel
theorem d_Pi_drop_71 : decode (z_c m_Pi_drop) 71 = .ok (.iconst 1, 1) := by decide +kernel
theorem d_Pi_drop_72 : decode (z_c m_Pi_drop) 72 = .ok (.iadd, 1) := by decide +kernel
theorem d_Pi_drop_73 : decode (z_c m_Pi_drop) 73 = .ok (.iaload, 1) := by decide +kernel
theorem d_Pi_drop_74 : decode (z_c m_Pi_drop) 74 = .ok (.iastore, 1) := by decide +kernel
theorem d_Pi_drop_75 : decode (z_c m_Pi_drop) 75 = .ok (.iinc 3 1, 3) := by decide +kernel
theorem d_Pi_drop_78 : decode (z_c m_Pi_drop) 78 = .ok (.goto (-55), 3) := by decide +kernel
theorem d_Pi_drop_81 : decode (z_c m_Pi_drop) 81 = .ok (.aload_n 0, 1) := by decide +kernel
theorem d_Pi_drop_82 : decode (z_c m_Pi_drop) 82 = .ok (.dup, 1) := by decide +kernel
theorem d_Pi_drop_83 : decode (z_c m_Pi_drop) 83 = .ok (.getfield 27, 3) := by decide +kernel
theorem d_Pi_drop_86 : decode (z_c m_Pi_drop) 86 = .ok (.iconst 1, 1) := by decide +kernel
theorem d_Pi_drop_87 : decode (z_c m_Pi_drop) 87 = .ok (.isub, 1) := by decide +kernel
theorem d_Pi_drop_88 : decode (z_c m_Pi_drop) 88 = .ok (.putfield 27, 3) := by decide +kernel
theorem d_Pi_drop_91 : decode (z_c m_Pi_drop) 91 = .ok (.iload_n 2, 1) := by decide +kernel
theorem d_Pi_drop_92 : decode (z_c m_Pi_drop) 92 = .ok (.ireturn, 1) := by decide +kernel
abbrev L_Pi_drop_23 (X : z_X) (N : Nat) (σ : z_G) (x2 x3 : Int) (o : Nat) (g : z_G) (Q : z_P) : Prop := z_U X 1 m_Pi_drop 23 [(0, (2, ((o : Nat) : Int))), (2, (0, x2)), (3, (0, x3))] [] N σ g Q
set_option maxRecDepth 8000 in
theorem b_Pi_drop_0 {X : z_X} {N : Nat} {σ g : z_G} {Q : z_P} {a1 : Int} {o : Nat} (ho : z_lay X N σ o z_SPi z_RPi) (h : ((a1 < 0) → Q 0 g) ∧ (¬ (a1 < 0) → (((a1 < (g o 3)) → ((0 ≤ a1 ∧ a1 < 12) ∧ L_Pi_drop_23 X N σ (g (o + 3) a1) a1 o g Q)) ∧ (¬ (a1 < (g o 3)) → Q 0 g)))) : z_O X 1 m_Pi_drop [(2, ((o : Nat) : Int)), (0, a1)] N σ g Q := by
  refine z_Oenter mi_Pi_drop rfl (fun _ => ?_)
  show z_U X 1 m_Pi_drop 0 [(0, (2, ((o : Nat) : Int))), (1, (0, a1))] [] N σ g Q
  refine z_iload_n (i := 1) 1 d_Pi_drop_0 rfl rfl ?_
  refine z_if_lt (tgt := 12) d_Pi_drop_1 (by decide) (fun c1 => ?_) (fun c1 => ?_)
  · have h := h.1 c1
    refine z_iconst (n := 0) d_Pi_drop_12 (by decide) ?_
    exact z_iret d_Pi_drop_13 rfl (by decide) (by decide) ⟨rfl, rfl, h⟩
  · have h := h.2 c1
    refine z_iload_n (i := 1) 1 d_Pi_drop_4 rfl rfl ?_
    refine z_aload_n (i := 0) (c := o) 0 d_Pi_drop_5 rfl rfl rfl ?_
    refine z_geti (c := o) (kI := 3) d_Pi_drop_6 fd_Pi_many fl_Pi_27 (Or.inl rfl) rfl rfl (ks_Pi_0 ho) (kl_Pi_0 ho) ?_
    refine z_icmp_lt (tgt := 14) d_Pi_drop_9 (by decide) (fun c2 => ?_) (fun c2 => ?_)
    · have h := h.1 c2
      refine z_aload_n (i := 0) (c := o) 0 d_Pi_drop_14 rfl rfl rfl ?_
      refine z_getr (c := o) (kI := 2) (r2 := ((o + 3 : Nat) : Int)) d_Pi_drop_15 fd_Pi_weights fl_Pi_18 rfl rfl rfl (ks_Pi_0 ho) (kl_Pi_0 ho) (kr_Pi_0_2 ho) ?_
      refine z_iload_n (i := 1) 1 d_Pi_drop_18 rfl rfl ?_
      obtain ⟨c3, h⟩ := h
      refine z_iald (c := (o + 3)) (m := 12) d_Pi_drop_19 rfl (ks_Pi_3 ho) (kl_Pi_3 ho) rfl (by decide) c3 ?_
      refine z_istore_n (i := 2) (ls' := [(2, (0, g (o + 3) a1)), (0, (2, ((o : Nat) : Int))), (1, (0, a1))]) d_Pi_drop_20 rfl rfl rfl ?_
      refine z_iload_n (i := 1) 2 d_Pi_drop_21 rfl rfl ?_
      refine z_istore_n (i := 3) (ls' := [(3, (0, a1)), (2, (0, g (o + 3) a1)), (0, (2, ((o : Nat) : Int))), (1, (0, a1))]) d_Pi_drop_22 rfl rfl rfl ?_
      refine z_sub (ls' := [(0, (2, ((o : Nat) : Int))), (2, (0, g (o + 3) a1)), (3, (0, a1))]) [2, 1, 0] rfl ?_
      exact h
    · have h := h.2 c2
      refine z_iconst (n := 0) d_Pi_drop_12 (by decide) ?_
      exact z_iret d_Pi_drop_13 rfl (by decide) (by decide) ⟨rfl, rfl, h⟩
set_option maxRecDepth 8000 in
theorem b_Pi_drop_23 {X : z_X} {N : Nat} {σ g : z_G} {Q : z_P} {x2 x3 : Int} {o : Nat} (ho : z_lay X N σ o z_SPi z_RPi) (h : (-2147483648 ≤ (x3 + 1) ∧ (x3 + 1) ≤ 2147483647) ∧ ((((g o 3) ≤ (x3 + 1)) → ((-2147483648 ≤ ((g o 3) - 1) ∧ ((g o 3) - 1) ≤ 2147483647) ∧ Q x2 (z_up g o 3 ((g o 3) - 1)))) ∧ (¬ ((g o 3) ≤ (x3 + 1)) → ((0 ≤ (x3 + 1) ∧ (x3 + 1) < 12) ∧ ((0 ≤ x3 ∧ x3 < 12) ∧ L_Pi_drop_23 X N σ x2 (x3 + 1) o (z_up (z_up (z_up g (o + 1) x3 (g (o + 1) (x3 + 1))) (o + 2) x3 (g (o + 2) (x3 + 1))) (o + 3) x3 (g (o + 3) (x3 + 1))) Q))))) : L_Pi_drop_23 X N σ x2 x3 o g Q := by
  refine z_iload_n (i := 3) 2 d_Pi_drop_23 rfl rfl ?_
  refine z_iconst (n := 1) d_Pi_drop_24 (by decide) ?_
  obtain ⟨c1, h⟩ := h
  refine z_iadd d_Pi_drop_25 c1 ?_
  refine z_aload_n (i := 0) (c := o) 0 d_Pi_drop_26 rfl rfl rfl ?_
  refine z_geti (c := o) (kI := 3) d_Pi_drop_27 fd_Pi_many fl_Pi_27 (Or.inl rfl) rfl rfl (ks_Pi_0 ho) (kl_Pi_0 ho) ?_
  refine z_icmp_ge (tgt := 81) d_Pi_drop_30 (by decide) (fun c2 => ?_) (fun c2 => ?_)
  · have h := h.1 c2
    refine z_aload_n (i := 0) (c := o) 0 d_Pi_drop_81 rfl rfl rfl ?_
    refine z_dup d_Pi_drop_82 rfl ?_
    refine z_geti (c := o) (kI := 3) d_Pi_drop_83 fd_Pi_many fl_Pi_27 (Or.inl rfl) rfl rfl (ks_Pi_0 ho) (kl_Pi_0 ho) ?_
    refine z_iconst (n := 1) d_Pi_drop_86 (by decide) ?_
    obtain ⟨c3, h⟩ := h
    refine z_isub d_Pi_drop_87 c3 ?_
    refine z_puti (c := o) (kI := 3) d_Pi_drop_88 fd_Pi_many fl_Pi_27 pf_Pi_many rfl rfl rfl rfl (ks_Pi_0 ho) (kl_Pi_0 ho) ?_
    refine z_iload_n (i := 2) 1 d_Pi_drop_91 rfl rfl ?_
    exact z_iret d_Pi_drop_92 rfl (by decide) (by decide) ⟨rfl, rfl, h⟩
  · have h := h.2 c2
    refine z_aload_n (i := 0) (c := o) 0 d_Pi_drop_33 rfl rfl rfl ?_
    refine z_getr (c := o) (kI := 0) (r2 := ((o + 1 : Nat) : Int)) d_Pi_drop_34 fd_Pi_tops fl_Pi_9 rfl rfl rfl (ks_Pi_0 ho) (kl_Pi_0 ho) (kr_Pi_0_0 ho) ?_
    refine z_iload_n (i := 3) 2 d_Pi_drop_37 rfl rfl ?_
    refine z_aload_n (i := 0) (c := o) 0 d_Pi_drop_38 rfl rfl rfl ?_
    refine z_getr (c := o) (kI := 0) (r2 := ((o + 1 : Nat) : Int)) d_Pi_drop_39 fd_Pi_tops fl_Pi_9 rfl rfl rfl (ks_Pi_0 ho) (kl_Pi_0 ho) (kr_Pi_0_0 ho) ?_
    refine z_iload_n (i := 3) 2 d_Pi_drop_42 rfl rfl ?_
    refine z_iconst (n := 1) d_Pi_drop_43 (by decide) ?_
    refine z_iadd d_Pi_drop_44 c1 ?_
    obtain ⟨c4, h⟩ := h
    refine z_iald (c := (o + 1)) (m := 12) d_Pi_drop_45 rfl (ks_Pi_1 ho) (kl_Pi_1 ho) rfl (by decide) c4 ?_
    obtain ⟨c5, h⟩ := h
    refine z_iast (c := (o + 1)) (m := 12) d_Pi_drop_46 rfl (ks_Pi_1 ho) (kl_Pi_1 ho) rfl (by decide) c5 ?_
    refine z_aload_n (i := 0) (c := o) 0 d_Pi_drop_47 rfl rfl rfl ?_
    refine z_getr (c := o) (kI := 1) (r2 := ((o + 2 : Nat) : Int)) d_Pi_drop_48 fd_Pi_bottoms fl_Pi_15 rfl rfl rfl (ks_Pi_0 ho) (kl_Pi_0 ho) (kr_Pi_0_1 ho) ?_
    refine z_iload_n (i := 3) 2 d_Pi_drop_51 rfl rfl ?_
    refine z_aload_n (i := 0) (c := o) 0 d_Pi_drop_52 rfl rfl rfl ?_
    refine z_getr (c := o) (kI := 1) (r2 := ((o + 2 : Nat) : Int)) d_Pi_drop_53 fd_Pi_bottoms fl_Pi_15 rfl rfl rfl (ks_Pi_0 ho) (kl_Pi_0 ho) (kr_Pi_0_1 ho) ?_
    refine z_iload_n (i := 3) 2 d_Pi_drop_56 rfl rfl ?_
    refine z_iconst (n := 1) d_Pi_drop_57 (by decide) ?_
    refine z_iadd d_Pi_drop_58 c1 ?_
    refine z_iald (c := (o + 2)) (m := 12) d_Pi_drop_59 rfl (ks_Pi_2 ho) (kl_Pi_2 ho) rfl (by decide) c4 ?_
    refine z_ti (b := g (o + 2) (x3 + 1)) (by simp [z_up]) ?_
    refine z_iast (c := (o + 2)) (m := 12) d_Pi_drop_60 rfl (ks_Pi_2 ho) (kl_Pi_2 ho) rfl (by decide) c5 ?_
    refine z_aload_n (i := 0) (c := o) 0 d_Pi_drop_61 rfl rfl rfl ?_
    refine z_getr (c := o) (kI := 2) (r2 := ((o + 3 : Nat) : Int)) d_Pi_drop_62 fd_Pi_weights fl_Pi_18 rfl rfl rfl (ks_Pi_0 ho) (kl_Pi_0 ho) (kr_Pi_0_2 ho) ?_
    refine z_iload_n (i := 3) 2 d_Pi_drop_65 rfl rfl ?_
    refine z_aload_n (i := 0) (c := o) 0 d_Pi_drop_66 rfl rfl rfl ?_
    refine z_getr (c := o) (kI := 2) (r2 := ((o + 3 : Nat) : Int)) d_Pi_drop_67 fd_Pi_weights fl_Pi_18 rfl rfl rfl (ks_Pi_0 ho) (kl_Pi_0 ho) (kr_Pi_0_2 ho) ?_
    refine z_iload_n (i := 3) 2 d_Pi_drop_70 rfl rfl ?_
    refine z_iconst (n := 1) d_Pi_drop_71 (by decide) ?_
    refine z_iadd d_Pi_drop_72 c1 ?_
    refine z_iald (c := (o + 3)) (m := 12) d_Pi_drop_73 rfl (ks_Pi_3 ho) (kl_Pi_3 ho) rfl (by decide) c4 ?_
    refine z_ti (b := g (o + 3) (x3 + 1)) (by simp [z_up]) ?_
    refine z_iast (c := (o + 3)) (m := 12) d_Pi_drop_74 rfl (ks_Pi_3 ho) (kl_Pi_3 ho) rfl (by decide) c5 ?_
    refine z_iinc (n := 1) (ls' := [(3, (0, x3 + 1)), (0, (2, ((o : Nat) : Int))), (2, (0, x2))]) 2 d_Pi_drop_75 rfl c1 rfl rfl ?_
    refine z_goto (tgt := 23) d_Pi_drop_78 (by decide) ?_
    refine z_sub (ls' := [(0, (2, ((o : Nat) : Int))), (2, (0, x2)), (3, (0, x3 + 1))]) [1, 2, 0] rfl ?_
    exact h
theorem d_Pi_find_0 : decode (z_c m_Pi_find) 0 = .ok (.iconst 0, 1) := by decide +kernel
theorem d_Pi_find_1 : decode (z_c m_Pi_find) 1 = .ok (.istore_n 3, 1) := by decide +kernel
theorem d_Pi_find_2 : decode (z_c m_Pi_find) 2 = .ok (.iload_n 3, 1) := by decide +kernel
theorem d_Pi_find_3 : decode (z_c m_Pi_find) 3 = .ok (.aload_n 0, 1) := by decide +kernel
theorem d_Pi_find_4 : decode (z_c m_Pi_find) 4 = .ok (.getfield 27, 3) := by decide +kernel
theorem d_Pi_find_7 : decode (z_c m_Pi_find) 7 = .ok (.if_icmp .ge 31, 3) := by decide +kernel
theorem d_Pi_find_10 : decode (z_c m_Pi_find) 10 = .ok (.aload_n 0, 1) := by decide +kernel
theorem d_Pi_find_11 : decode (z_c m_Pi_find) 11 = .ok (.getfield 9, 3) := by decide +kernel
theorem d_Pi_find_14 : decode (z_c m_Pi_find) 14 = .ok (.iload_n 3, 1) := by decide +kernel
theorem d_Pi_find_15 : decode (z_c m_Pi_find) 15 = .ok (.iaload, 1) := by decide +kernel
theorem d_Pi_find_16 : decode (z_c m_Pi_find) 16 = .ok (.iload_n 1, 1) := by decide +kernel
theorem d_Pi_find_17 : decode (z_c m_Pi_find) 17 = .ok (.if_icmp .ne 15, 3) := by decide +kernel
theorem d_Pi_find_20 : decode (z_c m_Pi_find) 20 = .ok (.aload_n 0, 1) := by decide +kernel
theorem d_Pi_find_21 : decode (z_c m_Pi_find) 21 = .ok (.getfield 15, 3) := by decide +kernel
theorem d_Pi_find_24 : decode (z_c m_Pi_find) 24 = .ok (.iload_n 3, 1) := by decide +kernel
theorem d_Pi_find_25 : decode (z_c m_Pi_find) 25 = .ok (.iaload, 1) := by decide +kernel
theorem d_Pi_find_26 : decode (z_c m_Pi_find) 26 = .ok (.iload_n 2, 1) := by decide +kernel
theorem d_Pi_find_27 : decode (z_c m_Pi_find) 27 = .ok (.if_icmp .ne 5, 3) := by decide +kernel
theorem d_Pi_find_30 : decode (z_c m_Pi_find) 30 = .ok (.iload_n 3, 1) := by decide +kernel
theorem d_Pi_find_31 : decode (z_c m_Pi_find) 31 = .ok (.ireturn, 1) := by decide +kernel
theorem d_Pi_find_32 : decode (z_c m_Pi_find) 32 = .ok (.iinc 3 1, 3) := by decide +kernel
theorem d_Pi_find_35 : decode (z_c m_Pi_find) 35 = .ok (.goto (-33), 3) := by decide +kernel
theorem d_Pi_find_38 : decode (z_c m_Pi_find) 38 = .ok (.iconst (-1), 1) := by decide +kernel
theorem d_Pi_find_39 : decode (z_c m_Pi_find) 39 = .ok (.ireturn, 1) := by decide +kernel
abbrev L_Pi_find_2 (X : z_X) (N : Nat) (σ : z_G) (x1 x2 x3 : Int) (o : Nat) (g : z_G) (Q : z_P) : Prop := z_U X 1 m_Pi_find 2 [(0, (2, ((o : Nat) : Int))), (1, (0, x1)), (2, (0, x2)), (3, (0, x3))] [] N σ g Q
set_option maxRecDepth 8000 in
theorem b_Pi_find_0 {X : z_X} {N : Nat} {σ g : z_G} {Q : z_P} {a1 a2 : Int} {o : Nat} (ho : z_lay X N σ o z_SPi z_RPi) (h : L_Pi_find_2 X N σ a1 a2 0 o g Q) : z_O X 1 m_Pi_find [(2, ((o : Nat) : Int)), (0, a1), (0, a2)] N σ g Q := by
  refine z_Oenter mi_Pi_find rfl (fun _ => ?_)
  show z_U X 1 m_Pi_find 0 [(0, (2, ((o : Nat) : Int))), (1, (0, a1)), (2, (0, a2))] [] N σ g Q
  refine z_iconst (n := 0) d_Pi_find_0 (by decide) ?_
  refine z_istore_n (i := 3) (ls' := [(3, (0, 0)), (0, (2, ((o : Nat) : Int))), (1, (0, a1)), (2, (0, a2))]) d_Pi_find_1 rfl rfl rfl ?_
  refine z_sub (ls' := [(0, (2, ((o : Nat) : Int))), (1, (0, a1)), (2, (0, a2)), (3, (0, 0))]) [1, 2, 3, 0] rfl ?_
  exact h
set_option maxRecDepth 8000 in
theorem b_Pi_find_2 {X : z_X} {N : Nat} {σ g : z_G} {Q : z_P} {x1 x2 x3 : Int} {o : Nat} (ho : z_lay X N σ o z_SPi z_RPi) (h : (((g o 3) ≤ x3) → Q (-1) g) ∧ (¬ ((g o 3) ≤ x3) → ((0 ≤ x3 ∧ x3 < 12) ∧ ((((g (o + 1) x3) = x1) → ((((g (o + 2) x3) = x2) → Q x3 g) ∧ (¬ ((g (o + 2) x3) = x2) → ((-2147483648 ≤ (x3 + 1) ∧ (x3 + 1) ≤ 2147483647) ∧ L_Pi_find_2 X N σ x1 x2 (x3 + 1) o g Q)))) ∧ (¬ ((g (o + 1) x3) = x1) → ((-2147483648 ≤ (x3 + 1) ∧ (x3 + 1) ≤ 2147483647) ∧ L_Pi_find_2 X N σ x1 x2 (x3 + 1) o g Q)))))) : L_Pi_find_2 X N σ x1 x2 x3 o g Q := by
  refine z_iload_n (i := 3) 3 d_Pi_find_2 rfl rfl ?_
  refine z_aload_n (i := 0) (c := o) 0 d_Pi_find_3 rfl rfl rfl ?_
  refine z_geti (c := o) (kI := 3) d_Pi_find_4 fd_Pi_many fl_Pi_27 (Or.inl rfl) rfl rfl (ks_Pi_0 ho) (kl_Pi_0 ho) ?_
  refine z_icmp_ge (tgt := 38) d_Pi_find_7 (by decide) (fun c1 => ?_) (fun c1 => ?_)
  · have h := h.1 c1
    refine z_iconst (n := (-1)) d_Pi_find_38 (by decide) ?_
    exact z_iret d_Pi_find_39 rfl (by decide) (by decide) ⟨rfl, rfl, h⟩
  · have h := h.2 c1
    refine z_aload_n (i := 0) (c := o) 0 d_Pi_find_10 rfl rfl rfl ?_
    refine z_getr (c := o) (kI := 0) (r2 := ((o + 1 : Nat) : Int)) d_Pi_find_11 fd_Pi_tops fl_Pi_9 rfl rfl rfl (ks_Pi_0 ho) (kl_Pi_0 ho) (kr_Pi_0_0 ho) ?_
    refine z_iload_n (i := 3) 3 d_Pi_find_14 rfl rfl ?_
    obtain ⟨c2, h⟩ := h
    refine z_iald (c := (o + 1)) (m := 12) d_Pi_find_15 rfl (ks_Pi_1 ho) (kl_Pi_1 ho) rfl (by decide) c2 ?_
    refine z_iload_n (i := 1) 1 d_Pi_find_16 rfl rfl ?_
    refine z_icmp_ne (tgt := 32) d_Pi_find_17 (by decide) (fun c3 => ?_) (fun c3 => ?_)
    · have h := h.2 c3
      obtain ⟨c4, h⟩ := h
      refine z_iinc (n := 1) (ls' := [(3, (0, x3 + 1)), (0, (2, ((o : Nat) : Int))), (1, (0, x1)), (2, (0, x2))]) 3 d_Pi_find_32 rfl c4 rfl rfl ?_
      refine z_goto (tgt := 2) d_Pi_find_35 (by decide) ?_
      refine z_sub (ls' := [(0, (2, ((o : Nat) : Int))), (1, (0, x1)), (2, (0, x2)), (3, (0, x3 + 1))]) [1, 2, 3, 0] rfl ?_
      exact h
    · have h := h.1 c3
      refine z_aload_n (i := 0) (c := o) 0 d_Pi_find_20 rfl rfl rfl ?_
      refine z_getr (c := o) (kI := 1) (r2 := ((o + 2 : Nat) : Int)) d_Pi_find_21 fd_Pi_bottoms fl_Pi_15 rfl rfl rfl (ks_Pi_0 ho) (kl_Pi_0 ho) (kr_Pi_0_1 ho) ?_
      refine z_iload_n (i := 3) 3 d_Pi_find_24 rfl rfl ?_
      refine z_iald (c := (o + 2)) (m := 12) d_Pi_find_25 rfl (ks_Pi_2 ho) (kl_Pi_2 ho) rfl (by decide) c2 ?_
      refine z_iload_n (i := 2) 2 d_Pi_find_26 rfl rfl ?_
      refine z_icmp_ne (tgt := 32) d_Pi_find_27 (by decide) (fun c5 => ?_) (fun c5 => ?_)
      · have h := h.2 c5
        obtain ⟨c6, h⟩ := h
        refine z_iinc (n := 1) (ls' := [(3, (0, x3 + 1)), (0, (2, ((o : Nat) : Int))), (1, (0, x1)), (2, (0, x2))]) 3 d_Pi_find_32 rfl c6 rfl rfl ?_
        refine z_goto (tgt := 2) d_Pi_find_35 (by decide) ?_
        refine z_sub (ls' := [(0, (2, ((o : Nat) : Int))), (1, (0, x1)), (2, (0, x2)), (3, (0, x3 + 1))]) [1, 2, 3, 0] rfl ?_
        exact h
      · have h := h.1 c5
        refine z_iload_n (i := 3) 3 d_Pi_find_30 rfl rfl ?_
        exact z_iret d_Pi_find_31 rfl (by decide) (by decide) ⟨rfl, rfl, h⟩
theorem d_Pi_manyOfOrder_0 : decode (z_c m_Pi_manyOfOrder) 0 = .ok (.iconst 0, 1) := by decide +kernel
theorem d_Pi_manyOfOrder_1 : decode (z_c m_Pi_manyOfOrder) 1 = .ok (.istore_n 2, 1) := by decide +kernel
theorem d_Pi_manyOfOrder_2 : decode (z_c m_Pi_manyOfOrder) 2 = .ok (.iconst 0, 1) := by decide +kernel
theorem d_Pi_manyOfOrder_3 : decode (z_c m_Pi_manyOfOrder) 3 = .ok (.istore_n 3, 1) := by decide +kernel
theorem d_Pi_manyOfOrder_4 : decode (z_c m_Pi_manyOfOrder) 4 = .ok (.iload_n 3, 1) := by decide +kernel
theorem d_Pi_manyOfOrder_5 : decode (z_c m_Pi_manyOfOrder) 5 = .ok (.aload_n 0, 1) := by decide +kernel
theorem d_Pi_manyOfOrder_6 : decode (z_c m_Pi_manyOfOrder) 6 = .ok (.getfield 27, 3) := by decide +kernel
theorem d_Pi_manyOfOrder_9 : decode (z_c m_Pi_manyOfOrder) 9 = .ok (.if_icmp .ge 22, 3) := by decide +kernel
theorem d_Pi_manyOfOrder_12 : decode (z_c m_Pi_manyOfOrder) 12 = .ok (.aload_n 0, 1) := by decide +kernel
theorem d_Pi_manyOfOrder_13 : decode (z_c m_Pi_manyOfOrder) 13 = .ok (.getfield 15, 3) := by decide +kernel
theorem d_Pi_manyOfOrder_16 : decode (z_c m_Pi_manyOfOrder) 16 = .ok (.iload_n 3, 1) := by decide +kernel
theorem d_Pi_manyOfOrder_17 : decode (z_c m_Pi_manyOfOrder) 17 = .ok (.iaload, 1) := by decide +kernel
theorem d_Pi_manyOfOrder_18 : decode (z_c m_Pi_manyOfOrder) 18 = .ok (.iload_n 1, 1) := by decide +kernel
theorem d_Pi_manyOfOrder_19 : decode (z_c m_Pi_manyOfOrder) 19 = .ok (.if_icmp .gt 6, 3) := by decide +kernel
theorem d_Pi_manyOfOrder_22 : decode (z_c m_Pi_manyOfOrder) 22 = .ok (.iinc 2 1, 3) := by decide +kernel
theorem d_Pi_manyOfOrder_25 : decode (z_c m_Pi_manyOfOrder) 25 = .ok (.iinc 3 1, 3) := by decide +kernel
theorem d_Pi_manyOfOrder_28 : decode (z_c m_Pi_manyOfOrder) 28 = .ok (.goto (-24), 3) := by decide +kernel
theorem d_Pi_manyOfOrder_31 : decode (z_c m_Pi_manyOfOrder) 31 = .ok (.iload_n 2, 1) := by decide +kernel
theorem d_Pi_manyOfOrder_32 : decode (z_c m_Pi_manyOfOrder) 32 = .ok (.ireturn, 1) := by decide +kernel
abbrev L_Pi_manyOfOrder_4 (X : z_X) (N : Nat) (σ : z_G) (x1 x2 x3 : Int) (o : Nat) (g : z_G) (Q : z_P) : Prop := z_U X 1 m_Pi_manyOfOrder 4 [(0, (2, ((o : Nat) : Int))), (1, (0, x1)), (2, (0, x2)), (3, (0, x3))] [] N σ g Q
set_option maxRecDepth 8000 in
theorem b_Pi_manyOfOrder_0 {X : z_X} {N : Nat} {σ g : z_G} {Q : z_P} {a1 : Int} {o : Nat} (ho : z_lay X N σ o z_SPi z_RPi) (h : L_Pi_manyOfOrder_4 X N σ a1 0 0 o g Q) : z_O X 1 m_Pi_manyOfOrder [(2, ((o : Nat) : Int)), (0, a1)] N σ g Q := by
  refine z_Oenter mi_Pi_manyOfOrder rfl (fun _ => ?_)
  show z_U X 1 m_Pi_manyOfOrder 0 [(0, (2, ((o : Nat) : Int))), (1, (0, a1))] [] N σ g Q
  refine z_iconst (n := 0) d_Pi_manyOfOrder_0 (by decide) ?_
  refine z_istore_n (i := 2) (ls' := [(2, (0, 0)), (0, (2, ((o : Nat) : Int))), (1, (0, a1))]) d_Pi_manyOfOrder_1 rfl rfl rfl ?_
  refine z_iconst (n := 0) d_Pi_manyOfOrder_2 (by decide) ?_
  refine z_istore_n (i := 3) (ls' := [(3, (0, 0)), (2, (0, 0)), (0, (2, ((o : Nat) : Int))), (1, (0, a1))]) d_Pi_manyOfOrder_3 rfl rfl rfl ?_
  refine z_sub (ls' := [(0, (2, ((o : Nat) : Int))), (1, (0, a1)), (2, (0, 0)), (3, (0, 0))]) [2, 3, 1, 0] rfl ?_
  exact h
set_option maxRecDepth 8000 in
theorem b_Pi_manyOfOrder_4 {X : z_X} {N : Nat} {σ g : z_G} {Q : z_P} {x1 x2 x3 : Int} {o : Nat} (ho : z_lay X N σ o z_SPi z_RPi) (h : (((g o 3) ≤ x3) → Q x2 g) ∧ (¬ ((g o 3) ≤ x3) → ((0 ≤ x3 ∧ x3 < 12) ∧ (((x1 < (g (o + 2) x3)) → ((-2147483648 ≤ (x3 + 1) ∧ (x3 + 1) ≤ 2147483647) ∧ L_Pi_manyOfOrder_4 X N σ x1 x2 (x3 + 1) o g Q)) ∧ (¬ (x1 < (g (o + 2) x3)) → ((-2147483648 ≤ (x2 + 1) ∧ (x2 + 1) ≤ 2147483647) ∧ ((-2147483648 ≤ (x3 + 1) ∧ (x3 + 1) ≤ 2147483647) ∧ L_Pi_manyOfOrder_4 X N σ x1 (x2 + 1) (x3 + 1) o g Q))))))) : L_Pi_manyOfOrder_4 X N σ x1 x2 x3 o g Q := by
  refine z_iload_n (i := 3) 3 d_Pi_manyOfOrder_4 rfl rfl ?_
  refine z_aload_n (i := 0) (c := o) 0 d_Pi_manyOfOrder_5 rfl rfl rfl ?_
  refine z_geti (c := o) (kI := 3) d_Pi_manyOfOrder_6 fd_Pi_many fl_Pi_27 (Or.inl rfl) rfl rfl (ks_Pi_0 ho) (kl_Pi_0 ho) ?_
  refine z_icmp_ge (tgt := 31) d_Pi_manyOfOrder_9 (by decide) (fun c1 => ?_) (fun c1 => ?_)
  · have h := h.1 c1
    refine z_iload_n (i := 2) 2 d_Pi_manyOfOrder_31 rfl rfl ?_
    exact z_iret d_Pi_manyOfOrder_32 rfl (by decide) (by decide) ⟨rfl, rfl, h⟩
  · have h := h.2 c1
    refine z_aload_n (i := 0) (c := o) 0 d_Pi_manyOfOrder_12 rfl rfl rfl ?_
    refine z_getr (c := o) (kI := 1) (r2 := ((o + 2 : Nat) : Int)) d_Pi_manyOfOrder_13 fd_Pi_bottoms fl_Pi_15 rfl rfl rfl (ks_Pi_0 ho) (kl_Pi_0 ho) (kr_Pi_0_1 ho) ?_
    refine z_iload_n (i := 3) 3 d_Pi_manyOfOrder_16 rfl rfl ?_
    obtain ⟨c2, h⟩ := h
    refine z_iald (c := (o + 2)) (m := 12) d_Pi_manyOfOrder_17 rfl (ks_Pi_2 ho) (kl_Pi_2 ho) rfl (by decide) c2 ?_
    refine z_iload_n (i := 1) 1 d_Pi_manyOfOrder_18 rfl rfl ?_
    refine z_icmp_gt (tgt := 25) d_Pi_manyOfOrder_19 (by decide) (fun c3 => ?_) (fun c3 => ?_)
    · have h := h.1 c3
      obtain ⟨c4, h⟩ := h
      refine z_iinc (n := 1) (ls' := [(3, (0, x3 + 1)), (0, (2, ((o : Nat) : Int))), (1, (0, x1)), (2, (0, x2))]) 3 d_Pi_manyOfOrder_25 rfl c4 rfl rfl ?_
      refine z_goto (tgt := 4) d_Pi_manyOfOrder_28 (by decide) ?_
      refine z_sub (ls' := [(0, (2, ((o : Nat) : Int))), (1, (0, x1)), (2, (0, x2)), (3, (0, x3 + 1))]) [1, 2, 3, 0] rfl ?_
      exact h
    · have h := h.2 c3
      obtain ⟨c5, h⟩ := h
      refine z_iinc (n := 1) (ls' := [(2, (0, x2 + 1)), (0, (2, ((o : Nat) : Int))), (1, (0, x1)), (3, (0, x3))]) 2 d_Pi_manyOfOrder_22 rfl c5 rfl rfl ?_
      obtain ⟨c6, h⟩ := h
      refine z_iinc (n := 1) (ls' := [(3, (0, x3 + 1)), (2, (0, x2 + 1)), (0, (2, ((o : Nat) : Int))), (1, (0, x1))]) 3 d_Pi_manyOfOrder_25 rfl c6 rfl rfl ?_
      refine z_goto (tgt := 4) d_Pi_manyOfOrder_28 (by decide) ?_
      refine z_sub (ls' := [(0, (2, ((o : Nat) : Int))), (1, (0, x1)), (2, (0, x2 + 1)), (3, (0, x3 + 1))]) [2, 3, 1, 0] rfl ?_
      exact h
theorem d_Rw_countUnder_0 : decode (z_c m_Rw_countUnder) 0 = .ok (.lload_n 2, 1) := by decide +kernel
theorem d_Rw_countUnder_1 : decode (z_c m_Rw_countUnder) 1 = .ok (.lconst 0, 1) := by decide +kernel
theorem d_Rw_countUnder_2 : decode (z_c m_Rw_countUnder) 2 = .ok (.lcmp, 1) := by decide +kernel
theorem d_Rw_countUnder_3 : decode (z_c m_Rw_countUnder) 3 = .ok (.ifCond .le 10, 3) := by decide +kernel
theorem d_Rw_countUnder_6 : decode (z_c m_Rw_countUnder) 6 = .ok (.lload 4, 2) := by decide +kernel
theorem d_Rw_countUnder_8 : decode (z_c m_Rw_countUnder) 8 = .ok (.lconst 0, 1) := by decide +kernel
theorem d_Rw_countUnder_9 : decode (z_c m_Rw_countUnder) 9 = .ok (.lcmp, 1) := by decide +kernel
theorem d_Rw_countUnder_10 : decode (z_c m_Rw_countUnder) 10 = .ok (.ifCond .gt 5, 3) := by decide +kernel
theorem d_Rw_countUnder_13 : decode (z_c m_Rw_countUnder) 13 = .ok (.iconst 0, 1) := by decide +kernel
theorem d_Rw_countUnder_14 : decode (z_c m_Rw_countUnder) 14 = .ok (.ireturn, 1) := by decide +kernel
theorem d_Rw_countUnder_15 : decode (z_c m_Rw_countUnder) 15 = .ok (.lconst 1, 1) := by decide +kernel
theorem d_Rw_countUnder_16 : decode (z_c m_Rw_countUnder) 16 = .ok (.lstore 6, 2) := by decide +kernel
theorem d_Rw_countUnder_18 : decode (z_c m_Rw_countUnder) 18 = .ok (.iconst 1, 1) := by decide +kernel
theorem d_Rw_countUnder_19 : decode (z_c m_Rw_countUnder) 19 = .ok (.istore 8, 2) := by decide +kernel
theorem d_Rw_countUnder_21 : decode (z_c m_Rw_countUnder) 21 = .ok (.iload 8, 2) := by decide +kernel
theorem d_Rw_countUnder_23 : decode (z_c m_Rw_countUnder) 23 = .ok (.iload_n 1, 1) := by decide +kernel
theorem d_Rw_countUnder_24 : decode (z_c m_Rw_countUnder) 24 = .ok (.if_icmp .gt 58, 3) := by decide +kernel
theorem d_Rw_countUnder_27 : decode (z_c m_Rw_countUnder) 27 = .ok (.iload 8, 2) := by decide +kernel
theorem d_Rw_countUnder_29 : decode (z_c m_Rw_countUnder) 29 = .ok (.sipush 200, 3) := by decide +kernel
theorem d_Rw_countUnder_32 : decode (z_c m_Rw_countUnder) 32 = .ok (.if_icmp .gt 50, 3) := by decide +kernel
theorem d_Rw_countUnder_35 : decode (z_c m_Rw_countUnder) 35 = .ok (.lload_n 2, 1) := by decide +kernel
theorem d_Rw_countUnder_36 : decode (z_c m_Rw_countUnder) 36 = .ok (.iload 8, 2) := by decide +kernel
theorem d_Rw_countUnder_38 : decode (z_c m_Rw_countUnder) 38 = .ok (.i2l, 1) := by decide +kernel
theorem d_Rw_countUnder_39 : decode (z_c m_Rw_countUnder) 39 = .ok (.lmul, 1) := by decide +kernel
theorem d_Rw_countUnder_40 : decode (z_c m_Rw_countUnder) 40 = .ok (.lload 4, 2) := by decide +kernel
theorem d_Rw_countUnder_42 : decode (z_c m_Rw_countUnder) 42 = .ok (.ladd, 1) := by decide +kernel
theorem d_Rw_countUnder_43 : decode (z_c m_Rw_countUnder) 43 = .ok (.lconst 1, 1) := by decide +kernel
theorem d_Rw_countUnder_44 : decode (z_c m_Rw_countUnder) 44 = .ok (.lsub, 1) := by decide +kernel
theorem d_Rw_countUnder_45 : decode (z_c m_Rw_countUnder) 45 = .ok (.lload 4, 2) := by decide +kernel
theorem d_Rw_countUnder_47 : decode (z_c m_Rw_countUnder) 47 = .ok (.ldiv, 1) := by decide +kernel
theorem d_Rw_countUnder_48 : decode (z_c m_Rw_countUnder) 48 = .ok (.lconst 1, 1) := by decide +kernel
theorem d_Rw_countUnder_49 : decode (z_c m_Rw_countUnder) 49 = .ok (.lsub, 1) := by decide +kernel
theorem d_Rw_countUnder_50 : decode (z_c m_Rw_countUnder) 50 = .ok (.lstore 9, 2) := by decide +kernel
theorem d_Rw_countUnder_52 : decode (z_c m_Rw_countUnder) 52 = .ok (.lload 6, 2) := by decide +kernel
theorem d_Rw_countUnder_54 : decode (z_c m_Rw_countUnder) 54 = .ok (.lload 9, 2) := by decide +kernel
theorem d_Rw_countUnder_56 : decode (z_c m_Rw_countUnder) 56 = .ok (.aload_n 0, 1) := by decide +kernel
theorem d_Rw_countUnder_57 : decode (z_c m_Rw_countUnder) 57 = .ok (.getfield 15, 3) := by decide +kernel
theorem d_Rw_countUnder_60 : decode (z_c m_Rw_countUnder) 60 = .ok (.iload_n 1, 1) := by decide +kernel
theorem d_Rw_countUnder_61 : decode (z_c m_Rw_countUnder) 61 = .ok (.iload 8, 2) := by decide +kernel
theorem d_Rw_countUnder_63 : decode (z_c m_Rw_countUnder) 63 = .ok (.idiv, 1) := by decide +kernel
theorem d_Rw_countUnder_64 : decode (z_c m_Rw_countUnder) 64 = .ok (.sipush 200, 3) := by decide +kernel
theorem d_Rw_countUnder_67 : decode (z_c m_Rw_countUnder) 67 = .ok (.invokestatic 22, 3) := by decide +kernel
theorem d_Rw_countUnder_70 : decode (z_c m_Rw_countUnder) 70 = .ok (.iaload, 1) := by decide +kernel
theorem d_Rw_countUnder_71 : decode (z_c m_Rw_countUnder) 71 = .ok (.i2l, 1) := by decide +kernel
theorem d_Rw_countUnder_72 : decode (z_c m_Rw_countUnder) 72 = .ok (.lmul, 1) := by decide +kernel
theorem d_Rw_countUnder_73 : decode (z_c m_Rw_countUnder) 73 = .ok (.ladd, 1) := by decide +kernel
theorem d_Rw_countUnder_74 : decode (z_c m_Rw_countUnder) 74 = .ok (.lstore 6, 2) := by decide +kernel
theorem d_Rw_countUnder_76 : decode (z_c m_Rw_countUnder) 76 = .ok (.iinc 8 1, 3) := by decide +kernel
theorem d_Rw_countUnder_79 : decode (z_c m_Rw_countUnder) 79 = .ok (.goto (-58), 3) := by decide +kernel
theorem d_Rw_countUnder_82 : decode (z_c m_Rw_countUnder) 82 = .ok (.lload 6, 2) := by decide +kernel
theorem d_Rw_countUnder_84 : decode (z_c m_Rw_countUnder) 84 = .ok (.l2i, 1) := by decide +kernel
theorem d_Rw_countUnder_85 : decode (z_c m_Rw_countUnder) 85 = .ok (.ireturn, 1) := by decide +kernel
abbrev L_Rw_countUnder_21 (X : z_X) (N : Nat) (σ : z_G) (x1 x2 x4 x6 x8 : Int) (g : z_G) (Q : z_P) : Prop := z_U X 1 m_Rw_countUnder 21 [(0, (2, 15)), (1, (0, x1)), (2, (1, x2)), (4, (1, x4)), (6, (1, x6)), (8, (0, x8))] [] N σ g Q
set_option maxRecDepth 8000 in
theorem b_Rw_countUnder_0 {X : z_X} {N : Nat} {σ g : z_G} {Q : z_P} {a1 a2 a4 : Int} (hx : z_lay X N σ 0 z_SF z_RF) (h : ((a2 ≤ 0) → Q 0 g) ∧ (¬ (a2 ≤ 0) → (((0 < a4) → L_Rw_countUnder_21 X N σ a1 a2 a4 1 1 g Q) ∧ (¬ (0 < a4) → Q 0 g)))) : z_O X 1 m_Rw_countUnder [(2, 15), (0, a1), (1, a2), (1, a4)] N σ g Q := by
  refine z_Oenter mi_Rw_countUnder rfl (fun _ => ?_)
  show z_U X 1 m_Rw_countUnder 0 [(0, (2, 15)), (1, (0, a1)), (2, (1, a2)), (4, (1, a4))] [] N σ g Q
  refine z_lload_n (i := 2) 2 d_Rw_countUnder_0 rfl rfl ?_
  refine z_lconst (v := 0) d_Rw_countUnder_1 (by decide) (by decide) ?_
  refine z_lcmp_le (tgt := 13) d_Rw_countUnder_2 d_Rw_countUnder_3 (by decide) (fun c1 => ?_) (fun c1 => ?_)
  · have h := h.1 c1
    refine z_iconst (n := 0) d_Rw_countUnder_13 (by decide) ?_
    exact z_iret d_Rw_countUnder_14 rfl (by decide) (by decide) ⟨rfl, rfl, h⟩
  · have h := h.2 c1
    refine z_lload 3 d_Rw_countUnder_6 rfl ?_
    refine z_lconst (v := 0) d_Rw_countUnder_8 (by decide) (by decide) ?_
    refine z_lcmp_gt (tgt := 15) d_Rw_countUnder_9 d_Rw_countUnder_10 (by decide) (fun c2 => ?_) (fun c2 => ?_)
    · have h := h.1 c2
      refine z_lconst (v := 1) d_Rw_countUnder_15 (by decide) (by decide) ?_
      refine z_lstore (ls' := [(6, (1, 1)), (0, (2, 15)), (1, (0, a1)), (2, (1, a2)), (4, (1, a4))]) d_Rw_countUnder_16 rfl rfl ?_
      refine z_iconst (n := 1) d_Rw_countUnder_18 (by decide) ?_
      refine z_istore (ls' := [(8, (0, 1)), (6, (1, 1)), (0, (2, 15)), (1, (0, a1)), (2, (1, a2)), (4, (1, a4))]) d_Rw_countUnder_19 rfl rfl ?_
      refine z_sub (ls' := [(0, (2, 15)), (1, (0, a1)), (2, (1, a2)), (4, (1, a4)), (6, (1, 1)), (8, (0, 1))]) [2, 3, 4, 5, 1, 0] rfl ?_
      exact h
    · have h := h.2 c2
      refine z_iconst (n := 0) d_Rw_countUnder_13 (by decide) ?_
      exact z_iret d_Rw_countUnder_14 rfl (by decide) (by decide) ⟨rfl, rfl, h⟩
set_option maxRecDepth 8000 in
theorem b_Rw_countUnder_21 {X : z_X} {N : Nat} {σ g : z_G} {Q : z_P} {x1 x2 x4 x6 x8 : Int} (hx : z_lay X N σ 0 z_SF z_RF) (h : ((x1 < x8) → ((-2147483648 ≤ x6 ∧ x6 ≤ 2147483647) ∧ Q x6 g)) ∧ (¬ (x1 < x8) → (((200 < x8) → ((-2147483648 ≤ x6 ∧ x6 ≤ 2147483647) ∧ Q x6 g)) ∧ (¬ (200 < x8) → ((-9223372036854775808 ≤ (x2 * x8) ∧ (x2 * x8) ≤ 9223372036854775807) ∧ ((-9223372036854775808 ≤ ((x2 * x8) + x4) ∧ ((x2 * x8) + x4) ≤ 9223372036854775807) ∧ ((-9223372036854775808 ≤ (((x2 * x8) + x4) - 1) ∧ (((x2 * x8) + x4) - 1) ≤ 9223372036854775807) ∧ ((0 < x4) ∧ ((-9223372036854775808 ≤ ((Int.tdiv (((x2 * x8) + x4) - 1) x4) - 1) ∧ ((Int.tdiv (((x2 * x8) + x4) - 1) x4) - 1) ≤ 9223372036854775807) ∧ ((0 < x8) ∧ (((200 < (Int.tdiv x1 x8)) → ((-9223372036854775808 ≤ (((Int.tdiv (((x2 * x8) + x4) - 1) x4) - 1) * (g 17 200)) ∧ (((Int.tdiv (((x2 * x8) + x4) - 1) x4) - 1) * (g 17 200)) ≤ 9223372036854775807) ∧ ((-9223372036854775808 ≤ (x6 + (((Int.tdiv (((x2 * x8) + x4) - 1) x4) - 1) * (g 17 200))) ∧ (x6 + (((Int.tdiv (((x2 * x8) + x4) - 1) x4) - 1) * (g 17 200))) ≤ 9223372036854775807) ∧ ((-2147483648 ≤ (x8 + 1) ∧ (x8 + 1) ≤ 2147483647) ∧ L_Rw_countUnder_21 X N σ x1 x2 x4 (x6 + (((Int.tdiv (((x2 * x8) + x4) - 1) x4) - 1) * (g 17 200))) (x8 + 1) g Q)))) ∧ (¬ (200 < (Int.tdiv x1 x8)) → ((0 ≤ (Int.tdiv x1 x8) ∧ (Int.tdiv x1 x8) < 201) ∧ ((-9223372036854775808 ≤ (((Int.tdiv (((x2 * x8) + x4) - 1) x4) - 1) * (g 17 (Int.tdiv x1 x8))) ∧ (((Int.tdiv (((x2 * x8) + x4) - 1) x4) - 1) * (g 17 (Int.tdiv x1 x8))) ≤ 9223372036854775807) ∧ ((-9223372036854775808 ≤ (x6 + (((Int.tdiv (((x2 * x8) + x4) - 1) x4) - 1) * (g 17 (Int.tdiv x1 x8)))) ∧ (x6 + (((Int.tdiv (((x2 * x8) + x4) - 1) x4) - 1) * (g 17 (Int.tdiv x1 x8)))) ≤ 9223372036854775807) ∧ ((-2147483648 ≤ (x8 + 1) ∧ (x8 + 1) ≤ 2147483647) ∧ L_Rw_countUnder_21 X N σ x1 x2 x4 (x6 + (((Int.tdiv (((x2 * x8) + x4) - 1) x4) - 1) * (g 17 (Int.tdiv x1 x8)))) (x8 + 1) g Q)))))))))))))))) : L_Rw_countUnder_21 X N σ x1 x2 x4 x6 x8 g Q := by
  refine z_iload 5 d_Rw_countUnder_21 rfl ?_
  refine z_iload_n (i := 1) 1 d_Rw_countUnder_23 rfl rfl ?_
  refine z_icmp_gt (tgt := 82) d_Rw_countUnder_24 (by decide) (fun c1 => ?_) (fun c1 => ?_)
  · have h := h.1 c1
    refine z_lload 4 d_Rw_countUnder_82 rfl ?_
    obtain ⟨c2, h⟩ := h
    refine z_l2i' d_Rw_countUnder_84 c2 ?_
    exact z_iret d_Rw_countUnder_85 rfl (by decide) (by decide) ⟨rfl, rfl, h⟩
  · have h := h.2 c1
    refine z_iload 5 d_Rw_countUnder_27 rfl ?_
    refine z_sipush (n := 200) d_Rw_countUnder_29 (by decide) (by decide) ?_
    refine z_icmp_gt (tgt := 82) d_Rw_countUnder_32 (by decide) (fun c3 => ?_) (fun c3 => ?_)
    · have h := h.1 c3
      refine z_lload 4 d_Rw_countUnder_82 rfl ?_
      obtain ⟨c4, h⟩ := h
      refine z_l2i' d_Rw_countUnder_84 c4 ?_
      exact z_iret d_Rw_countUnder_85 rfl (by decide) (by decide) ⟨rfl, rfl, h⟩
    · have h := h.2 c3
      refine z_lload_n (i := 2) 2 d_Rw_countUnder_35 rfl rfl ?_
      refine z_iload 5 d_Rw_countUnder_36 rfl ?_
      refine z_i2l d_Rw_countUnder_38 ?_
      obtain ⟨c5, h⟩ := h
      refine z_lmul d_Rw_countUnder_39 c5 ?_
      refine z_lload 3 d_Rw_countUnder_40 rfl ?_
      obtain ⟨c6, h⟩ := h
      refine z_ladd d_Rw_countUnder_42 c6 ?_
      refine z_lconst (v := 1) d_Rw_countUnder_43 (by decide) (by decide) ?_
      obtain ⟨c7, h⟩ := h
      refine z_lsub d_Rw_countUnder_44 c7 ?_
      refine z_lload 3 d_Rw_countUnder_45 rfl ?_
      obtain ⟨c8, h⟩ := h
      refine z_ldiv d_Rw_countUnder_47 c8 ?_
      refine z_lconst (v := 1) d_Rw_countUnder_48 (by decide) (by decide) ?_
      obtain ⟨c9, h⟩ := h
      refine z_lsub d_Rw_countUnder_49 c9 ?_
      refine z_lstore (ls' := [(9, (1, (Int.tdiv (((x2 * x8) + x4) - 1) x4) - 1)), (0, (2, 15)), (1, (0, x1)), (2, (1, x2)), (4, (1, x4)), (6, (1, x6)), (8, (0, x8))]) d_Rw_countUnder_50 rfl rfl ?_
      refine z_lload 5 d_Rw_countUnder_52 rfl ?_
      refine z_lload 0 d_Rw_countUnder_54 rfl ?_
      refine z_aload_n (i := 0) (c := 15) 1 d_Rw_countUnder_56 rfl rfl rfl ?_
      refine z_getr (c := 15) (kI := 1) (r2 := 17) d_Rw_countUnder_57 fd_Rw_sums fl_Rw_15 rfl rfl rfl (ks_F_15 hx) (kl_F_15 hx) (kr_F_15_1 hx) ?_
      refine z_iload_n (i := 1) 2 d_Rw_countUnder_60 rfl rfl ?_
      refine z_iload 6 d_Rw_countUnder_61 rfl ?_
      obtain ⟨c10, h⟩ := h
      refine z_idiv d_Rw_countUnder_63 c10 ?_
      refine z_sipush (n := 200) d_Rw_countUnder_64 (by decide) (by decide) ?_
      refine z_mmin d_Rw_countUnder_67 kmm_min_Rw_22 kms_min kmi kmc_min (by decide) (Nat.le_of_ble_eq_true rfl) (fun c11 => ?_) (fun c11 => ?_)
      · have h := h.1 c11
        refine z_iald (c := 17) (m := 201) d_Rw_countUnder_70 rfl (ks_F_17 hx) (kl_F_17 hx) rfl (by decide) (by decide) ?_
        refine z_i2l d_Rw_countUnder_71 ?_
        obtain ⟨c12, h⟩ := h
        refine z_lmul d_Rw_countUnder_72 c12 ?_
        obtain ⟨c13, h⟩ := h
        refine z_ladd d_Rw_countUnder_73 c13 ?_
        refine z_lstore (ls' := [(6, (1, x6 + (((Int.tdiv (((x2 * x8) + x4) - 1) x4) - 1) * (g 17 200)))), (9, (1, (Int.tdiv (((x2 * x8) + x4) - 1) x4) - 1)), (0, (2, 15)), (1, (0, x1)), (2, (1, x2)), (4, (1, x4)), (8, (0, x8))]) d_Rw_countUnder_74 rfl rfl ?_
        obtain ⟨c14, h⟩ := h
        refine z_iinc (n := 1) (ls' := [(8, (0, x8 + 1)), (6, (1, x6 + (((Int.tdiv (((x2 * x8) + x4) - 1) x4) - 1) * (g 17 200)))), (9, (1, (Int.tdiv (((x2 * x8) + x4) - 1) x4) - 1)), (0, (2, 15)), (1, (0, x1)), (2, (1, x2)), (4, (1, x4))]) 6 d_Rw_countUnder_76 rfl c14 rfl rfl ?_
        refine z_goto (tgt := 21) d_Rw_countUnder_79 (by decide) ?_
        refine z_sub (ls' := [(0, (2, 15)), (1, (0, x1)), (2, (1, x2)), (4, (1, x4)), (6, (1, x6 + (((Int.tdiv (((x2 * x8) + x4) - 1) x4) - 1) * (g 17 200)))), (8, (0, x8 + 1))]) [3, 4, 5, 6, 1, 0] rfl ?_
        exact h
      · have h := h.2 c11
        obtain ⟨c15, h⟩ := h
        refine z_iald (c := 17) (m := 201) d_Rw_countUnder_70 rfl (ks_F_17 hx) (kl_F_17 hx) rfl (by decide) c15 ?_
        refine z_i2l d_Rw_countUnder_71 ?_
        obtain ⟨c16, h⟩ := h
        refine z_lmul d_Rw_countUnder_72 c16 ?_
        obtain ⟨c17, h⟩ := h
        refine z_ladd d_Rw_countUnder_73 c17 ?_
        refine z_lstore (ls' := [(6, (1, x6 + (((Int.tdiv (((x2 * x8) + x4) - 1) x4) - 1) * (g 17 (Int.tdiv x1 x8))))), (9, (1, (Int.tdiv (((x2 * x8) + x4) - 1) x4) - 1)), (0, (2, 15)), (1, (0, x1)), (2, (1, x2)), (4, (1, x4)), (8, (0, x8))]) d_Rw_countUnder_74 rfl rfl ?_
        obtain ⟨c18, h⟩ := h
        refine z_iinc (n := 1) (ls' := [(8, (0, x8 + 1)), (6, (1, x6 + (((Int.tdiv (((x2 * x8) + x4) - 1) x4) - 1) * (g 17 (Int.tdiv x1 x8))))), (9, (1, (Int.tdiv (((x2 * x8) + x4) - 1) x4) - 1)), (0, (2, 15)), (1, (0, x1)), (2, (1, x2)), (4, (1, x4))]) 6 d_Rw_countUnder_76 rfl c18 rfl rfl ?_
        refine z_goto (tgt := 21) d_Rw_countUnder_79 (by decide) ?_
        refine z_sub (ls' := [(0, (2, 15)), (1, (0, x1)), (2, (1, x2)), (4, (1, x4)), (6, (1, x6 + (((Int.tdiv (((x2 * x8) + x4) - 1) x4) - 1) * (g 17 (Int.tdiv x1 x8))))), (8, (0, x8 + 1))]) [3, 4, 5, 6, 1, 0] rfl ?_
        exact h
theorem d_Rw_pairs_0 : decode (z_c m_Rw_pairs) 0 = .ok (.iconst 0, 1) := by decide +kernel
theorem d_Rw_pairs_1 : decode (z_c m_Rw_pairs) 1 = .ok (.istore_n 3, 1) := by decide +kernel
theorem d_Rw_pairs_2 : decode (z_c m_Rw_pairs) 2 = .ok (.iconst 1, 1) := by decide +kernel
theorem d_Rw_pairs_3 : decode (z_c m_Rw_pairs) 3 = .ok (.istore 4, 2) := by decide +kernel
theorem d_Rw_pairs_5 : decode (z_c m_Rw_pairs) 5 = .ok (.iload 4, 2) := by decide +kernel
theorem d_Rw_pairs_7 : decode (z_c m_Rw_pairs) 7 = .ok (.iload_n 1, 1) := by decide +kernel
theorem d_Rw_pairs_8 : decode (z_c m_Rw_pairs) 8 = .ok (.if_icmp .gt 43, 3) := by decide +kernel
theorem d_Rw_pairs_11 : decode (z_c m_Rw_pairs) 11 = .ok (.iload 4, 2) := by decide +kernel
theorem d_Rw_pairs_13 : decode (z_c m_Rw_pairs) 13 = .ok (.iload_n 2, 1) := by decide +kernel
theorem d_Rw_pairs_14 : decode (z_c m_Rw_pairs) 14 = .ok (.if_icmp .gt 37, 3) := by decide +kernel
theorem d_Rw_pairs_17 : decode (z_c m_Rw_pairs) 17 = .ok (.iload 4, 2) := by decide +kernel
theorem d_Rw_pairs_19 : decode (z_c m_Rw_pairs) 19 = .ok (.sipush 200, 3) := by decide +kernel
theorem d_Rw_pairs_22 : decode (z_c m_Rw_pairs) 22 = .ok (.if_icmp .gt 29, 3) := by decide +kernel
theorem d_Rw_pairs_25 : decode (z_c m_Rw_pairs) 25 = .ok (.iload_n 3, 1) := by decide +kernel
theorem d_Rw_pairs_26 : decode (z_c m_Rw_pairs) 26 = .ok (.aload_n 0, 1) := by decide +kernel
theorem d_Rw_pairs_27 : decode (z_c m_Rw_pairs) 27 = .ok (.getfield 9, 3) := by decide +kernel
theorem d_Rw_pairs_30 : decode (z_c m_Rw_pairs) 30 = .ok (.iload 4, 2) := by decide +kernel
theorem d_Rw_pairs_32 : decode (z_c m_Rw_pairs) 32 = .ok (.iaload, 1) := by decide +kernel
theorem d_Rw_pairs_33 : decode (z_c m_Rw_pairs) 33 = .ok (.iload_n 1, 1) := by decide +kernel
theorem d_Rw_pairs_34 : decode (z_c m_Rw_pairs) 34 = .ok (.iload 4, 2) := by decide +kernel
theorem d_Rw_pairs_36 : decode (z_c m_Rw_pairs) 36 = .ok (.idiv, 1) := by decide +kernel
theorem d_Rw_pairs_37 : decode (z_c m_Rw_pairs) 37 = .ok (.imul, 1) := by decide +kernel
theorem d_Rw_pairs_38 : decode (z_c m_Rw_pairs) 38 = .ok (.iload_n 2, 1) := by decide +kernel
theorem d_Rw_pairs_39 : decode (z_c m_Rw_pairs) 39 = .ok (.iload 4, 2) := by decide +kernel
theorem d_Rw_pairs_41 : decode (z_c m_Rw_pairs) 41 = .ok (.idiv, 1) := by decide +kernel
theorem d_Rw_pairs_42 : decode (z_c m_Rw_pairs) 42 = .ok (.imul, 1) := by decide +kernel
theorem d_Rw_pairs_43 : decode (z_c m_Rw_pairs) 43 = .ok (.iadd, 1) := by decide +kernel
theorem d_Rw_pairs_44 : decode (z_c m_Rw_pairs) 44 = .ok (.istore_n 3, 1) := by decide +kernel
theorem d_Rw_pairs_45 : decode (z_c m_Rw_pairs) 45 = .ok (.iinc 4 1, 3) := by decide +kernel
theorem d_Rw_pairs_48 : decode (z_c m_Rw_pairs) 48 = .ok (.goto (-43), 3) := by decide +kernel
theorem d_Rw_pairs_51 : decode (z_c m_Rw_pairs) 51 = .ok (.iload_n 3, 1) := by decide +kernel
theorem d_Rw_pairs_52 : decode (z_c m_Rw_pairs) 52 = .ok (.ireturn, 1) := by decide +kernel
abbrev L_Rw_pairs_5 (X : z_X) (N : Nat) (σ : z_G) (x1 x2 x3 x4 : Int) (g : z_G) (Q : z_P) : Prop := z_U X 1 m_Rw_pairs 5 [(0, (2, 15)), (1, (0, x1)), (2, (0, x2)), (3, (0, x3)), (4, (0, x4))] [] N σ g Q
set_option maxRecDepth 8000 in
theorem b_Rw_pairs_0 {X : z_X} {N : Nat} {σ g : z_G} {Q : z_P} {a1 a2 : Int} (hx : z_lay X N σ 0 z_SF z_RF) (h : L_Rw_pairs_5 X N σ a1 a2 0 1 g Q) : z_O X 1 m_Rw_pairs [(2, 15), (0, a1), (0, a2)] N σ g Q := by
  refine z_Oenter mi_Rw_pairs rfl (fun _ => ?_)
  show z_U X 1 m_Rw_pairs 0 [(0, (2, 15)), (1, (0, a1)), (2, (0, a2))] [] N σ g Q
  refine z_iconst (n := 0) d_Rw_pairs_0 (by decide) ?_
  refine z_istore_n (i := 3) (ls' := [(3, (0, 0)), (0, (2, 15)), (1, (0, a1)), (2, (0, a2))]) d_Rw_pairs_1 rfl rfl rfl ?_
  refine z_iconst (n := 1) d_Rw_pairs_2 (by decide) ?_
  refine z_istore (ls' := [(4, (0, 1)), (3, (0, 0)), (0, (2, 15)), (1, (0, a1)), (2, (0, a2))]) d_Rw_pairs_3 rfl rfl ?_
  refine z_sub (ls' := [(0, (2, 15)), (1, (0, a1)), (2, (0, a2)), (3, (0, 0)), (4, (0, 1))]) [2, 3, 4, 1, 0] rfl ?_
  exact h
set_option maxRecDepth 8000 in
theorem b_Rw_pairs_5 {X : z_X} {N : Nat} {σ g : z_G} {Q : z_P} {x1 x2 x3 x4 : Int} (hx : z_lay X N σ 0 z_SF z_RF) (h : ((x1 < x4) → Q x3 g) ∧ (¬ (x1 < x4) → (((x2 < x4) → Q x3 g) ∧ (¬ (x2 < x4) → (((200 < x4) → Q x3 g) ∧ (¬ (200 < x4) → ((0 ≤ x4 ∧ x4 < 201) ∧ ((0 < x4) ∧ ((-2147483648 ≤ ((g 16 x4) * (Int.tdiv x1 x4)) ∧ ((g 16 x4) * (Int.tdiv x1 x4)) ≤ 2147483647) ∧ ((-2147483648 ≤ (((g 16 x4) * (Int.tdiv x1 x4)) * (Int.tdiv x2 x4)) ∧ (((g 16 x4) * (Int.tdiv x1 x4)) * (Int.tdiv x2 x4)) ≤ 2147483647) ∧ ((-2147483648 ≤ (x3 + (((g 16 x4) * (Int.tdiv x1 x4)) * (Int.tdiv x2 x4))) ∧ (x3 + (((g 16 x4) * (Int.tdiv x1 x4)) * (Int.tdiv x2 x4))) ≤ 2147483647) ∧ ((-2147483648 ≤ (x4 + 1) ∧ (x4 + 1) ≤ 2147483647) ∧ L_Rw_pairs_5 X N σ x1 x2 (x3 + (((g 16 x4) * (Int.tdiv x1 x4)) * (Int.tdiv x2 x4))) (x4 + 1) g Q)))))))))))) : L_Rw_pairs_5 X N σ x1 x2 x3 x4 g Q := by
  refine z_iload 4 d_Rw_pairs_5 rfl ?_
  refine z_iload_n (i := 1) 1 d_Rw_pairs_7 rfl rfl ?_
  refine z_icmp_gt (tgt := 51) d_Rw_pairs_8 (by decide) (fun c1 => ?_) (fun c1 => ?_)
  · have h := h.1 c1
    refine z_iload_n (i := 3) 3 d_Rw_pairs_51 rfl rfl ?_
    exact z_iret d_Rw_pairs_52 rfl (by decide) (by decide) ⟨rfl, rfl, h⟩
  · have h := h.2 c1
    refine z_iload 4 d_Rw_pairs_11 rfl ?_
    refine z_iload_n (i := 2) 2 d_Rw_pairs_13 rfl rfl ?_
    refine z_icmp_gt (tgt := 51) d_Rw_pairs_14 (by decide) (fun c2 => ?_) (fun c2 => ?_)
    · have h := h.1 c2
      refine z_iload_n (i := 3) 3 d_Rw_pairs_51 rfl rfl ?_
      exact z_iret d_Rw_pairs_52 rfl (by decide) (by decide) ⟨rfl, rfl, h⟩
    · have h := h.2 c2
      refine z_iload 4 d_Rw_pairs_17 rfl ?_
      refine z_sipush (n := 200) d_Rw_pairs_19 (by decide) (by decide) ?_
      refine z_icmp_gt (tgt := 51) d_Rw_pairs_22 (by decide) (fun c3 => ?_) (fun c3 => ?_)
      · have h := h.1 c3
        refine z_iload_n (i := 3) 3 d_Rw_pairs_51 rfl rfl ?_
        exact z_iret d_Rw_pairs_52 rfl (by decide) (by decide) ⟨rfl, rfl, h⟩
      · have h := h.2 c3
        refine z_iload_n (i := 3) 3 d_Rw_pairs_25 rfl rfl ?_
        refine z_aload_n (i := 0) (c := 15) 0 d_Rw_pairs_26 rfl rfl rfl ?_
        refine z_getr (c := 15) (kI := 0) (r2 := 16) d_Rw_pairs_27 fd_Rw_moebius fl_Rw_9 rfl rfl rfl (ks_F_15 hx) (kl_F_15 hx) (kr_F_15_0 hx) ?_
        refine z_iload 4 d_Rw_pairs_30 rfl ?_
        obtain ⟨c4, h⟩ := h
        refine z_iald (c := 16) (m := 201) d_Rw_pairs_32 rfl (ks_F_16 hx) (kl_F_16 hx) rfl (by decide) c4 ?_
        refine z_iload_n (i := 1) 1 d_Rw_pairs_33 rfl rfl ?_
        refine z_iload 4 d_Rw_pairs_34 rfl ?_
        obtain ⟨c5, h⟩ := h
        refine z_idiv d_Rw_pairs_36 c5 ?_
        obtain ⟨c6, h⟩ := h
        refine z_imul d_Rw_pairs_37 c6 ?_
        refine z_iload_n (i := 2) 2 d_Rw_pairs_38 rfl rfl ?_
        refine z_iload 4 d_Rw_pairs_39 rfl ?_
        refine z_idiv d_Rw_pairs_41 c5 ?_
        obtain ⟨c7, h⟩ := h
        refine z_imul d_Rw_pairs_42 c7 ?_
        obtain ⟨c8, h⟩ := h
        refine z_iadd d_Rw_pairs_43 c8 ?_
        refine z_istore_n (i := 3) (ls' := [(3, (0, x3 + (((g 16 x4) * (Int.tdiv x1 x4)) * (Int.tdiv x2 x4)))), (0, (2, 15)), (1, (0, x1)), (2, (0, x2)), (4, (0, x4))]) d_Rw_pairs_44 rfl rfl rfl ?_
        obtain ⟨c9, h⟩ := h
        refine z_iinc (n := 1) (ls' := [(4, (0, x4 + 1)), (3, (0, x3 + (((g 16 x4) * (Int.tdiv x1 x4)) * (Int.tdiv x2 x4)))), (0, (2, 15)), (1, (0, x1)), (2, (0, x2))]) 4 d_Rw_pairs_45 rfl c9 rfl rfl ?_
        refine z_goto (tgt := 5) d_Rw_pairs_48 (by decide) ?_
        refine z_sub (ls' := [(0, (2, 15)), (1, (0, x1)), (2, (0, x2)), (3, (0, x3 + (((g 16 x4) * (Int.tdiv x1 x4)) * (Int.tdiv x2 x4)))), (4, (0, x4 + 1))]) [2, 3, 4, 1, 0] rfl ?_
        exact h
theorem d_Rw_stepUp_0 : decode (z_c m_Rw_stepUp) 0 = .ok (.aload_n 0, 1) := by decide +kernel
theorem d_Rw_stepUp_1 : decode (z_c m_Rw_stepUp) 1 = .ok (.getfield 37, 3) := by decide +kernel
theorem d_Rw_stepUp_4 : decode (z_c m_Rw_stepUp) 4 = .ok (.iconst 1, 1) := by decide +kernel
theorem d_Rw_stepUp_5 : decode (z_c m_Rw_stepUp) 5 = .ok (.if_icmp .ge 4, 3) := by decide +kernel
theorem d_Rw_stepUp_8 : decode (z_c m_Rw_stepUp) 8 = .ok (.return_, 1) := by decide +kernel
theorem d_Rw_stepUp_9 : decode (z_c m_Rw_stepUp) 9 = .ok (.iload_n 1, 1) := by decide +kernel
theorem d_Rw_stepUp_10 : decode (z_c m_Rw_stepUp) 10 = .ok (.aload_n 0, 1) := by decide +kernel
theorem d_Rw_stepUp_11 : decode (z_c m_Rw_stepUp) 11 = .ok (.getfield 31, 3) := by decide +kernel
theorem d_Rw_stepUp_14 : decode (z_c m_Rw_stepUp) 14 = .ok (.iadd, 1) := by decide +kernel
theorem d_Rw_stepUp_15 : decode (z_c m_Rw_stepUp) 15 = .ok (.aload_n 0, 1) := by decide +kernel
theorem d_Rw_stepUp_16 : decode (z_c m_Rw_stepUp) 16 = .ok (.getfield 37, 3) := by decide +kernel
theorem d_Rw_stepUp_19 : decode (z_c m_Rw_stepUp) 19 = .ok (.idiv, 1) := by decide +kernel
theorem d_Rw_stepUp_20 : decode (z_c m_Rw_stepUp) 20 = .ok (.istore_n 2, 1) := by decide +kernel
theorem d_Rw_stepUp_21 : decode (z_c m_Rw_stepUp) 21 = .ok (.iload_n 2, 1) := by decide +kernel
theorem d_Rw_stepUp_22 : decode (z_c m_Rw_stepUp) 22 = .ok (.aload_n 0, 1) := by decide +kernel
theorem d_Rw_stepUp_23 : decode (z_c m_Rw_stepUp) 23 = .ok (.getfield 34, 3) := by decide +kernel
theorem d_Rw_stepUp_26 : decode (z_c m_Rw_stepUp) 26 = .ok (.imul, 1) := by decide +kernel
theorem d_Rw_stepUp_27 : decode (z_c m_Rw_stepUp) 27 = .ok (.aload_n 0, 1) := by decide +kernel
theorem d_Rw_stepUp_28 : decode (z_c m_Rw_stepUp) 28 = .ok (.getfield 27, 3) := by decide +kernel
theorem d_Rw_stepUp_31 : decode (z_c m_Rw_stepUp) 31 = .ok (.isub, 1) := by decide +kernel
theorem d_Rw_stepUp_32 : decode (z_c m_Rw_stepUp) 32 = .ok (.istore_n 3, 1) := by decide +kernel
theorem d_Rw_stepUp_33 : decode (z_c m_Rw_stepUp) 33 = .ok (.iload_n 2, 1) := by decide +kernel
theorem d_Rw_stepUp_34 : decode (z_c m_Rw_stepUp) 34 = .ok (.aload_n 0, 1) := by decide +kernel
theorem d_Rw_stepUp_35 : decode (z_c m_Rw_stepUp) 35 = .ok (.getfield 37, 3) := by decide +kernel
theorem d_Rw_stepUp_38 : decode (z_c m_Rw_stepUp) 38 = .ok (.imul, 1) := by decide +kernel
theorem d_Rw_stepUp_39 : decode (z_c m_Rw_stepUp) 39 = .ok (.aload_n 0, 1) := by decide +kernel
theorem d_Rw_stepUp_40 : decode (z_c m_Rw_stepUp) 40 = .ok (.getfield 31, 3) := by decide +kernel
theorem d_Rw_stepUp_43 : decode (z_c m_Rw_stepUp) 43 = .ok (.isub, 1) := by decide +kernel
theorem d_Rw_stepUp_44 : decode (z_c m_Rw_stepUp) 44 = .ok (.istore 4, 2) := by decide +kernel
theorem d_Rw_stepUp_46 : decode (z_c m_Rw_stepUp) 46 = .ok (.aload_n 0, 1) := by decide +kernel
theorem d_Rw_stepUp_47 : decode (z_c m_Rw_stepUp) 47 = .ok (.aload_n 0, 1) := by decide +kernel
theorem d_Rw_stepUp_48 : decode (z_c m_Rw_stepUp) 48 = .ok (.getfield 34, 3) := by decide +kernel
theorem d_Rw_stepUp_51 : decode (z_c m_Rw_stepUp) 51 = .ok (.putfield 27, 3) := by decide +kernel
theorem d_Rw_stepUp_54 : decode (z_c m_Rw_stepUp) 54 = .ok (.aload_n 0, 1) := by decide +kernel
theorem d_Rw_stepUp_55 : decode (z_c m_Rw_stepUp) 55 = .ok (.aload_n 0, 1) := by decide +kernel
theorem d_Rw_stepUp_56 : decode (z_c m_Rw_stepUp) 56 = .ok (.getfield 37, 3) := by decide +kernel
theorem d_Rw_stepUp_59 : decode (z_c m_Rw_stepUp) 59 = .ok (.putfield 31, 3) := by decide +kernel
theorem d_Rw_stepUp_62 : decode (z_c m_Rw_stepUp) 62 = .ok (.aload_n 0, 1) := by decide +kernel
theorem d_Rw_stepUp_63 : decode (z_c m_Rw_stepUp) 63 = .ok (.iload_n 3, 1) := by decide +kernel
theorem d_Rw_stepUp_64 : decode (z_c m_Rw_stepUp) 64 = .ok (.putfield 34, 3) := by decide +kernel
theorem d_Rw_stepUp_67 : decode (z_c m_Rw_stepUp) 67 = .ok (.aload_n 0, 1) := by decide +kernel
theorem d_Rw_stepUp_68 : decode (z_c m_Rw_stepUp) 68 = .ok (.iload 4, 2) := by decide +kernel
theorem d_Rw_stepUp_70 : decode (z_c m_Rw_stepUp) 70 = .ok (.putfield 37, 3) := by decide +kernel
theorem d_Rw_stepUp_73 : decode (z_c m_Rw_stepUp) 73 = .ok (.return_, 1) := by decide +kernel
set_option maxRecDepth 8000 in
theorem b_Rw_stepUp_0 {X : z_X} {N : Nat} {σ g : z_G} {Q : z_P} {a1 : Int} (hx : z_lay X N σ 0 z_SF z_RF) (h : ((1 ≤ (g 15 5)) → ((-2147483648 ≤ (a1 + (g 15 3)) ∧ (a1 + (g 15 3)) ≤ 2147483647) ∧ ((0 < (g 15 5)) ∧ ((-2147483648 ≤ ((Int.tdiv (a1 + (g 15 3)) (g 15 5)) * (g 15 4)) ∧ ((Int.tdiv (a1 + (g 15 3)) (g 15 5)) * (g 15 4)) ≤ 2147483647) ∧ ((-2147483648 ≤ (((Int.tdiv (a1 + (g 15 3)) (g 15 5)) * (g 15 4)) - (g 15 2)) ∧ (((Int.tdiv (a1 + (g 15 3)) (g 15 5)) * (g 15 4)) - (g 15 2)) ≤ 2147483647) ∧ ((-2147483648 ≤ ((Int.tdiv (a1 + (g 15 3)) (g 15 5)) * (g 15 5)) ∧ ((Int.tdiv (a1 + (g 15 3)) (g 15 5)) * (g 15 5)) ≤ 2147483647) ∧ ((-2147483648 ≤ (((Int.tdiv (a1 + (g 15 3)) (g 15 5)) * (g 15 5)) - (g 15 3)) ∧ (((Int.tdiv (a1 + (g 15 3)) (g 15 5)) * (g 15 5)) - (g 15 3)) ≤ 2147483647) ∧ Q 0 (z_up (z_up (z_up (z_up g 15 2 (g 15 4)) 15 3 (g 15 5)) 15 4 (((Int.tdiv (a1 + (g 15 3)) (g 15 5)) * (g 15 4)) - (g 15 2))) 15 5 (((Int.tdiv (a1 + (g 15 3)) (g 15 5)) * (g 15 5)) - (g 15 3)))))))))) ∧ (¬ (1 ≤ (g 15 5)) → Q 0 g)) : z_O X 1 m_Rw_stepUp [(2, 15), (0, a1)] N σ g Q := by
  refine z_Oenter mi_Rw_stepUp rfl (fun _ => ?_)
  show z_U X 1 m_Rw_stepUp 0 [(0, (2, 15)), (1, (0, a1))] [] N σ g Q
  refine z_aload_n (i := 0) (c := 15) 0 d_Rw_stepUp_0 rfl rfl rfl ?_
  refine z_geti (c := 15) (kI := 5) d_Rw_stepUp_1 fd_Rw_highBottom fl_Rw_37 (Or.inl rfl) rfl rfl (ks_F_15 hx) (kl_F_15 hx) ?_
  refine z_iconst (n := 1) d_Rw_stepUp_4 (by decide) ?_
  refine z_icmp_ge (tgt := 9) d_Rw_stepUp_5 (by decide) (fun c1 => ?_) (fun c1 => ?_)
  · have h := h.1 c1
    refine z_iload_n (i := 1) 1 d_Rw_stepUp_9 rfl rfl ?_
    refine z_aload_n (i := 0) (c := 15) 0 d_Rw_stepUp_10 rfl rfl rfl ?_
    refine z_geti (c := 15) (kI := 3) d_Rw_stepUp_11 fd_Rw_lowBottom fl_Rw_31 (Or.inl rfl) rfl rfl (ks_F_15 hx) (kl_F_15 hx) ?_
    obtain ⟨c2, h⟩ := h
    refine z_iadd d_Rw_stepUp_14 c2 ?_
    refine z_aload_n (i := 0) (c := 15) 0 d_Rw_stepUp_15 rfl rfl rfl ?_
    refine z_geti (c := 15) (kI := 5) d_Rw_stepUp_16 fd_Rw_highBottom fl_Rw_37 (Or.inl rfl) rfl rfl (ks_F_15 hx) (kl_F_15 hx) ?_
    obtain ⟨c3, h⟩ := h
    refine z_idiv d_Rw_stepUp_19 c3 ?_
    refine z_istore_n (i := 2) (ls' := [(2, (0, Int.tdiv (a1 + (g 15 3)) (g 15 5))), (0, (2, 15)), (1, (0, a1))]) d_Rw_stepUp_20 rfl rfl rfl ?_
    refine z_iload_n (i := 2) 0 d_Rw_stepUp_21 rfl rfl ?_
    refine z_aload_n (i := 0) (c := 15) 1 d_Rw_stepUp_22 rfl rfl rfl ?_
    refine z_geti (c := 15) (kI := 4) d_Rw_stepUp_23 fd_Rw_highTop fl_Rw_34 (Or.inl rfl) rfl rfl (ks_F_15 hx) (kl_F_15 hx) ?_
    obtain ⟨c4, h⟩ := h
    refine z_imul d_Rw_stepUp_26 c4 ?_
    refine z_aload_n (i := 0) (c := 15) 1 d_Rw_stepUp_27 rfl rfl rfl ?_
    refine z_geti (c := 15) (kI := 2) d_Rw_stepUp_28 fd_Rw_lowTop fl_Rw_27 (Or.inl rfl) rfl rfl (ks_F_15 hx) (kl_F_15 hx) ?_
    obtain ⟨c5, h⟩ := h
    refine z_isub d_Rw_stepUp_31 c5 ?_
    refine z_istore_n (i := 3) (ls' := [(3, (0, ((Int.tdiv (a1 + (g 15 3)) (g 15 5)) * (g 15 4)) - (g 15 2))), (2, (0, Int.tdiv (a1 + (g 15 3)) (g 15 5))), (0, (2, 15)), (1, (0, a1))]) d_Rw_stepUp_32 rfl rfl rfl ?_
    refine z_iload_n (i := 2) 1 d_Rw_stepUp_33 rfl rfl ?_
    refine z_aload_n (i := 0) (c := 15) 2 d_Rw_stepUp_34 rfl rfl rfl ?_
    refine z_geti (c := 15) (kI := 5) d_Rw_stepUp_35 fd_Rw_highBottom fl_Rw_37 (Or.inl rfl) rfl rfl (ks_F_15 hx) (kl_F_15 hx) ?_
    obtain ⟨c6, h⟩ := h
    refine z_imul d_Rw_stepUp_38 c6 ?_
    refine z_aload_n (i := 0) (c := 15) 2 d_Rw_stepUp_39 rfl rfl rfl ?_
    refine z_geti (c := 15) (kI := 3) d_Rw_stepUp_40 fd_Rw_lowBottom fl_Rw_31 (Or.inl rfl) rfl rfl (ks_F_15 hx) (kl_F_15 hx) ?_
    obtain ⟨c7, h⟩ := h
    refine z_isub d_Rw_stepUp_43 c7 ?_
    refine z_istore (ls' := [(4, (0, ((Int.tdiv (a1 + (g 15 3)) (g 15 5)) * (g 15 5)) - (g 15 3))), (3, (0, ((Int.tdiv (a1 + (g 15 3)) (g 15 5)) * (g 15 4)) - (g 15 2))), (2, (0, Int.tdiv (a1 + (g 15 3)) (g 15 5))), (0, (2, 15)), (1, (0, a1))]) d_Rw_stepUp_44 rfl rfl ?_
    refine z_aload_n (i := 0) (c := 15) 3 d_Rw_stepUp_46 rfl rfl rfl ?_
    refine z_aload_n (i := 0) (c := 15) 3 d_Rw_stepUp_47 rfl rfl rfl ?_
    refine z_geti (c := 15) (kI := 4) d_Rw_stepUp_48 fd_Rw_highTop fl_Rw_34 (Or.inl rfl) rfl rfl (ks_F_15 hx) (kl_F_15 hx) ?_
    refine z_puti (c := 15) (kI := 2) d_Rw_stepUp_51 fd_Rw_lowTop fl_Rw_27 pf_Rw_lowTop rfl rfl rfl rfl (ks_F_15 hx) (kl_F_15 hx) ?_
    refine z_aload_n (i := 0) (c := 15) 3 d_Rw_stepUp_54 rfl rfl rfl ?_
    refine z_aload_n (i := 0) (c := 15) 3 d_Rw_stepUp_55 rfl rfl rfl ?_
    refine z_geti (c := 15) (kI := 5) d_Rw_stepUp_56 fd_Rw_highBottom fl_Rw_37 (Or.inl rfl) rfl rfl (ks_F_15 hx) (kl_F_15 hx) ?_
    refine z_ti (b := g 15 5) (by simp [z_up]) ?_
    refine z_puti (c := 15) (kI := 3) d_Rw_stepUp_59 fd_Rw_lowBottom fl_Rw_31 pf_Rw_lowBottom rfl rfl rfl rfl (ks_F_15 hx) (kl_F_15 hx) ?_
    refine z_aload_n (i := 0) (c := 15) 3 d_Rw_stepUp_62 rfl rfl rfl ?_
    refine z_iload_n (i := 3) 1 d_Rw_stepUp_63 rfl rfl ?_
    refine z_puti (c := 15) (kI := 4) d_Rw_stepUp_64 fd_Rw_highTop fl_Rw_34 pf_Rw_highTop rfl rfl rfl rfl (ks_F_15 hx) (kl_F_15 hx) ?_
    refine z_aload_n (i := 0) (c := 15) 3 d_Rw_stepUp_67 rfl rfl rfl ?_
    refine z_iload 0 d_Rw_stepUp_68 rfl ?_
    refine z_puti (c := 15) (kI := 5) d_Rw_stepUp_70 fd_Rw_highBottom fl_Rw_37 pf_Rw_highBottom rfl rfl rfl rfl (ks_F_15 hx) (kl_F_15 hx) ?_
    exact z_vret d_Rw_stepUp_73 rfl (by decide) (by decide) ⟨rfl, rfl, h⟩
  · have h := h.2 c1
    exact z_vret d_Rw_stepUp_8 rfl (by decide) (by decide) ⟨rfl, rfl, h⟩
theorem d_Sp_climb_0 : decode (z_c m_Sp_climb) 0 = .ok (.aload_n 0, 1) := by decide +kernel
theorem d_Sp_climb_1 : decode (z_c m_Sp_climb) 1 = .ok (.getfield 27, 3) := by decide +kernel
theorem d_Sp_climb_4 : decode (z_c m_Sp_climb) 4 = .ok (.ifCond .ne 5, 3) := by decide +kernel
theorem d_Sp_climb_7 : decode (z_c m_Sp_climb) 7 = .ok (.iconst 0, 1) := by decide +kernel
theorem d_Sp_climb_8 : decode (z_c m_Sp_climb) 8 = .ok (.ireturn, 1) := by decide +kernel
theorem d_Sp_climb_9 : decode (z_c m_Sp_climb) 9 = .ok (.aload_n 0, 1) := by decide +kernel
theorem d_Sp_climb_10 : decode (z_c m_Sp_climb) 10 = .ok (.getfield 24, 3) := by decide +kernel
theorem d_Sp_climb_13 : decode (z_c m_Sp_climb) 13 = .ok (.aload_n 0, 1) := by decide +kernel
theorem d_Sp_climb_14 : decode (z_c m_Sp_climb) 14 = .ok (.getfield 18, 3) := by decide +kernel
theorem d_Sp_climb_17 : decode (z_c m_Sp_climb) 17 = .ok (.if_icmp .le 32, 3) := by decide +kernel
theorem d_Sp_climb_20 : decode (z_c m_Sp_climb) 20 = .ok (.aload_n 0, 1) := by decide +kernel
theorem d_Sp_climb_21 : decode (z_c m_Sp_climb) 21 = .ok (.dup, 1) := by decide +kernel
theorem d_Sp_climb_22 : decode (z_c m_Sp_climb) 22 = .ok (.getfield 21, 3) := by decide +kernel
theorem d_Sp_climb_25 : decode (z_c m_Sp_climb) 25 = .ok (.aload_n 0, 1) := by decide +kernel
theorem d_Sp_climb_26 : decode (z_c m_Sp_climb) 26 = .ok (.getfield 14, 3) := by decide +kernel
theorem d_Sp_climb_29 : decode (z_c m_Sp_climb) 29 = .ok (.isub, 1) := by decide +kernel
theorem d_Sp_climb_30 : decode (z_c m_Sp_climb) 30 = .ok (.putfield 21, 3) := by decide +kernel
theorem d_Sp_climb_33 : decode (z_c m_Sp_climb) 33 = .ok (.aload_n 0, 1) := by decide +kernel
theorem d_Sp_climb_34 : decode (z_c m_Sp_climb) 34 = .ok (.dup, 1) := by decide +kernel
theorem d_Sp_climb_35 : decode (z_c m_Sp_climb) 35 = .ok (.getfield 24, 3) := by decide +kernel
theorem d_Sp_climb_38 : decode (z_c m_Sp_climb) 38 = .ok (.aload_n 0, 1) := by decide +kernel
theorem d_Sp_climb_39 : decode (z_c m_Sp_climb) 39 = .ok (.getfield 18, 3) := by decide +kernel
theorem d_Sp_climb_42 : decode (z_c m_Sp_climb) 42 = .ok (.isub, 1) := by decide +kernel
theorem d_Sp_climb_43 : decode (z_c m_Sp_climb) 43 = .ok (.putfield 24, 3) := by decide +kernel
theorem d_Sp_climb_46 : decode (z_c m_Sp_climb) 46 = .ok (.goto 29, 3) := by decide +kernel
theorem d_Sp_climb_49 : decode (z_c m_Sp_climb) 49 = .ok (.aload_n 0, 1) := by decide +kernel
theorem d_Sp_climb_50 : decode (z_c m_Sp_climb) 50 = .ok (.dup, 1) := by decide +kernel
theorem d_Sp_climb_51 : decode (z_c m_Sp_climb) 51 = .ok (.getfield 14, 3) := by decide +kernel
theorem d_Sp_climb_54 : decode (z_c m_Sp_climb) 54 = .ok (.aload_n 0, 1) := by decide +kernel
theorem d_Sp_climb_55 : decode (z_c m_Sp_climb) 55 = .ok (.getfield 21, 3) := by decide +kernel
theorem d_Sp_climb_58 : decode (z_c m_Sp_climb) 58 = .ok (.isub, 1) := by decide +kernel
theorem d_Sp_climb_59 : decode (z_c m_Sp_climb) 59 = .ok (.putfield 14, 3) := by decide +kernel
theorem d_Sp_climb_62 : decode (z_c m_Sp_climb) 62 = .ok (.aload_n 0, 1) := by decide +kernel
theorem d_Sp_climb_63 : decode (z_c m_Sp_climb) 63 = .ok (.dup, 1) := by decide +kernel
theorem d_Sp_climb_64 : decode (z_c m_Sp_climb) 64 = .ok (.getfield 18, 3) := by decide +kernel
theorem d_Sp_climb_67 : decode (z_c m_Sp_climb) 67 = .ok (.aload_n 0, 1) := by decide +kernel
theorem d_Sp_climb_68 : decode (z_c m_Sp_climb) 68 = .ok (.getfield 24, 3) := by decide +kernel
theorem d_Sp_climb_71 : decode (z_c m_Sp_climb) 71 = .ok (.isub, 1) := by decide +kernel
theorem d_Sp_climb_72 : decode (z_c m_Sp_climb) 72 = .ok (.putfield 18, 3) := by decide +kernel
theorem d_Sp_climb_75 : decode (z_c m_Sp_climb) 75 = .ok (.aload_n 0, 1) := by decide +kernel
theorem d_Sp_climb_76 : decode (z_c m_Sp_climb) 76 = .ok (.dup, 1) := by decide +kernel
theorem d_Sp_climb_77 : decode (z_c m_Sp_climb) 77 = .ok (.getfield 27, 3) := by decide +kernel
theorem d_Sp_climb_80 : decode (z_c m_Sp_climb) 80 = .ok (.iconst 1, 1) := by decide +kernel
theorem d_Sp_climb_81 : decode (z_c m_Sp_climb) 81 = .ok (.isub, 1) := by decide +kernel
theorem d_Sp_climb_82 : decode (z_c m_Sp_climb) 82 = .ok (.putfield 27, 3) := by decide +kernel
theorem d_Sp_climb_85 : decode (z_c m_Sp_climb) 85 = .ok (.iconst 1, 1) := by decide +kernel
theorem d_Sp_climb_86 : decode (z_c m_Sp_climb) 86 = .ok (.ireturn, 1) := by decide +kernel
set_option maxRecDepth 8000 in
theorem b_Sp_climb_0 {X : z_X} {N : Nat} {σ g : z_G} {Q : z_P} {o : Nat} (ho : z_lay X N σ o z_SSp z_RSp) (h : (((g o 4) = 0) → Q 0 g) ∧ (¬ ((g o 4) = 0) → ((((g o 3) ≤ (g o 1)) → ((-2147483648 ≤ ((g o 0) - (g o 2)) ∧ ((g o 0) - (g o 2)) ≤ 2147483647) ∧ ((-2147483648 ≤ ((g o 1) - (g o 3)) ∧ ((g o 1) - (g o 3)) ≤ 2147483647) ∧ ((-2147483648 ≤ ((g o 4) - 1) ∧ ((g o 4) - 1) ≤ 2147483647) ∧ Q 1 (z_up (z_up (z_up g o 0 ((g o 0) - (g o 2))) o 1 ((g o 1) - (g o 3))) o 4 ((g o 4) - 1)))))) ∧ (¬ ((g o 3) ≤ (g o 1)) → ((-2147483648 ≤ ((g o 2) - (g o 0)) ∧ ((g o 2) - (g o 0)) ≤ 2147483647) ∧ ((-2147483648 ≤ ((g o 3) - (g o 1)) ∧ ((g o 3) - (g o 1)) ≤ 2147483647) ∧ ((-2147483648 ≤ ((g o 4) - 1) ∧ ((g o 4) - 1) ≤ 2147483647) ∧ Q 1 (z_up (z_up (z_up g o 2 ((g o 2) - (g o 0))) o 3 ((g o 3) - (g o 1))) o 4 ((g o 4) - 1))))))))) : z_O X 1 m_Sp_climb [(2, ((o : Nat) : Int))] N σ g Q := by
  refine z_Oenter mi_Sp_climb rfl (fun _ => ?_)
  show z_U X 1 m_Sp_climb 0 [(0, (2, ((o : Nat) : Int)))] [] N σ g Q
  refine z_aload_n (i := 0) (c := o) 0 d_Sp_climb_0 rfl rfl rfl ?_
  refine z_geti (c := o) (kI := 4) d_Sp_climb_1 fd_Sp_deep fl_Sp_27 (Or.inl rfl) rfl rfl (ks_Sp_0 ho) (kl_Sp_0 ho) ?_
  refine z_if_ne (tgt := 9) d_Sp_climb_4 (by decide) (fun c1 => ?_) (fun c1 => ?_)
  · have h := h.2 c1
    refine z_aload_n (i := 0) (c := o) 0 d_Sp_climb_9 rfl rfl rfl ?_
    refine z_geti (c := o) (kI := 3) d_Sp_climb_10 fd_Sp_highBottom fl_Sp_24 (Or.inl rfl) rfl rfl (ks_Sp_0 ho) (kl_Sp_0 ho) ?_
    refine z_aload_n (i := 0) (c := o) 0 d_Sp_climb_13 rfl rfl rfl ?_
    refine z_geti (c := o) (kI := 1) d_Sp_climb_14 fd_Sp_lowBottom fl_Sp_18 (Or.inl rfl) rfl rfl (ks_Sp_0 ho) (kl_Sp_0 ho) ?_
    refine z_icmp_le (tgt := 49) d_Sp_climb_17 (by decide) (fun c2 => ?_) (fun c2 => ?_)
    · have h := h.1 c2
      refine z_aload_n (i := 0) (c := o) 0 d_Sp_climb_49 rfl rfl rfl ?_
      refine z_dup d_Sp_climb_50 rfl ?_
      refine z_geti (c := o) (kI := 0) d_Sp_climb_51 fd_Sp_lowTop fl_Sp_14 (Or.inl rfl) rfl rfl (ks_Sp_0 ho) (kl_Sp_0 ho) ?_
      refine z_aload_n (i := 0) (c := o) 0 d_Sp_climb_54 rfl rfl rfl ?_
      refine z_geti (c := o) (kI := 2) d_Sp_climb_55 fd_Sp_highTop fl_Sp_21 (Or.inl rfl) rfl rfl (ks_Sp_0 ho) (kl_Sp_0 ho) ?_
      obtain ⟨c3, h⟩ := h
      refine z_isub d_Sp_climb_58 c3 ?_
      refine z_puti (c := o) (kI := 0) d_Sp_climb_59 fd_Sp_lowTop fl_Sp_14 pf_Sp_lowTop rfl rfl rfl rfl (ks_Sp_0 ho) (kl_Sp_0 ho) ?_
      refine z_aload_n (i := 0) (c := o) 0 d_Sp_climb_62 rfl rfl rfl ?_
      refine z_dup d_Sp_climb_63 rfl ?_
      refine z_geti (c := o) (kI := 1) d_Sp_climb_64 fd_Sp_lowBottom fl_Sp_18 (Or.inl rfl) rfl rfl (ks_Sp_0 ho) (kl_Sp_0 ho) ?_
      refine z_ti (b := g o 1) (by simp [z_up]) ?_
      refine z_aload_n (i := 0) (c := o) 0 d_Sp_climb_67 rfl rfl rfl ?_
      refine z_geti (c := o) (kI := 3) d_Sp_climb_68 fd_Sp_highBottom fl_Sp_24 (Or.inl rfl) rfl rfl (ks_Sp_0 ho) (kl_Sp_0 ho) ?_
      refine z_ti (b := g o 3) (by simp [z_up]) ?_
      obtain ⟨c4, h⟩ := h
      refine z_isub d_Sp_climb_71 c4 ?_
      refine z_puti (c := o) (kI := 1) d_Sp_climb_72 fd_Sp_lowBottom fl_Sp_18 pf_Sp_lowBottom rfl rfl rfl rfl (ks_Sp_0 ho) (kl_Sp_0 ho) ?_
      refine z_aload_n (i := 0) (c := o) 0 d_Sp_climb_75 rfl rfl rfl ?_
      refine z_dup d_Sp_climb_76 rfl ?_
      refine z_geti (c := o) (kI := 4) d_Sp_climb_77 fd_Sp_deep fl_Sp_27 (Or.inl rfl) rfl rfl (ks_Sp_0 ho) (kl_Sp_0 ho) ?_
      refine z_ti (b := g o 4) (by simp [z_up]) ?_
      refine z_iconst (n := 1) d_Sp_climb_80 (by decide) ?_
      obtain ⟨c5, h⟩ := h
      refine z_isub d_Sp_climb_81 c5 ?_
      refine z_puti (c := o) (kI := 4) d_Sp_climb_82 fd_Sp_deep fl_Sp_27 pf_Sp_deep rfl rfl rfl rfl (ks_Sp_0 ho) (kl_Sp_0 ho) ?_
      refine z_iconst (n := 1) d_Sp_climb_85 (by decide) ?_
      exact z_zret d_Sp_climb_86 rfl (by decide) (by decide) (by decide) ⟨rfl, rfl, h⟩
    · have h := h.2 c2
      refine z_aload_n (i := 0) (c := o) 0 d_Sp_climb_20 rfl rfl rfl ?_
      refine z_dup d_Sp_climb_21 rfl ?_
      refine z_geti (c := o) (kI := 2) d_Sp_climb_22 fd_Sp_highTop fl_Sp_21 (Or.inl rfl) rfl rfl (ks_Sp_0 ho) (kl_Sp_0 ho) ?_
      refine z_aload_n (i := 0) (c := o) 0 d_Sp_climb_25 rfl rfl rfl ?_
      refine z_geti (c := o) (kI := 0) d_Sp_climb_26 fd_Sp_lowTop fl_Sp_14 (Or.inl rfl) rfl rfl (ks_Sp_0 ho) (kl_Sp_0 ho) ?_
      obtain ⟨c6, h⟩ := h
      refine z_isub d_Sp_climb_29 c6 ?_
      refine z_puti (c := o) (kI := 2) d_Sp_climb_30 fd_Sp_highTop fl_Sp_21 pf_Sp_highTop rfl rfl rfl rfl (ks_Sp_0 ho) (kl_Sp_0 ho) ?_
      refine z_aload_n (i := 0) (c := o) 0 d_Sp_climb_33 rfl rfl rfl ?_
      refine z_dup d_Sp_climb_34 rfl ?_
      refine z_geti (c := o) (kI := 3) d_Sp_climb_35 fd_Sp_highBottom fl_Sp_24 (Or.inl rfl) rfl rfl (ks_Sp_0 ho) (kl_Sp_0 ho) ?_
      refine z_ti (b := g o 3) (by simp [z_up]) ?_
      refine z_aload_n (i := 0) (c := o) 0 d_Sp_climb_38 rfl rfl rfl ?_
      refine z_geti (c := o) (kI := 1) d_Sp_climb_39 fd_Sp_lowBottom fl_Sp_18 (Or.inl rfl) rfl rfl (ks_Sp_0 ho) (kl_Sp_0 ho) ?_
      refine z_ti (b := g o 1) (by simp [z_up]) ?_
      obtain ⟨c7, h⟩ := h
      refine z_isub d_Sp_climb_42 c7 ?_
      refine z_puti (c := o) (kI := 3) d_Sp_climb_43 fd_Sp_highBottom fl_Sp_24 pf_Sp_highBottom rfl rfl rfl rfl (ks_Sp_0 ho) (kl_Sp_0 ho) ?_
      refine z_goto (tgt := 75) d_Sp_climb_46 (by decide) ?_
      refine z_aload_n (i := 0) (c := o) 0 d_Sp_climb_75 rfl rfl rfl ?_
      refine z_dup d_Sp_climb_76 rfl ?_
      refine z_geti (c := o) (kI := 4) d_Sp_climb_77 fd_Sp_deep fl_Sp_27 (Or.inl rfl) rfl rfl (ks_Sp_0 ho) (kl_Sp_0 ho) ?_
      refine z_ti (b := g o 4) (by simp [z_up]) ?_
      refine z_iconst (n := 1) d_Sp_climb_80 (by decide) ?_
      obtain ⟨c8, h⟩ := h
      refine z_isub d_Sp_climb_81 c8 ?_
      refine z_puti (c := o) (kI := 4) d_Sp_climb_82 fd_Sp_deep fl_Sp_27 pf_Sp_deep rfl rfl rfl rfl (ks_Sp_0 ho) (kl_Sp_0 ho) ?_
      refine z_iconst (n := 1) d_Sp_climb_85 (by decide) ?_
      exact z_zret d_Sp_climb_86 rfl (by decide) (by decide) (by decide) ⟨rfl, rfl, h⟩
  · have h := h.1 c1
    refine z_iconst (n := 0) d_Sp_climb_7 (by decide) ?_
    exact z_zret d_Sp_climb_8 rfl (by decide) (by decide) (by decide) ⟨rfl, rfl, h⟩
theorem d_Sp_copyFrom_0 : decode (z_c m_Sp_copyFrom) 0 = .ok (.aload_n 0, 1) := by decide +kernel
theorem d_Sp_copyFrom_1 : decode (z_c m_Sp_copyFrom) 1 = .ok (.aload_n 1, 1) := by decide +kernel
theorem d_Sp_copyFrom_2 : decode (z_c m_Sp_copyFrom) 2 = .ok (.getfield 14, 3) := by decide +kernel
theorem d_Sp_copyFrom_5 : decode (z_c m_Sp_copyFrom) 5 = .ok (.putfield 14, 3) := by decide +kernel
theorem d_Sp_copyFrom_8 : decode (z_c m_Sp_copyFrom) 8 = .ok (.aload_n 0, 1) := by decide +kernel
theorem d_Sp_copyFrom_9 : decode (z_c m_Sp_copyFrom) 9 = .ok (.aload_n 1, 1) := by decide +kernel
theorem d_Sp_copyFrom_10 : decode (z_c m_Sp_copyFrom) 10 = .ok (.getfield 18, 3) := by decide +kernel
theorem d_Sp_copyFrom_13 : decode (z_c m_Sp_copyFrom) 13 = .ok (.putfield 18, 3) := by decide +kernel
theorem d_Sp_copyFrom_16 : decode (z_c m_Sp_copyFrom) 16 = .ok (.aload_n 0, 1) := by decide +kernel
theorem d_Sp_copyFrom_17 : decode (z_c m_Sp_copyFrom) 17 = .ok (.aload_n 1, 1) := by decide +kernel
theorem d_Sp_copyFrom_18 : decode (z_c m_Sp_copyFrom) 18 = .ok (.getfield 21, 3) := by decide +kernel
theorem d_Sp_copyFrom_21 : decode (z_c m_Sp_copyFrom) 21 = .ok (.putfield 21, 3) := by decide +kernel
theorem d_Sp_copyFrom_24 : decode (z_c m_Sp_copyFrom) 24 = .ok (.aload_n 0, 1) := by decide +kernel
theorem d_Sp_copyFrom_25 : decode (z_c m_Sp_copyFrom) 25 = .ok (.aload_n 1, 1) := by decide +kernel
theorem d_Sp_copyFrom_26 : decode (z_c m_Sp_copyFrom) 26 = .ok (.getfield 24, 3) := by decide +kernel
theorem d_Sp_copyFrom_29 : decode (z_c m_Sp_copyFrom) 29 = .ok (.putfield 24, 3) := by decide +kernel
theorem d_Sp_copyFrom_32 : decode (z_c m_Sp_copyFrom) 32 = .ok (.aload_n 0, 1) := by decide +kernel
theorem d_Sp_copyFrom_33 : decode (z_c m_Sp_copyFrom) 33 = .ok (.aload_n 1, 1) := by decide +kernel
theorem d_Sp_copyFrom_34 : decode (z_c m_Sp_copyFrom) 34 = .ok (.getfield 27, 3) := by decide +kernel
theorem d_Sp_copyFrom_37 : decode (z_c m_Sp_copyFrom) 37 = .ok (.putfield 27, 3) := by decide +kernel
theorem d_Sp_copyFrom_40 : decode (z_c m_Sp_copyFrom) 40 = .ok (.return_, 1) := by decide +kernel
set_option maxRecDepth 8000 in
theorem b_Sp_copyFrom_0 {X : z_X} {N : Nat} {σ g : z_G} {Q : z_P} {o p1 : Nat} (ho : z_lay X N σ o z_SSp z_RSp) (hp1 : z_lay X N σ p1 z_SSp z_RSp) (h : Q 0 (z_up (z_up (z_up (z_up (z_up g o 0 (g p1 0)) o 1 ((z_up g o 0 (g p1 0)) p1 1)) o 2 ((z_up (z_up g o 0 (g p1 0)) o 1 ((z_up g o 0 (g p1 0)) p1 1)) p1 2)) o 3 ((z_up (z_up (z_up g o 0 (g p1 0)) o 1 ((z_up g o 0 (g p1 0)) p1 1)) o 2 ((z_up (z_up g o 0 (g p1 0)) o 1 ((z_up g o 0 (g p1 0)) p1 1)) p1 2)) p1 3)) o 4 ((z_up (z_up (z_up (z_up g o 0 (g p1 0)) o 1 ((z_up g o 0 (g p1 0)) p1 1)) o 2 ((z_up (z_up g o 0 (g p1 0)) o 1 ((z_up g o 0 (g p1 0)) p1 1)) p1 2)) o 3 ((z_up (z_up (z_up g o 0 (g p1 0)) o 1 ((z_up g o 0 (g p1 0)) p1 1)) o 2 ((z_up (z_up g o 0 (g p1 0)) o 1 ((z_up g o 0 (g p1 0)) p1 1)) p1 2)) p1 3)) p1 4))) : z_O X 1 m_Sp_copyFrom [(2, ((o : Nat) : Int)), (2, ((p1 : Nat) : Int))] N σ g Q := by
  refine z_Oenter mi_Sp_copyFrom rfl (fun _ => ?_)
  show z_U X 1 m_Sp_copyFrom 0 [(0, (2, ((o : Nat) : Int))), (1, (2, ((p1 : Nat) : Int)))] [] N σ g Q
  refine z_aload_n (i := 0) (c := o) 0 d_Sp_copyFrom_0 rfl rfl rfl ?_
  refine z_aload_n (i := 1) (c := p1) 1 d_Sp_copyFrom_1 rfl rfl rfl ?_
  refine z_geti (c := p1) (kI := 0) d_Sp_copyFrom_2 fd_Sp_lowTop fl_Sp_14 (Or.inl rfl) rfl rfl (ks_Sp_0 hp1) (kl_Sp_0 hp1) ?_
  refine z_puti (c := o) (kI := 0) d_Sp_copyFrom_5 fd_Sp_lowTop fl_Sp_14 pf_Sp_lowTop rfl rfl rfl rfl (ks_Sp_0 ho) (kl_Sp_0 ho) ?_
  refine z_aload_n (i := 0) (c := o) 0 d_Sp_copyFrom_8 rfl rfl rfl ?_
  refine z_aload_n (i := 1) (c := p1) 1 d_Sp_copyFrom_9 rfl rfl rfl ?_
  refine z_geti (c := p1) (kI := 1) d_Sp_copyFrom_10 fd_Sp_lowBottom fl_Sp_18 (Or.inl rfl) rfl rfl (ks_Sp_0 hp1) (kl_Sp_0 hp1) ?_
  refine z_puti (c := o) (kI := 1) d_Sp_copyFrom_13 fd_Sp_lowBottom fl_Sp_18 pf_Sp_lowBottom rfl rfl rfl rfl (ks_Sp_0 ho) (kl_Sp_0 ho) ?_
  refine z_aload_n (i := 0) (c := o) 0 d_Sp_copyFrom_16 rfl rfl rfl ?_
  refine z_aload_n (i := 1) (c := p1) 1 d_Sp_copyFrom_17 rfl rfl rfl ?_
  refine z_geti (c := p1) (kI := 2) d_Sp_copyFrom_18 fd_Sp_highTop fl_Sp_21 (Or.inl rfl) rfl rfl (ks_Sp_0 hp1) (kl_Sp_0 hp1) ?_
  refine z_puti (c := o) (kI := 2) d_Sp_copyFrom_21 fd_Sp_highTop fl_Sp_21 pf_Sp_highTop rfl rfl rfl rfl (ks_Sp_0 ho) (kl_Sp_0 ho) ?_
  refine z_aload_n (i := 0) (c := o) 0 d_Sp_copyFrom_24 rfl rfl rfl ?_
  refine z_aload_n (i := 1) (c := p1) 1 d_Sp_copyFrom_25 rfl rfl rfl ?_
  refine z_geti (c := p1) (kI := 3) d_Sp_copyFrom_26 fd_Sp_highBottom fl_Sp_24 (Or.inl rfl) rfl rfl (ks_Sp_0 hp1) (kl_Sp_0 hp1) ?_
  refine z_puti (c := o) (kI := 3) d_Sp_copyFrom_29 fd_Sp_highBottom fl_Sp_24 pf_Sp_highBottom rfl rfl rfl rfl (ks_Sp_0 ho) (kl_Sp_0 ho) ?_
  refine z_aload_n (i := 0) (c := o) 0 d_Sp_copyFrom_32 rfl rfl rfl ?_
  refine z_aload_n (i := 1) (c := p1) 1 d_Sp_copyFrom_33 rfl rfl rfl ?_
  refine z_geti (c := p1) (kI := 4) d_Sp_copyFrom_34 fd_Sp_deep fl_Sp_27 (Or.inl rfl) rfl rfl (ks_Sp_0 hp1) (kl_Sp_0 hp1) ?_
  refine z_puti (c := o) (kI := 4) d_Sp_copyFrom_37 fd_Sp_deep fl_Sp_27 pf_Sp_deep rfl rfl rfl rfl (ks_Sp_0 ho) (kl_Sp_0 ho) ?_
  exact z_vret d_Sp_copyFrom_40 rfl (by decide) (by decide) ⟨rfl, rfl, h⟩
theorem d_Sp_mirror_0 : decode (z_c m_Sp_mirror) 0 = .ok (.aload_n 0, 1) := by decide +kernel
theorem d_Sp_mirror_1 : decode (z_c m_Sp_mirror) 1 = .ok (.getfield 14, 3) := by decide +kernel
theorem d_Sp_mirror_4 : decode (z_c m_Sp_mirror) 4 = .ok (.istore_n 1, 1) := by decide +kernel
theorem d_Sp_mirror_5 : decode (z_c m_Sp_mirror) 5 = .ok (.aload_n 0, 1) := by decide +kernel
theorem d_Sp_mirror_6 : decode (z_c m_Sp_mirror) 6 = .ok (.getfield 18, 3) := by decide +kernel
theorem d_Sp_mirror_9 : decode (z_c m_Sp_mirror) 9 = .ok (.istore_n 2, 1) := by decide +kernel
theorem d_Sp_mirror_10 : decode (z_c m_Sp_mirror) 10 = .ok (.aload_n 0, 1) := by decide +kernel
theorem d_Sp_mirror_11 : decode (z_c m_Sp_mirror) 11 = .ok (.aload_n 0, 1) := by decide +kernel
theorem d_Sp_mirror_12 : decode (z_c m_Sp_mirror) 12 = .ok (.getfield 24, 3) := by decide +kernel
theorem d_Sp_mirror_15 : decode (z_c m_Sp_mirror) 15 = .ok (.aload_n 0, 1) := by decide +kernel
theorem d_Sp_mirror_16 : decode (z_c m_Sp_mirror) 16 = .ok (.getfield 21, 3) := by decide +kernel
theorem d_Sp_mirror_19 : decode (z_c m_Sp_mirror) 19 = .ok (.isub, 1) := by decide +kernel
theorem d_Sp_mirror_20 : decode (z_c m_Sp_mirror) 20 = .ok (.putfield 14, 3) := by decide +kernel
theorem d_Sp_mirror_23 : decode (z_c m_Sp_mirror) 23 = .ok (.aload_n 0, 1) := by decide +kernel
theorem d_Sp_mirror_24 : decode (z_c m_Sp_mirror) 24 = .ok (.aload_n 0, 1) := by decide +kernel
theorem d_Sp_mirror_25 : decode (z_c m_Sp_mirror) 25 = .ok (.getfield 24, 3) := by decide +kernel
theorem d_Sp_mirror_28 : decode (z_c m_Sp_mirror) 28 = .ok (.putfield 18, 3) := by decide +kernel
theorem d_Sp_mirror_31 : decode (z_c m_Sp_mirror) 31 = .ok (.aload_n 0, 1) := by decide +kernel
theorem d_Sp_mirror_32 : decode (z_c m_Sp_mirror) 32 = .ok (.iload_n 2, 1) := by decide +kernel
theorem d_Sp_mirror_33 : decode (z_c m_Sp_mirror) 33 = .ok (.iload_n 1, 1) := by decide +kernel
theorem d_Sp_mirror_34 : decode (z_c m_Sp_mirror) 34 = .ok (.isub, 1) := by decide +kernel
theorem d_Sp_mirror_35 : decode (z_c m_Sp_mirror) 35 = .ok (.putfield 21, 3) := by decide +kernel
theorem d_Sp_mirror_38 : decode (z_c m_Sp_mirror) 38 = .ok (.aload_n 0, 1) := by decide +kernel
theorem d_Sp_mirror_39 : decode (z_c m_Sp_mirror) 39 = .ok (.iload_n 2, 1) := by decide +kernel
theorem d_Sp_mirror_40 : decode (z_c m_Sp_mirror) 40 = .ok (.putfield 24, 3) := by decide +kernel
theorem d_Sp_mirror_43 : decode (z_c m_Sp_mirror) 43 = .ok (.return_, 1) := by decide +kernel
set_option maxRecDepth 8000 in
theorem b_Sp_mirror_0 {X : z_X} {N : Nat} {σ g : z_G} {Q : z_P} {o : Nat} (ho : z_lay X N σ o z_SSp z_RSp) (h : (-2147483648 ≤ ((g o 3) - (g o 2)) ∧ ((g o 3) - (g o 2)) ≤ 2147483647) ∧ ((-2147483648 ≤ ((g o 1) - (g o 0)) ∧ ((g o 1) - (g o 0)) ≤ 2147483647) ∧ Q 0 (z_up (z_up (z_up (z_up g o 0 ((g o 3) - (g o 2))) o 1 (g o 3)) o 2 ((g o 1) - (g o 0))) o 3 (g o 1)))) : z_O X 1 m_Sp_mirror [(2, ((o : Nat) : Int))] N σ g Q := by
  refine z_Oenter mi_Sp_mirror rfl (fun _ => ?_)
  show z_U X 1 m_Sp_mirror 0 [(0, (2, ((o : Nat) : Int)))] [] N σ g Q
  refine z_aload_n (i := 0) (c := o) 0 d_Sp_mirror_0 rfl rfl rfl ?_
  refine z_geti (c := o) (kI := 0) d_Sp_mirror_1 fd_Sp_lowTop fl_Sp_14 (Or.inl rfl) rfl rfl (ks_Sp_0 ho) (kl_Sp_0 ho) ?_
  refine z_istore_n (i := 1) (ls' := [(1, (0, g o 0)), (0, (2, ((o : Nat) : Int)))]) d_Sp_mirror_4 rfl rfl rfl ?_
  refine z_aload_n (i := 0) (c := o) 1 d_Sp_mirror_5 rfl rfl rfl ?_
  refine z_geti (c := o) (kI := 1) d_Sp_mirror_6 fd_Sp_lowBottom fl_Sp_18 (Or.inl rfl) rfl rfl (ks_Sp_0 ho) (kl_Sp_0 ho) ?_
  refine z_istore_n (i := 2) (ls' := [(2, (0, g o 1)), (1, (0, g o 0)), (0, (2, ((o : Nat) : Int)))]) d_Sp_mirror_9 rfl rfl rfl ?_
  refine z_aload_n (i := 0) (c := o) 2 d_Sp_mirror_10 rfl rfl rfl ?_
  refine z_aload_n (i := 0) (c := o) 2 d_Sp_mirror_11 rfl rfl rfl ?_
  refine z_geti (c := o) (kI := 3) d_Sp_mirror_12 fd_Sp_highBottom fl_Sp_24 (Or.inl rfl) rfl rfl (ks_Sp_0 ho) (kl_Sp_0 ho) ?_
  refine z_aload_n (i := 0) (c := o) 2 d_Sp_mirror_15 rfl rfl rfl ?_
  refine z_geti (c := o) (kI := 2) d_Sp_mirror_16 fd_Sp_highTop fl_Sp_21 (Or.inl rfl) rfl rfl (ks_Sp_0 ho) (kl_Sp_0 ho) ?_
  obtain ⟨c1, h⟩ := h
  refine z_isub d_Sp_mirror_19 c1 ?_
  refine z_puti (c := o) (kI := 0) d_Sp_mirror_20 fd_Sp_lowTop fl_Sp_14 pf_Sp_lowTop rfl rfl rfl rfl (ks_Sp_0 ho) (kl_Sp_0 ho) ?_
  refine z_aload_n (i := 0) (c := o) 2 d_Sp_mirror_23 rfl rfl rfl ?_
  refine z_aload_n (i := 0) (c := o) 2 d_Sp_mirror_24 rfl rfl rfl ?_
  refine z_geti (c := o) (kI := 3) d_Sp_mirror_25 fd_Sp_highBottom fl_Sp_24 (Or.inl rfl) rfl rfl (ks_Sp_0 ho) (kl_Sp_0 ho) ?_
  refine z_ti (b := g o 3) (by simp [z_up]) ?_
  refine z_puti (c := o) (kI := 1) d_Sp_mirror_28 fd_Sp_lowBottom fl_Sp_18 pf_Sp_lowBottom rfl rfl rfl rfl (ks_Sp_0 ho) (kl_Sp_0 ho) ?_
  refine z_aload_n (i := 0) (c := o) 2 d_Sp_mirror_31 rfl rfl rfl ?_
  refine z_iload_n (i := 2) 0 d_Sp_mirror_32 rfl rfl ?_
  refine z_iload_n (i := 1) 1 d_Sp_mirror_33 rfl rfl ?_
  obtain ⟨c2, h⟩ := h
  refine z_isub d_Sp_mirror_34 c2 ?_
  refine z_puti (c := o) (kI := 2) d_Sp_mirror_35 fd_Sp_highTop fl_Sp_21 pf_Sp_highTop rfl rfl rfl rfl (ks_Sp_0 ho) (kl_Sp_0 ho) ?_
  refine z_aload_n (i := 0) (c := o) 2 d_Sp_mirror_38 rfl rfl rfl ?_
  refine z_iload_n (i := 2) 0 d_Sp_mirror_39 rfl rfl ?_
  refine z_puti (c := o) (kI := 3) d_Sp_mirror_40 fd_Sp_highBottom fl_Sp_24 pf_Sp_highBottom rfl rfl rfl rfl (ks_Sp_0 ho) (kl_Sp_0 ho) ?_
  exact z_vret d_Sp_mirror_43 rfl (by decide) (by decide) ⟨rfl, rfl, h⟩
theorem d_Sp_ownBottom_0 : decode (z_c m_Sp_ownBottom) 0 = .ok (.aload_n 0, 1) := by decide +kernel
theorem d_Sp_ownBottom_1 : decode (z_c m_Sp_ownBottom) 1 = .ok (.getfield 18, 3) := by decide +kernel
theorem d_Sp_ownBottom_4 : decode (z_c m_Sp_ownBottom) 4 = .ok (.aload_n 0, 1) := by decide +kernel
theorem d_Sp_ownBottom_5 : decode (z_c m_Sp_ownBottom) 5 = .ok (.getfield 24, 3) := by decide +kernel
theorem d_Sp_ownBottom_8 : decode (z_c m_Sp_ownBottom) 8 = .ok (.iadd, 1) := by decide +kernel
theorem d_Sp_ownBottom_9 : decode (z_c m_Sp_ownBottom) 9 = .ok (.ireturn, 1) := by decide +kernel
set_option maxRecDepth 8000 in
theorem b_Sp_ownBottom_0 {X : z_X} {N : Nat} {σ g : z_G} {Q : z_P} {o : Nat} (ho : z_lay X N σ o z_SSp z_RSp) (h : (-2147483648 ≤ ((g o 1) + (g o 3)) ∧ ((g o 1) + (g o 3)) ≤ 2147483647) ∧ Q ((g o 1) + (g o 3)) g) : z_O X 1 m_Sp_ownBottom [(2, ((o : Nat) : Int))] N σ g Q := by
  refine z_Oenter mi_Sp_ownBottom rfl (fun _ => ?_)
  show z_U X 1 m_Sp_ownBottom 0 [(0, (2, ((o : Nat) : Int)))] [] N σ g Q
  refine z_aload_n (i := 0) (c := o) 0 d_Sp_ownBottom_0 rfl rfl rfl ?_
  refine z_geti (c := o) (kI := 1) d_Sp_ownBottom_1 fd_Sp_lowBottom fl_Sp_18 (Or.inl rfl) rfl rfl (ks_Sp_0 ho) (kl_Sp_0 ho) ?_
  refine z_aload_n (i := 0) (c := o) 0 d_Sp_ownBottom_4 rfl rfl rfl ?_
  refine z_geti (c := o) (kI := 3) d_Sp_ownBottom_5 fd_Sp_highBottom fl_Sp_24 (Or.inl rfl) rfl rfl (ks_Sp_0 ho) (kl_Sp_0 ho) ?_
  obtain ⟨c1, h⟩ := h
  refine z_iadd d_Sp_ownBottom_8 c1 ?_
  exact z_iret d_Sp_ownBottom_9 rfl (by decide) (by decide) ⟨rfl, rfl, h⟩
theorem d_Sp_ownTop_0 : decode (z_c m_Sp_ownTop) 0 = .ok (.aload_n 0, 1) := by decide +kernel
theorem d_Sp_ownTop_1 : decode (z_c m_Sp_ownTop) 1 = .ok (.getfield 14, 3) := by decide +kernel
theorem d_Sp_ownTop_4 : decode (z_c m_Sp_ownTop) 4 = .ok (.aload_n 0, 1) := by decide +kernel
theorem d_Sp_ownTop_5 : decode (z_c m_Sp_ownTop) 5 = .ok (.getfield 21, 3) := by decide +kernel
theorem d_Sp_ownTop_8 : decode (z_c m_Sp_ownTop) 8 = .ok (.iadd, 1) := by decide +kernel
theorem d_Sp_ownTop_9 : decode (z_c m_Sp_ownTop) 9 = .ok (.ireturn, 1) := by decide +kernel
set_option maxRecDepth 8000 in
theorem b_Sp_ownTop_0 {X : z_X} {N : Nat} {σ g : z_G} {Q : z_P} {o : Nat} (ho : z_lay X N σ o z_SSp z_RSp) (h : (-2147483648 ≤ ((g o 0) + (g o 2)) ∧ ((g o 0) + (g o 2)) ≤ 2147483647) ∧ Q ((g o 0) + (g o 2)) g) : z_O X 1 m_Sp_ownTop [(2, ((o : Nat) : Int))] N σ g Q := by
  refine z_Oenter mi_Sp_ownTop rfl (fun _ => ?_)
  show z_U X 1 m_Sp_ownTop 0 [(0, (2, ((o : Nat) : Int)))] [] N σ g Q
  refine z_aload_n (i := 0) (c := o) 0 d_Sp_ownTop_0 rfl rfl rfl ?_
  refine z_geti (c := o) (kI := 0) d_Sp_ownTop_1 fd_Sp_lowTop fl_Sp_14 (Or.inl rfl) rfl rfl (ks_Sp_0 ho) (kl_Sp_0 ho) ?_
  refine z_aload_n (i := 0) (c := o) 0 d_Sp_ownTop_4 rfl rfl rfl ?_
  refine z_geti (c := o) (kI := 2) d_Sp_ownTop_5 fd_Sp_highTop fl_Sp_21 (Or.inl rfl) rfl rfl (ks_Sp_0 ho) (kl_Sp_0 ho) ?_
  obtain ⟨c1, h⟩ := h
  refine z_iadd d_Sp_ownTop_8 c1 ?_
  exact z_iret d_Sp_ownTop_9 rfl (by decide) (by decide) ⟨rfl, rfl, h⟩
theorem d_Sp_toRoot_0 : decode (z_c m_Sp_toRoot) 0 = .ok (.aload_n 0, 1) := by decide +kernel
theorem d_Sp_toRoot_1 : decode (z_c m_Sp_toRoot) 1 = .ok (.iconst 0, 1) := by decide +kernel
theorem d_Sp_toRoot_2 : decode (z_c m_Sp_toRoot) 2 = .ok (.putfield 14, 3) := by decide +kernel
theorem d_Sp_toRoot_5 : decode (z_c m_Sp_toRoot) 5 = .ok (.aload_n 0, 1) := by decide +kernel
theorem d_Sp_toRoot_6 : decode (z_c m_Sp_toRoot) 6 = .ok (.iconst 1, 1) := by decide +kernel
theorem d_Sp_toRoot_7 : decode (z_c m_Sp_toRoot) 7 = .ok (.putfield 18, 3) := by decide +kernel
theorem d_Sp_toRoot_10 : decode (z_c m_Sp_toRoot) 10 = .ok (.aload_n 0, 1) := by decide +kernel
theorem d_Sp_toRoot_11 : decode (z_c m_Sp_toRoot) 11 = .ok (.iconst 1, 1) := by decide +kernel
theorem d_Sp_toRoot_12 : decode (z_c m_Sp_toRoot) 12 = .ok (.putfield 21, 3) := by decide +kernel
theorem d_Sp_toRoot_15 : decode (z_c m_Sp_toRoot) 15 = .ok (.aload_n 0, 1) := by decide +kernel
theorem d_Sp_toRoot_16 : decode (z_c m_Sp_toRoot) 16 = .ok (.iconst 1, 1) := by decide +kernel
theorem d_Sp_toRoot_17 : decode (z_c m_Sp_toRoot) 17 = .ok (.putfield 24, 3) := by decide +kernel
theorem d_Sp_toRoot_20 : decode (z_c m_Sp_toRoot) 20 = .ok (.aload_n 0, 1) := by decide +kernel
theorem d_Sp_toRoot_21 : decode (z_c m_Sp_toRoot) 21 = .ok (.iconst 0, 1) := by decide +kernel
theorem d_Sp_toRoot_22 : decode (z_c m_Sp_toRoot) 22 = .ok (.putfield 27, 3) := by decide +kernel
theorem d_Sp_toRoot_25 : decode (z_c m_Sp_toRoot) 25 = .ok (.return_, 1) := by decide +kernel
set_option maxRecDepth 8000 in
theorem b_Sp_toRoot_0 {X : z_X} {N : Nat} {σ g : z_G} {Q : z_P} {o : Nat} (ho : z_lay X N σ o z_SSp z_RSp) (h : Q 0 (z_up (z_up (z_up (z_up (z_up g o 0 0) o 1 1) o 2 1) o 3 1) o 4 0)) : z_O X 1 m_Sp_toRoot [(2, ((o : Nat) : Int))] N σ g Q := by
  refine z_Oenter mi_Sp_toRoot rfl (fun _ => ?_)
  show z_U X 1 m_Sp_toRoot 0 [(0, (2, ((o : Nat) : Int)))] [] N σ g Q
  refine z_aload_n (i := 0) (c := o) 0 d_Sp_toRoot_0 rfl rfl rfl ?_
  refine z_iconst (n := 0) d_Sp_toRoot_1 (by decide) ?_
  refine z_puti (c := o) (kI := 0) d_Sp_toRoot_2 fd_Sp_lowTop fl_Sp_14 pf_Sp_lowTop rfl rfl rfl rfl (ks_Sp_0 ho) (kl_Sp_0 ho) ?_
  refine z_aload_n (i := 0) (c := o) 0 d_Sp_toRoot_5 rfl rfl rfl ?_
  refine z_iconst (n := 1) d_Sp_toRoot_6 (by decide) ?_
  refine z_puti (c := o) (kI := 1) d_Sp_toRoot_7 fd_Sp_lowBottom fl_Sp_18 pf_Sp_lowBottom rfl rfl rfl rfl (ks_Sp_0 ho) (kl_Sp_0 ho) ?_
  refine z_aload_n (i := 0) (c := o) 0 d_Sp_toRoot_10 rfl rfl rfl ?_
  refine z_iconst (n := 1) d_Sp_toRoot_11 (by decide) ?_
  refine z_puti (c := o) (kI := 2) d_Sp_toRoot_12 fd_Sp_highTop fl_Sp_21 pf_Sp_highTop rfl rfl rfl rfl (ks_Sp_0 ho) (kl_Sp_0 ho) ?_
  refine z_aload_n (i := 0) (c := o) 0 d_Sp_toRoot_15 rfl rfl rfl ?_
  refine z_iconst (n := 1) d_Sp_toRoot_16 (by decide) ?_
  refine z_puti (c := o) (kI := 3) d_Sp_toRoot_17 fd_Sp_highBottom fl_Sp_24 pf_Sp_highBottom rfl rfl rfl rfl (ks_Sp_0 ho) (kl_Sp_0 ho) ?_
  refine z_aload_n (i := 0) (c := o) 0 d_Sp_toRoot_20 rfl rfl rfl ?_
  refine z_iconst (n := 0) d_Sp_toRoot_21 (by decide) ?_
  refine z_puti (c := o) (kI := 4) d_Sp_toRoot_22 fd_Sp_deep fl_Sp_27 pf_Sp_deep rfl rfl rfl rfl (ks_Sp_0 ho) (kl_Sp_0 ho) ?_
  exact z_vret d_Sp_toRoot_25 rfl (by decide) (by decide) ⟨rfl, rfl, h⟩
theorem d_Ta_fail_0 : decode (z_c m_Ta_fail) 0 = .ok (.aload_n 0, 1) := by decide +kernel
theorem d_Ta_fail_1 : decode (z_c m_Ta_fail) 1 = .ok (.iload_n 1, 1) := by decide +kernel
theorem d_Ta_fail_2 : decode (z_c m_Ta_fail) 2 = .ok (.putfield 34, 3) := by decide +kernel
theorem d_Ta_fail_5 : decode (z_c m_Ta_fail) 5 = .ok (.aload_n 0, 1) := by decide +kernel
theorem d_Ta_fail_6 : decode (z_c m_Ta_fail) 6 = .ok (.iload_n 2, 1) := by decide +kernel
theorem d_Ta_fail_7 : decode (z_c m_Ta_fail) 7 = .ok (.putfield 37, 3) := by decide +kernel
theorem d_Ta_fail_10 : decode (z_c m_Ta_fail) 10 = .ok (.iconst 0, 1) := by decide +kernel
theorem d_Ta_fail_11 : decode (z_c m_Ta_fail) 11 = .ok (.ireturn, 1) := by decide +kernel
set_option maxRecDepth 8000 in
theorem b_Ta_fail_0 {X : z_X} {N : Nat} {σ g : z_G} {Q : z_P} {a1 a2 : Int} (hx : z_lay X N σ 0 z_SF z_RF) (h : Q 0 (z_up (z_up g 10 9 a1) 10 10 a2)) : z_O X 1 m_Ta_fail [(2, 10), (0, a1), (0, a2)] N σ g Q := by
  refine z_Oenter mi_Ta_fail rfl (fun _ => ?_)
  show z_U X 1 m_Ta_fail 0 [(0, (2, 10)), (1, (0, a1)), (2, (0, a2))] [] N σ g Q
  refine z_aload_n (i := 0) (c := 10) 0 d_Ta_fail_0 rfl rfl rfl ?_
  refine z_iload_n (i := 1) 1 d_Ta_fail_1 rfl rfl ?_
  refine z_puti (c := 10) (kI := 9) d_Ta_fail_2 fd_Ta_faultKind fl_Ta_34 pf_Ta_faultKind rfl rfl rfl rfl (ks_F_10 hx) (kl_F_10 hx) ?_
  refine z_aload_n (i := 0) (c := 10) 0 d_Ta_fail_5 rfl rfl rfl ?_
  refine z_iload_n (i := 2) 2 d_Ta_fail_6 rfl rfl ?_
  refine z_puti (c := 10) (kI := 10) d_Ta_fail_7 fd_Ta_faultPlace fl_Ta_37 pf_Ta_faultPlace rfl rfl rfl rfl (ks_F_10 hx) (kl_F_10 hx) ?_
  refine z_iconst (n := 0) d_Ta_fail_10 (by decide) ?_
  exact z_zret d_Ta_fail_11 rfl (by decide) (by decide) (by decide) ⟨rfl, rfl, h⟩
theorem d_Ta_isEnded_0 : decode (z_c m_Ta_isEnded) 0 = .ok (.aload_n 0, 1) := by decide +kernel
theorem d_Ta_isEnded_1 : decode (z_c m_Ta_isEnded) 1 = .ok (.getfield 50, 3) := by decide +kernel
theorem d_Ta_isEnded_4 : decode (z_c m_Ta_isEnded) 4 = .ok (.ifCond .ne 7, 3) := by decide +kernel
theorem d_Ta_isEnded_7 : decode (z_c m_Ta_isEnded) 7 = .ok (.iconst 1, 1) := by decide +kernel
theorem d_Ta_isEnded_8 : decode (z_c m_Ta_isEnded) 8 = .ok (.goto 4, 3) := by decide +kernel
theorem d_Ta_isEnded_11 : decode (z_c m_Ta_isEnded) 11 = .ok (.iconst 0, 1) := by decide +kernel
theorem d_Ta_isEnded_12 : decode (z_c m_Ta_isEnded) 12 = .ok (.ireturn, 1) := by decide +kernel
set_option maxRecDepth 8000 in
theorem b_Ta_isEnded_0 {X : z_X} {N : Nat} {σ g : z_G} {Q : z_P} (hx : z_lay X N σ 0 z_SF z_RF) (h : (((g 10 4) = 0) → Q 1 g) ∧ (¬ ((g 10 4) = 0) → Q 0 g)) : z_O X 1 m_Ta_isEnded [(2, 10)] N σ g Q := by
  refine z_Oenter mi_Ta_isEnded rfl (fun _ => ?_)
  show z_U X 1 m_Ta_isEnded 0 [(0, (2, 10))] [] N σ g Q
  refine z_aload_n (i := 0) (c := 10) 0 d_Ta_isEnded_0 rfl rfl rfl ?_
  refine z_geti (c := 10) (kI := 4) d_Ta_isEnded_1 fd_Ta_kind fl_Ta_50 (Or.inl rfl) rfl rfl (ks_F_10 hx) (kl_F_10 hx) ?_
  refine z_if_ne (tgt := 11) d_Ta_isEnded_4 (by decide) (fun c1 => ?_) (fun c1 => ?_)
  · have h := h.2 c1
    refine z_iconst (n := 0) d_Ta_isEnded_11 (by decide) ?_
    exact z_zret d_Ta_isEnded_12 rfl (by decide) (by decide) (by decide) ⟨rfl, rfl, h⟩
  · have h := h.1 c1
    refine z_iconst (n := 1) d_Ta_isEnded_7 (by decide) ?_
    refine z_goto (tgt := 12) d_Ta_isEnded_8 (by decide) ?_
    exact z_zret d_Ta_isEnded_12 rfl (by decide) (by decide) (by decide) ⟨rfl, rfl, h⟩
theorem d_Ta_isThisSign_0 : decode (z_c m_Ta_isThisSign) 0 = .ok (.aload_n 0, 1) := by decide +kernel
theorem d_Ta_isThisSign_1 : decode (z_c m_Ta_isThisSign) 1 = .ok (.getfield 50, 3) := by decide +kernel
theorem d_Ta_isThisSign_4 : decode (z_c m_Ta_isThisSign) 4 = .ok (.iconst 3, 1) := by decide +kernel
theorem d_Ta_isThisSign_5 : decode (z_c m_Ta_isThisSign) 5 = .ok (.if_icmp .ne 32, 3) := by decide +kernel
theorem d_Ta_isThisSign_8 : decode (z_c m_Ta_isThisSign) 8 = .ok (.aload_n 0, 1) := by decide +kernel
theorem d_Ta_isThisSign_9 : decode (z_c m_Ta_isThisSign) 9 = .ok (.getfield 43, 3) := by decide +kernel
theorem d_Ta_isThisSign_12 : decode (z_c m_Ta_isThisSign) 12 = .ok (.aload_n 0, 1) := by decide +kernel
theorem d_Ta_isThisSign_13 : decode (z_c m_Ta_isThisSign) 13 = .ok (.getfield 9, 3) := by decide +kernel
theorem d_Ta_isThisSign_16 : decode (z_c m_Ta_isThisSign) 16 = .ok (.arraylength, 1) := by decide +kernel
theorem d_Ta_isThisSign_17 : decode (z_c m_Ta_isThisSign) 17 = .ok (.if_icmp .ge 20, 3) := by decide +kernel
theorem d_Ta_isThisSign_20 : decode (z_c m_Ta_isThisSign) 20 = .ok (.aload_n 0, 1) := by decide +kernel
theorem d_Ta_isThisSign_21 : decode (z_c m_Ta_isThisSign) 21 = .ok (.getfield 9, 3) := by decide +kernel
theorem d_Ta_isThisSign_24 : decode (z_c m_Ta_isThisSign) 24 = .ok (.aload_n 0, 1) := by decide +kernel
theorem d_Ta_isThisSign_25 : decode (z_c m_Ta_isThisSign) 25 = .ok (.getfield 43, 3) := by decide +kernel
theorem d_Ta_isThisSign_28 : decode (z_c m_Ta_isThisSign) 28 = .ok (.caload, 1) := by decide +kernel
theorem d_Ta_isThisSign_29 : decode (z_c m_Ta_isThisSign) 29 = .ok (.iload_n 1, 1) := by decide +kernel
theorem d_Ta_isThisSign_30 : decode (z_c m_Ta_isThisSign) 30 = .ok (.if_icmp .ne 7, 3) := by decide +kernel
theorem d_Ta_isThisSign_33 : decode (z_c m_Ta_isThisSign) 33 = .ok (.iconst 1, 1) := by decide +kernel
theorem d_Ta_isThisSign_34 : decode (z_c m_Ta_isThisSign) 34 = .ok (.goto 4, 3) := by decide +kernel
theorem d_Ta_isThisSign_37 : decode (z_c m_Ta_isThisSign) 37 = .ok (.iconst 0, 1) := by decide +kernel
theorem d_Ta_isThisSign_38 : decode (z_c m_Ta_isThisSign) 38 = .ok (.ireturn, 1) := by decide +kernel
set_option maxRecDepth 8000 in
theorem b_Ta_isThisSign_0 {X : z_X} {N : Nat} {σ g : z_G} {Q : z_P} {a1 : Int} (hx : z_lay X N σ 0 z_SF z_RF) (h : (((g 10 4) = 3) → (((900 ≤ (g 10 6)) → Q 0 g) ∧ (¬ (900 ≤ (g 10 6)) → ((0 ≤ (g 10 6) ∧ (g 10 6) < 900) ∧ ((((g 11 (g 10 6)) = a1) → Q 1 g) ∧ (¬ ((g 11 (g 10 6)) = a1) → Q 0 g)))))) ∧ (¬ ((g 10 4) = 3) → Q 0 g)) : z_O X 1 m_Ta_isThisSign [(2, 10), (0, a1)] N σ g Q := by
  refine z_Oenter mi_Ta_isThisSign rfl (fun _ => ?_)
  show z_U X 1 m_Ta_isThisSign 0 [(0, (2, 10)), (1, (0, a1))] [] N σ g Q
  refine z_aload_n (i := 0) (c := 10) 0 d_Ta_isThisSign_0 rfl rfl rfl ?_
  refine z_geti (c := 10) (kI := 4) d_Ta_isThisSign_1 fd_Ta_kind fl_Ta_50 (Or.inl rfl) rfl rfl (ks_F_10 hx) (kl_F_10 hx) ?_
  refine z_iconst (n := 3) d_Ta_isThisSign_4 (by decide) ?_
  refine z_icmp_ne (tgt := 37) d_Ta_isThisSign_5 (by decide) (fun c1 => ?_) (fun c1 => ?_)
  · have h := h.2 c1
    refine z_iconst (n := 0) d_Ta_isThisSign_37 (by decide) ?_
    exact z_zret d_Ta_isThisSign_38 rfl (by decide) (by decide) (by decide) ⟨rfl, rfl, h⟩
  · have h := h.1 c1
    refine z_aload_n (i := 0) (c := 10) 0 d_Ta_isThisSign_8 rfl rfl rfl ?_
    refine z_geti (c := 10) (kI := 6) d_Ta_isThisSign_9 fd_Ta_at fl_Ta_43 (Or.inl rfl) rfl rfl (ks_F_10 hx) (kl_F_10 hx) ?_
    refine z_aload_n (i := 0) (c := 10) 0 d_Ta_isThisSign_12 rfl rfl rfl ?_
    refine z_getr (c := 10) (kI := 0) (r2 := 11) d_Ta_isThisSign_13 fd_Ta_text fl_Ta_9 rfl rfl rfl (ks_F_10 hx) (kl_F_10 hx) (kr_F_10_0 hx) ?_
    refine z_alen (c := 11) (m := 900) (cA := z_A X 3) d_Ta_isThisSign_16 rfl (ks_F_11 hx) (kl_F_11 hx) rfl (by decide) rfl ?_
    refine z_icmp_ge (tgt := 37) d_Ta_isThisSign_17 (by decide) (fun c2 => ?_) (fun c2 => ?_)
    · have h := h.1 c2
      refine z_iconst (n := 0) d_Ta_isThisSign_37 (by decide) ?_
      exact z_zret d_Ta_isThisSign_38 rfl (by decide) (by decide) (by decide) ⟨rfl, rfl, h⟩
    · have h := h.2 c2
      refine z_aload_n (i := 0) (c := 10) 0 d_Ta_isThisSign_20 rfl rfl rfl ?_
      refine z_getr (c := 10) (kI := 0) (r2 := 11) d_Ta_isThisSign_21 fd_Ta_text fl_Ta_9 rfl rfl rfl (ks_F_10 hx) (kl_F_10 hx) (kr_F_10_0 hx) ?_
      refine z_aload_n (i := 0) (c := 10) 0 d_Ta_isThisSign_24 rfl rfl rfl ?_
      refine z_geti (c := 10) (kI := 6) d_Ta_isThisSign_25 fd_Ta_at fl_Ta_43 (Or.inl rfl) rfl rfl (ks_F_10 hx) (kl_F_10 hx) ?_
      obtain ⟨c3, h⟩ := h
      refine z_cald (c := 11) (m := 900) d_Ta_isThisSign_28 rfl (ks_F_11 hx) (kl_F_11 hx) rfl (by decide) c3 ?_
      refine z_iload_n (i := 1) 1 d_Ta_isThisSign_29 rfl rfl ?_
      refine z_icmp_ne (tgt := 37) d_Ta_isThisSign_30 (by decide) (fun c4 => ?_) (fun c4 => ?_)
      · have h := h.2 c4
        refine z_iconst (n := 0) d_Ta_isThisSign_37 (by decide) ?_
        exact z_zret d_Ta_isThisSign_38 rfl (by decide) (by decide) (by decide) ⟨rfl, rfl, h⟩
      · have h := h.1 c4
        refine z_iconst (n := 1) d_Ta_isThisSign_33 (by decide) ?_
        refine z_goto (tgt := 38) d_Ta_isThisSign_34 (by decide) ?_
        exact z_zret d_Ta_isThisSign_38 rfl (by decide) (by decide) (by decide) ⟨rfl, rfl, h⟩
theorem d_Ta_sortOfSign_0 : decode (z_c m_Ta_sortOfSign) 0 = .ok (.iload_n 0, 1) := by decide +kernel
theorem d_Ta_sortOfSign_1 : decode (z_c m_Ta_sortOfSign) 1 = .ok (.bipush 97, 2) := by decide +kernel
theorem d_Ta_sortOfSign_3 : decode (z_c m_Ta_sortOfSign) 3 = .ok (.if_icmp .lt 11, 3) := by decide +kernel
theorem d_Ta_sortOfSign_6 : decode (z_c m_Ta_sortOfSign) 6 = .ok (.iload_n 0, 1) := by decide +kernel
theorem d_Ta_sortOfSign_7 : decode (z_c m_Ta_sortOfSign) 7 = .ok (.bipush 122, 2) := by decide +kernel
theorem d_Ta_sortOfSign_9 : decode (z_c m_Ta_sortOfSign) 9 = .ok (.if_icmp .gt 5, 3) := by decide +kernel
theorem d_Ta_sortOfSign_12 : decode (z_c m_Ta_sortOfSign) 12 = .ok (.iconst 1, 1) := by decide +kernel
theorem d_Ta_sortOfSign_13 : decode (z_c m_Ta_sortOfSign) 13 = .ok (.ireturn, 1) := by decide +kernel
theorem d_Ta_sortOfSign_14 : decode (z_c m_Ta_sortOfSign) 14 = .ok (.iload_n 0, 1) := by decide +kernel
theorem d_Ta_sortOfSign_15 : decode (z_c m_Ta_sortOfSign) 15 = .ok (.bipush 48, 2) := by decide +kernel
theorem d_Ta_sortOfSign_17 : decode (z_c m_Ta_sortOfSign) 17 = .ok (.if_icmp .lt 11, 3) := by decide +kernel
theorem d_Ta_sortOfSign_20 : decode (z_c m_Ta_sortOfSign) 20 = .ok (.iload_n 0, 1) := by decide +kernel
theorem d_Ta_sortOfSign_21 : decode (z_c m_Ta_sortOfSign) 21 = .ok (.bipush 57, 2) := by decide +kernel
theorem d_Ta_sortOfSign_23 : decode (z_c m_Ta_sortOfSign) 23 = .ok (.if_icmp .gt 5, 3) := by decide +kernel
theorem d_Ta_sortOfSign_26 : decode (z_c m_Ta_sortOfSign) 26 = .ok (.iconst 2, 1) := by decide +kernel
theorem d_Ta_sortOfSign_27 : decode (z_c m_Ta_sortOfSign) 27 = .ok (.ireturn, 1) := by decide +kernel
theorem d_Ta_sortOfSign_28 : decode (z_c m_Ta_sortOfSign) 28 = .ok (.iload_n 0, 1) := by decide +kernel
theorem d_Ta_sortOfSign_29 : decode (z_c m_Ta_sortOfSign) 29 = .ok (.bipush 59, 2) := by decide +kernel
theorem d_Ta_sortOfSign_31 : decode (z_c m_Ta_sortOfSign) 31 = .ok (.if_icmp .eq 21, 3) := by decide +kernel
theorem d_Ta_sortOfSign_34 : decode (z_c m_Ta_sortOfSign) 34 = .ok (.iload_n 0, 1) := by decide +kernel
theorem d_Ta_sortOfSign_35 : decode (z_c m_Ta_sortOfSign) 35 = .ok (.bipush 60, 2) := by decide +kernel
theorem d_Ta_sortOfSign_37 : decode (z_c m_Ta_sortOfSign) 37 = .ok (.if_icmp .eq 15, 3) := by decide +kernel
theorem d_Ta_sortOfSign_40 : decode (z_c m_Ta_sortOfSign) 40 = .ok (.iload_n 0, 1) := by decide +kernel
theorem d_Ta_sortOfSign_41 : decode (z_c m_Ta_sortOfSign) 41 = .ok (.bipush 62, 2) := by decide +kernel
theorem d_Ta_sortOfSign_43 : decode (z_c m_Ta_sortOfSign) 43 = .ok (.if_icmp .eq 9, 3) := by decide +kernel
theorem d_Ta_sortOfSign_46 : decode (z_c m_Ta_sortOfSign) 46 = .ok (.iload_n 0, 1) := by decide +kernel
theorem d_Ta_sortOfSign_47 : decode (z_c m_Ta_sortOfSign) 47 = .ok (.bipush 61, 2) := by decide +kernel
theorem d_Ta_sortOfSign_49 : decode (z_c m_Ta_sortOfSign) 49 = .ok (.if_icmp .ne 5, 3) := by decide +kernel
theorem d_Ta_sortOfSign_52 : decode (z_c m_Ta_sortOfSign) 52 = .ok (.iconst 3, 1) := by decide +kernel
theorem d_Ta_sortOfSign_53 : decode (z_c m_Ta_sortOfSign) 53 = .ok (.ireturn, 1) := by decide +kernel
theorem d_Ta_sortOfSign_54 : decode (z_c m_Ta_sortOfSign) 54 = .ok (.iload_n 0, 1) := by decide +kernel
theorem d_Ta_sortOfSign_55 : decode (z_c m_Ta_sortOfSign) 55 = .ok (.bipush 10, 2) := by decide +kernel
theorem d_Ta_sortOfSign_57 : decode (z_c m_Ta_sortOfSign) 57 = .ok (.if_icmp .eq 9, 3) := by decide +kernel
theorem d_Ta_sortOfSign_60 : decode (z_c m_Ta_sortOfSign) 60 = .ok (.iload_n 0, 1) := by decide +kernel
theorem d_Ta_sortOfSign_61 : decode (z_c m_Ta_sortOfSign) 61 = .ok (.bipush 32, 2) := by decide +kernel
theorem d_Ta_sortOfSign_63 : decode (z_c m_Ta_sortOfSign) 63 = .ok (.if_icmp .ne 7, 3) := by decide +kernel
theorem d_Ta_sortOfSign_66 : decode (z_c m_Ta_sortOfSign) 66 = .ok (.iconst 5, 1) := by decide +kernel
theorem d_Ta_sortOfSign_67 : decode (z_c m_Ta_sortOfSign) 67 = .ok (.goto 4, 3) := by decide +kernel
theorem d_Ta_sortOfSign_70 : decode (z_c m_Ta_sortOfSign) 70 = .ok (.iconst 4, 1) := by decide +kernel
theorem d_Ta_sortOfSign_71 : decode (z_c m_Ta_sortOfSign) 71 = .ok (.ireturn, 1) := by decide +kernel
set_option maxRecDepth 8000 in
theorem b_Ta_sortOfSign_0 {X : z_X} {N : Nat} {σ g : z_G} {Q : z_P} {a0 : Int} (h : ((a0 < 97) → (((a0 < 48) → (((a0 = 59) → Q 3 g) ∧ (¬ (a0 = 59) → (((a0 = 60) → Q 3 g) ∧ (¬ (a0 = 60) → (((a0 = 62) → Q 3 g) ∧ (¬ (a0 = 62) → (((a0 = 61) → Q 3 g) ∧ (¬ (a0 = 61) → (((a0 = 10) → Q 5 g) ∧ (¬ (a0 = 10) → (((a0 = 32) → Q 5 g) ∧ (¬ (a0 = 32) → Q 4 g))))))))))))) ∧ (¬ (a0 < 48) → (((57 < a0) → (((a0 = 59) → Q 3 g) ∧ (¬ (a0 = 59) → (((a0 = 60) → Q 3 g) ∧ (¬ (a0 = 60) → (((a0 = 62) → Q 3 g) ∧ (¬ (a0 = 62) → (((a0 = 61) → Q 3 g) ∧ (¬ (a0 = 61) → (((a0 = 10) → Q 5 g) ∧ (¬ (a0 = 10) → (((a0 = 32) → Q 5 g) ∧ (¬ (a0 = 32) → Q 4 g))))))))))))) ∧ (¬ (57 < a0) → Q 2 g))))) ∧ (¬ (a0 < 97) → (((122 < a0) → (((a0 < 48) → (((a0 = 59) → Q 3 g) ∧ (¬ (a0 = 59) → (((a0 = 60) → Q 3 g) ∧ (¬ (a0 = 60) → (((a0 = 62) → Q 3 g) ∧ (¬ (a0 = 62) → (((a0 = 61) → Q 3 g) ∧ (¬ (a0 = 61) → (((a0 = 10) → Q 5 g) ∧ (¬ (a0 = 10) → (((a0 = 32) → Q 5 g) ∧ (¬ (a0 = 32) → Q 4 g))))))))))))) ∧ (¬ (a0 < 48) → (((57 < a0) → (((a0 = 59) → Q 3 g) ∧ (¬ (a0 = 59) → (((a0 = 60) → Q 3 g) ∧ (¬ (a0 = 60) → (((a0 = 62) → Q 3 g) ∧ (¬ (a0 = 62) → (((a0 = 61) → Q 3 g) ∧ (¬ (a0 = 61) → (((a0 = 10) → Q 5 g) ∧ (¬ (a0 = 10) → (((a0 = 32) → Q 5 g) ∧ (¬ (a0 = 32) → Q 4 g))))))))))))) ∧ (¬ (57 < a0) → Q 2 g))))) ∧ (¬ (122 < a0) → Q 1 g)))) : z_O X 1 m_Ta_sortOfSign [(0, a0)] N σ g Q := by
  refine z_Oenter mi_Ta_sortOfSign rfl (fun _ => ?_)
  show z_U X 1 m_Ta_sortOfSign 0 [(0, (0, a0))] [] N σ g Q
  refine z_iload_n (i := 0) 0 d_Ta_sortOfSign_0 rfl rfl ?_
  refine z_bipush (n := 97) d_Ta_sortOfSign_1 (by decide) (by decide) ?_
  refine z_icmp_lt (tgt := 14) d_Ta_sortOfSign_3 (by decide) (fun c1 => ?_) (fun c1 => ?_)
  · have h := h.1 c1
    refine z_iload_n (i := 0) 0 d_Ta_sortOfSign_14 rfl rfl ?_
    refine z_bipush (n := 48) d_Ta_sortOfSign_15 (by decide) (by decide) ?_
    refine z_icmp_lt (tgt := 28) d_Ta_sortOfSign_17 (by decide) (fun c2 => ?_) (fun c2 => ?_)
    · have h := h.1 c2
      refine z_iload_n (i := 0) 0 d_Ta_sortOfSign_28 rfl rfl ?_
      refine z_bipush (n := 59) d_Ta_sortOfSign_29 (by decide) (by decide) ?_
      refine z_icmp_eq (tgt := 52) d_Ta_sortOfSign_31 (by decide) (fun c3 => ?_) (fun c3 => ?_)
      · have h := h.1 c3
        refine z_iconst (n := 3) d_Ta_sortOfSign_52 (by decide) ?_
        exact z_iret d_Ta_sortOfSign_53 rfl (by decide) (by decide) ⟨rfl, rfl, h⟩
      · have h := h.2 c3
        refine z_iload_n (i := 0) 0 d_Ta_sortOfSign_34 rfl rfl ?_
        refine z_bipush (n := 60) d_Ta_sortOfSign_35 (by decide) (by decide) ?_
        refine z_icmp_eq (tgt := 52) d_Ta_sortOfSign_37 (by decide) (fun c4 => ?_) (fun c4 => ?_)
        · have h := h.1 c4
          refine z_iconst (n := 3) d_Ta_sortOfSign_52 (by decide) ?_
          exact z_iret d_Ta_sortOfSign_53 rfl (by decide) (by decide) ⟨rfl, rfl, h⟩
        · have h := h.2 c4
          refine z_iload_n (i := 0) 0 d_Ta_sortOfSign_40 rfl rfl ?_
          refine z_bipush (n := 62) d_Ta_sortOfSign_41 (by decide) (by decide) ?_
          refine z_icmp_eq (tgt := 52) d_Ta_sortOfSign_43 (by decide) (fun c5 => ?_) (fun c5 => ?_)
          · have h := h.1 c5
            refine z_iconst (n := 3) d_Ta_sortOfSign_52 (by decide) ?_
            exact z_iret d_Ta_sortOfSign_53 rfl (by decide) (by decide) ⟨rfl, rfl, h⟩
          · have h := h.2 c5
            refine z_iload_n (i := 0) 0 d_Ta_sortOfSign_46 rfl rfl ?_
            refine z_bipush (n := 61) d_Ta_sortOfSign_47 (by decide) (by decide) ?_
            refine z_icmp_ne (tgt := 54) d_Ta_sortOfSign_49 (by decide) (fun c6 => ?_) (fun c6 => ?_)
            · have h := h.2 c6
              refine z_iload_n (i := 0) 0 d_Ta_sortOfSign_54 rfl rfl ?_
              refine z_bipush (n := 10) d_Ta_sortOfSign_55 (by decide) (by decide) ?_
              refine z_icmp_eq (tgt := 66) d_Ta_sortOfSign_57 (by decide) (fun c7 => ?_) (fun c7 => ?_)
              · have h := h.1 c7
                refine z_iconst (n := 5) d_Ta_sortOfSign_66 (by decide) ?_
                refine z_goto (tgt := 71) d_Ta_sortOfSign_67 (by decide) ?_
                exact z_iret d_Ta_sortOfSign_71 rfl (by decide) (by decide) ⟨rfl, rfl, h⟩
              · have h := h.2 c7
                refine z_iload_n (i := 0) 0 d_Ta_sortOfSign_60 rfl rfl ?_
                refine z_bipush (n := 32) d_Ta_sortOfSign_61 (by decide) (by decide) ?_
                refine z_icmp_ne (tgt := 70) d_Ta_sortOfSign_63 (by decide) (fun c8 => ?_) (fun c8 => ?_)
                · have h := h.2 c8
                  refine z_iconst (n := 4) d_Ta_sortOfSign_70 (by decide) ?_
                  exact z_iret d_Ta_sortOfSign_71 rfl (by decide) (by decide) ⟨rfl, rfl, h⟩
                · have h := h.1 c8
                  refine z_iconst (n := 5) d_Ta_sortOfSign_66 (by decide) ?_
                  refine z_goto (tgt := 71) d_Ta_sortOfSign_67 (by decide) ?_
                  exact z_iret d_Ta_sortOfSign_71 rfl (by decide) (by decide) ⟨rfl, rfl, h⟩
            · have h := h.1 c6
              refine z_iconst (n := 3) d_Ta_sortOfSign_52 (by decide) ?_
              exact z_iret d_Ta_sortOfSign_53 rfl (by decide) (by decide) ⟨rfl, rfl, h⟩
    · have h := h.2 c2
      refine z_iload_n (i := 0) 0 d_Ta_sortOfSign_20 rfl rfl ?_
      refine z_bipush (n := 57) d_Ta_sortOfSign_21 (by decide) (by decide) ?_
      refine z_icmp_gt (tgt := 28) d_Ta_sortOfSign_23 (by decide) (fun c9 => ?_) (fun c9 => ?_)
      · have h := h.1 c9
        refine z_iload_n (i := 0) 0 d_Ta_sortOfSign_28 rfl rfl ?_
        refine z_bipush (n := 59) d_Ta_sortOfSign_29 (by decide) (by decide) ?_
        refine z_icmp_eq (tgt := 52) d_Ta_sortOfSign_31 (by decide) (fun c10 => ?_) (fun c10 => ?_)
        · have h := h.1 c10
          refine z_iconst (n := 3) d_Ta_sortOfSign_52 (by decide) ?_
          exact z_iret d_Ta_sortOfSign_53 rfl (by decide) (by decide) ⟨rfl, rfl, h⟩
        · have h := h.2 c10
          refine z_iload_n (i := 0) 0 d_Ta_sortOfSign_34 rfl rfl ?_
          refine z_bipush (n := 60) d_Ta_sortOfSign_35 (by decide) (by decide) ?_
          refine z_icmp_eq (tgt := 52) d_Ta_sortOfSign_37 (by decide) (fun c11 => ?_) (fun c11 => ?_)
          · have h := h.1 c11
            refine z_iconst (n := 3) d_Ta_sortOfSign_52 (by decide) ?_
            exact z_iret d_Ta_sortOfSign_53 rfl (by decide) (by decide) ⟨rfl, rfl, h⟩
          · have h := h.2 c11
            refine z_iload_n (i := 0) 0 d_Ta_sortOfSign_40 rfl rfl ?_
            refine z_bipush (n := 62) d_Ta_sortOfSign_41 (by decide) (by decide) ?_
            refine z_icmp_eq (tgt := 52) d_Ta_sortOfSign_43 (by decide) (fun c12 => ?_) (fun c12 => ?_)
            · have h := h.1 c12
              refine z_iconst (n := 3) d_Ta_sortOfSign_52 (by decide) ?_
              exact z_iret d_Ta_sortOfSign_53 rfl (by decide) (by decide) ⟨rfl, rfl, h⟩
            · have h := h.2 c12
              refine z_iload_n (i := 0) 0 d_Ta_sortOfSign_46 rfl rfl ?_
              refine z_bipush (n := 61) d_Ta_sortOfSign_47 (by decide) (by decide) ?_
              refine z_icmp_ne (tgt := 54) d_Ta_sortOfSign_49 (by decide) (fun c13 => ?_) (fun c13 => ?_)
              · have h := h.2 c13
                refine z_iload_n (i := 0) 0 d_Ta_sortOfSign_54 rfl rfl ?_
                refine z_bipush (n := 10) d_Ta_sortOfSign_55 (by decide) (by decide) ?_
                refine z_icmp_eq (tgt := 66) d_Ta_sortOfSign_57 (by decide) (fun c14 => ?_) (fun c14 => ?_)
                · have h := h.1 c14
                  refine z_iconst (n := 5) d_Ta_sortOfSign_66 (by decide) ?_
                  refine z_goto (tgt := 71) d_Ta_sortOfSign_67 (by decide) ?_
                  exact z_iret d_Ta_sortOfSign_71 rfl (by decide) (by decide) ⟨rfl, rfl, h⟩
                · have h := h.2 c14
                  refine z_iload_n (i := 0) 0 d_Ta_sortOfSign_60 rfl rfl ?_
                  refine z_bipush (n := 32) d_Ta_sortOfSign_61 (by decide) (by decide) ?_
                  refine z_icmp_ne (tgt := 70) d_Ta_sortOfSign_63 (by decide) (fun c15 => ?_) (fun c15 => ?_)
                  · have h := h.2 c15
                    refine z_iconst (n := 4) d_Ta_sortOfSign_70 (by decide) ?_
                    exact z_iret d_Ta_sortOfSign_71 rfl (by decide) (by decide) ⟨rfl, rfl, h⟩
                  · have h := h.1 c15
                    refine z_iconst (n := 5) d_Ta_sortOfSign_66 (by decide) ?_
                    refine z_goto (tgt := 71) d_Ta_sortOfSign_67 (by decide) ?_
                    exact z_iret d_Ta_sortOfSign_71 rfl (by decide) (by decide) ⟨rfl, rfl, h⟩
              · have h := h.1 c13
                refine z_iconst (n := 3) d_Ta_sortOfSign_52 (by decide) ?_
                exact z_iret d_Ta_sortOfSign_53 rfl (by decide) (by decide) ⟨rfl, rfl, h⟩
      · have h := h.2 c9
        refine z_iconst (n := 2) d_Ta_sortOfSign_26 (by decide) ?_
        exact z_iret d_Ta_sortOfSign_27 rfl (by decide) (by decide) ⟨rfl, rfl, h⟩
  · have h := h.2 c1
    refine z_iload_n (i := 0) 0 d_Ta_sortOfSign_6 rfl rfl ?_
    refine z_bipush (n := 122) d_Ta_sortOfSign_7 (by decide) (by decide) ?_
    refine z_icmp_gt (tgt := 14) d_Ta_sortOfSign_9 (by decide) (fun c16 => ?_) (fun c16 => ?_)
    · have h := h.1 c16
      refine z_iload_n (i := 0) 0 d_Ta_sortOfSign_14 rfl rfl ?_
      refine z_bipush (n := 48) d_Ta_sortOfSign_15 (by decide) (by decide) ?_
      refine z_icmp_lt (tgt := 28) d_Ta_sortOfSign_17 (by decide) (fun c17 => ?_) (fun c17 => ?_)
      · have h := h.1 c17
        refine z_iload_n (i := 0) 0 d_Ta_sortOfSign_28 rfl rfl ?_
        refine z_bipush (n := 59) d_Ta_sortOfSign_29 (by decide) (by decide) ?_
        refine z_icmp_eq (tgt := 52) d_Ta_sortOfSign_31 (by decide) (fun c18 => ?_) (fun c18 => ?_)
        · have h := h.1 c18
          refine z_iconst (n := 3) d_Ta_sortOfSign_52 (by decide) ?_
          exact z_iret d_Ta_sortOfSign_53 rfl (by decide) (by decide) ⟨rfl, rfl, h⟩
        · have h := h.2 c18
          refine z_iload_n (i := 0) 0 d_Ta_sortOfSign_34 rfl rfl ?_
          refine z_bipush (n := 60) d_Ta_sortOfSign_35 (by decide) (by decide) ?_
          refine z_icmp_eq (tgt := 52) d_Ta_sortOfSign_37 (by decide) (fun c19 => ?_) (fun c19 => ?_)
          · have h := h.1 c19
            refine z_iconst (n := 3) d_Ta_sortOfSign_52 (by decide) ?_
            exact z_iret d_Ta_sortOfSign_53 rfl (by decide) (by decide) ⟨rfl, rfl, h⟩
          · have h := h.2 c19
            refine z_iload_n (i := 0) 0 d_Ta_sortOfSign_40 rfl rfl ?_
            refine z_bipush (n := 62) d_Ta_sortOfSign_41 (by decide) (by decide) ?_
            refine z_icmp_eq (tgt := 52) d_Ta_sortOfSign_43 (by decide) (fun c20 => ?_) (fun c20 => ?_)
            · have h := h.1 c20
              refine z_iconst (n := 3) d_Ta_sortOfSign_52 (by decide) ?_
              exact z_iret d_Ta_sortOfSign_53 rfl (by decide) (by decide) ⟨rfl, rfl, h⟩
            · have h := h.2 c20
              refine z_iload_n (i := 0) 0 d_Ta_sortOfSign_46 rfl rfl ?_
              refine z_bipush (n := 61) d_Ta_sortOfSign_47 (by decide) (by decide) ?_
              refine z_icmp_ne (tgt := 54) d_Ta_sortOfSign_49 (by decide) (fun c21 => ?_) (fun c21 => ?_)
              · have h := h.2 c21
                refine z_iload_n (i := 0) 0 d_Ta_sortOfSign_54 rfl rfl ?_
                refine z_bipush (n := 10) d_Ta_sortOfSign_55 (by decide) (by decide) ?_
                refine z_icmp_eq (tgt := 66) d_Ta_sortOfSign_57 (by decide) (fun c22 => ?_) (fun c22 => ?_)
                · have h := h.1 c22
                  refine z_iconst (n := 5) d_Ta_sortOfSign_66 (by decide) ?_
                  refine z_goto (tgt := 71) d_Ta_sortOfSign_67 (by decide) ?_
                  exact z_iret d_Ta_sortOfSign_71 rfl (by decide) (by decide) ⟨rfl, rfl, h⟩
                · have h := h.2 c22
                  refine z_iload_n (i := 0) 0 d_Ta_sortOfSign_60 rfl rfl ?_
                  refine z_bipush (n := 32) d_Ta_sortOfSign_61 (by decide) (by decide) ?_
                  refine z_icmp_ne (tgt := 70) d_Ta_sortOfSign_63 (by decide) (fun c23 => ?_) (fun c23 => ?_)
                  · have h := h.2 c23
                    refine z_iconst (n := 4) d_Ta_sortOfSign_70 (by decide) ?_
                    exact z_iret d_Ta_sortOfSign_71 rfl (by decide) (by decide) ⟨rfl, rfl, h⟩
                  · have h := h.1 c23
                    refine z_iconst (n := 5) d_Ta_sortOfSign_66 (by decide) ?_
                    refine z_goto (tgt := 71) d_Ta_sortOfSign_67 (by decide) ?_
                    exact z_iret d_Ta_sortOfSign_71 rfl (by decide) (by decide) ⟨rfl, rfl, h⟩
              · have h := h.1 c21
                refine z_iconst (n := 3) d_Ta_sortOfSign_52 (by decide) ?_
                exact z_iret d_Ta_sortOfSign_53 rfl (by decide) (by decide) ⟨rfl, rfl, h⟩
      · have h := h.2 c17
        refine z_iload_n (i := 0) 0 d_Ta_sortOfSign_20 rfl rfl ?_
        refine z_bipush (n := 57) d_Ta_sortOfSign_21 (by decide) (by decide) ?_
        refine z_icmp_gt (tgt := 28) d_Ta_sortOfSign_23 (by decide) (fun c24 => ?_) (fun c24 => ?_)
        · have h := h.1 c24
          refine z_iload_n (i := 0) 0 d_Ta_sortOfSign_28 rfl rfl ?_
          refine z_bipush (n := 59) d_Ta_sortOfSign_29 (by decide) (by decide) ?_
          refine z_icmp_eq (tgt := 52) d_Ta_sortOfSign_31 (by decide) (fun c25 => ?_) (fun c25 => ?_)
          · have h := h.1 c25
            refine z_iconst (n := 3) d_Ta_sortOfSign_52 (by decide) ?_
            exact z_iret d_Ta_sortOfSign_53 rfl (by decide) (by decide) ⟨rfl, rfl, h⟩
          · have h := h.2 c25
            refine z_iload_n (i := 0) 0 d_Ta_sortOfSign_34 rfl rfl ?_
            refine z_bipush (n := 60) d_Ta_sortOfSign_35 (by decide) (by decide) ?_
            refine z_icmp_eq (tgt := 52) d_Ta_sortOfSign_37 (by decide) (fun c26 => ?_) (fun c26 => ?_)
            · have h := h.1 c26
              refine z_iconst (n := 3) d_Ta_sortOfSign_52 (by decide) ?_
              exact z_iret d_Ta_sortOfSign_53 rfl (by decide) (by decide) ⟨rfl, rfl, h⟩
            · have h := h.2 c26
              refine z_iload_n (i := 0) 0 d_Ta_sortOfSign_40 rfl rfl ?_
              refine z_bipush (n := 62) d_Ta_sortOfSign_41 (by decide) (by decide) ?_
              refine z_icmp_eq (tgt := 52) d_Ta_sortOfSign_43 (by decide) (fun c27 => ?_) (fun c27 => ?_)
              · have h := h.1 c27
                refine z_iconst (n := 3) d_Ta_sortOfSign_52 (by decide) ?_
                exact z_iret d_Ta_sortOfSign_53 rfl (by decide) (by decide) ⟨rfl, rfl, h⟩
              · have h := h.2 c27
                refine z_iload_n (i := 0) 0 d_Ta_sortOfSign_46 rfl rfl ?_
                refine z_bipush (n := 61) d_Ta_sortOfSign_47 (by decide) (by decide) ?_
                refine z_icmp_ne (tgt := 54) d_Ta_sortOfSign_49 (by decide) (fun c28 => ?_) (fun c28 => ?_)
                · have h := h.2 c28
                  refine z_iload_n (i := 0) 0 d_Ta_sortOfSign_54 rfl rfl ?_
                  refine z_bipush (n := 10) d_Ta_sortOfSign_55 (by decide) (by decide) ?_
                  refine z_icmp_eq (tgt := 66) d_Ta_sortOfSign_57 (by decide) (fun c29 => ?_) (fun c29 => ?_)
                  · have h := h.1 c29
                    refine z_iconst (n := 5) d_Ta_sortOfSign_66 (by decide) ?_
                    refine z_goto (tgt := 71) d_Ta_sortOfSign_67 (by decide) ?_
                    exact z_iret d_Ta_sortOfSign_71 rfl (by decide) (by decide) ⟨rfl, rfl, h⟩
                  · have h := h.2 c29
                    refine z_iload_n (i := 0) 0 d_Ta_sortOfSign_60 rfl rfl ?_
                    refine z_bipush (n := 32) d_Ta_sortOfSign_61 (by decide) (by decide) ?_
                    refine z_icmp_ne (tgt := 70) d_Ta_sortOfSign_63 (by decide) (fun c30 => ?_) (fun c30 => ?_)
                    · have h := h.2 c30
                      refine z_iconst (n := 4) d_Ta_sortOfSign_70 (by decide) ?_
                      exact z_iret d_Ta_sortOfSign_71 rfl (by decide) (by decide) ⟨rfl, rfl, h⟩
                    · have h := h.1 c30
                      refine z_iconst (n := 5) d_Ta_sortOfSign_66 (by decide) ?_
                      refine z_goto (tgt := 71) d_Ta_sortOfSign_67 (by decide) ?_
                      exact z_iret d_Ta_sortOfSign_71 rfl (by decide) (by decide) ⟨rfl, rfl, h⟩
                · have h := h.1 c28
                  refine z_iconst (n := 3) d_Ta_sortOfSign_52 (by decide) ?_
                  exact z_iret d_Ta_sortOfSign_53 rfl (by decide) (by decide) ⟨rfl, rfl, h⟩
        · have h := h.2 c24
          refine z_iconst (n := 2) d_Ta_sortOfSign_26 (by decide) ?_
          exact z_iret d_Ta_sortOfSign_27 rfl (by decide) (by decide) ⟨rfl, rfl, h⟩
    · have h := h.2 c16
      refine z_iconst (n := 1) d_Ta_sortOfSign_12 (by decide) ?_
      exact z_iret d_Ta_sortOfSign_13 rfl (by decide) (by decide) ⟨rfl, rfl, h⟩
theorem d_Ta_takeInt_0 : decode (z_c m_Ta_takeInt) 0 = .ok (.bipush 24, 2) := by decide +kernel
theorem d_Ta_takeInt_2 : decode (z_c m_Ta_takeInt) 2 = .ok (.istore_n 2, 1) := by decide +kernel
theorem d_Ta_takeInt_3 : decode (z_c m_Ta_takeInt) 3 = .ok (.iload_n 2, 1) := by decide +kernel
theorem d_Ta_takeInt_4 : decode (z_c m_Ta_takeInt) 4 = .ok (.ifCond .lt 55, 3) := by decide +kernel
theorem d_Ta_takeInt_7 : decode (z_c m_Ta_takeInt) 7 = .ok (.aload_n 0, 1) := by decide +kernel
theorem d_Ta_takeInt_8 : decode (z_c m_Ta_takeInt) 8 = .ok (.getfield 15, 3) := by decide +kernel
theorem d_Ta_takeInt_11 : decode (z_c m_Ta_takeInt) 11 = .ok (.ifCond .lt 42, 3) := by decide +kernel
theorem d_Ta_takeInt_14 : decode (z_c m_Ta_takeInt) 14 = .ok (.aload_n 0, 1) := by decide +kernel
theorem d_Ta_takeInt_15 : decode (z_c m_Ta_takeInt) 15 = .ok (.getfield 15, 3) := by decide +kernel
theorem d_Ta_takeInt_18 : decode (z_c m_Ta_takeInt) 18 = .ok (.aload_n 0, 1) := by decide +kernel
theorem d_Ta_takeInt_19 : decode (z_c m_Ta_takeInt) 19 = .ok (.getfield 9, 3) := by decide +kernel
theorem d_Ta_takeInt_22 : decode (z_c m_Ta_takeInt) 22 = .ok (.arraylength, 1) := by decide +kernel
theorem d_Ta_takeInt_23 : decode (z_c m_Ta_takeInt) 23 = .ok (.if_icmp .ge 30, 3) := by decide +kernel
theorem d_Ta_takeInt_26 : decode (z_c m_Ta_takeInt) 26 = .ok (.aload_n 0, 1) := by decide +kernel
theorem d_Ta_takeInt_27 : decode (z_c m_Ta_takeInt) 27 = .ok (.getfield 9, 3) := by decide +kernel
theorem d_Ta_takeInt_30 : decode (z_c m_Ta_takeInt) 30 = .ok (.aload_n 0, 1) := by decide +kernel
theorem d_Ta_takeInt_31 : decode (z_c m_Ta_takeInt) 31 = .ok (.getfield 15, 3) := by decide +kernel
theorem d_Ta_takeInt_34 : decode (z_c m_Ta_takeInt) 34 = .ok (.iload_n 1, 1) := by decide +kernel
theorem d_Ta_takeInt_35 : decode (z_c m_Ta_takeInt) 35 = .ok (.iload_n 2, 1) := by decide +kernel
theorem d_Ta_takeInt_36 : decode (z_c m_Ta_takeInt) 36 = .ok (.iushr, 1) := by decide +kernel
theorem d_Ta_takeInt_37 : decode (z_c m_Ta_takeInt) 37 = .ok (.sipush 255, 3) := by decide +kernel
theorem d_Ta_takeInt_40 : decode (z_c m_Ta_takeInt) 40 = .ok (.iand, 1) := by decide +kernel
theorem d_Ta_takeInt_41 : decode (z_c m_Ta_takeInt) 41 = .ok (.i2c, 1) := by decide +kernel
theorem d_Ta_takeInt_42 : decode (z_c m_Ta_takeInt) 42 = .ok (.castore, 1) := by decide +kernel
theorem d_Ta_takeInt_43 : decode (z_c m_Ta_takeInt) 43 = .ok (.aload_n 0, 1) := by decide +kernel
theorem d_Ta_takeInt_44 : decode (z_c m_Ta_takeInt) 44 = .ok (.dup, 1) := by decide +kernel
theorem d_Ta_takeInt_45 : decode (z_c m_Ta_takeInt) 45 = .ok (.getfield 15, 3) := by decide +kernel
theorem d_Ta_takeInt_48 : decode (z_c m_Ta_takeInt) 48 = .ok (.iconst 1, 1) := by decide +kernel
theorem d_Ta_takeInt_49 : decode (z_c m_Ta_takeInt) 49 = .ok (.iadd, 1) := by decide +kernel
theorem d_Ta_takeInt_50 : decode (z_c m_Ta_takeInt) 50 = .ok (.putfield 15, 3) := by decide +kernel
theorem d_Ta_takeInt_53 : decode (z_c m_Ta_takeInt) 53 = .ok (.iinc 2 (-8), 3) := by decide +kernel
theorem d_Ta_takeInt_56 : decode (z_c m_Ta_takeInt) 56 = .ok (.goto (-53), 3) := by decide +kernel
theorem d_Ta_takeInt_59 : decode (z_c m_Ta_takeInt) 59 = .ok (.return_, 1) := by decide +kernel
abbrev L_Ta_takeInt_3 (X : z_X) (N : Nat) (σ : z_G) (x1 x2 : Int) (g : z_G) (Q : z_P) : Prop := z_U X 1 m_Ta_takeInt 3 [(0, (2, 10)), (1, (0, x1)), (2, (0, x2))] [] N σ g Q
set_option maxRecDepth 8000 in
theorem b_Ta_takeInt_0 {X : z_X} {N : Nat} {σ g : z_G} {Q : z_P} {a1 : Int} (hx : z_lay X N σ 0 z_SF z_RF) (h : L_Ta_takeInt_3 X N σ a1 24 g Q) : z_O X 1 m_Ta_takeInt [(2, 10), (0, a1)] N σ g Q := by
  refine z_Oenter mi_Ta_takeInt rfl (fun _ => ?_)
  show z_U X 1 m_Ta_takeInt 0 [(0, (2, 10)), (1, (0, a1))] [] N σ g Q
  refine z_bipush (n := 24) d_Ta_takeInt_0 (by decide) (by decide) ?_
  refine z_istore_n (i := 2) (ls' := [(2, (0, 24)), (0, (2, 10)), (1, (0, a1))]) d_Ta_takeInt_2 rfl rfl rfl ?_
  refine z_sub (ls' := [(0, (2, 10)), (1, (0, a1)), (2, (0, 24))]) [1, 2, 0] rfl ?_
  exact h
set_option maxRecDepth 8000 in
theorem b_Ta_takeInt_3 {X : z_X} {N : Nat} {σ g : z_G} {Q : z_P} {x1 x2 : Int} (hx : z_lay X N σ 0 z_SF z_RF) (h : ((x2 < 0) → Q 0 g) ∧ (¬ (x2 < 0) → ((((g 10 1) < 0) → ((-2147483648 ≤ (x2 + (-8)) ∧ (x2 + (-8)) ≤ 2147483647) ∧ L_Ta_takeInt_3 X N σ x1 (x2 + (-8)) g Q)) ∧ (¬ ((g 10 1) < 0) → (((900 ≤ (g 10 1)) → ((-2147483648 ≤ (x2 + (-8)) ∧ (x2 + (-8)) ≤ 2147483647) ∧ L_Ta_takeInt_3 X N σ x1 (x2 + (-8)) g Q)) ∧ (¬ (900 ≤ (g 10 1)) → ((0 ≤ (g 10 1) ∧ (g 10 1) < 900) ∧ ((0 ≤ (Int32.toInt ((Int32.ofInt (Int32.toInt (Int32.ofInt (Int32.toInt ((Int32.ofInt x1).toUInt32 >>> ((Int32.ofInt x2).toUInt32 &&& Int32.toUInt32 31)).toInt32) &&& Int32.ofInt 255))).toUInt32 % 65536).toInt32) ∧ (Int32.toInt ((Int32.ofInt (Int32.toInt (Int32.ofInt (Int32.toInt ((Int32.ofInt x1).toUInt32 >>> ((Int32.ofInt x2).toUInt32 &&& Int32.toUInt32 31)).toInt32) &&& Int32.ofInt 255))).toUInt32 % 65536).toInt32) ≤ 65535) ∧ ((-2147483648 ≤ ((g 10 1) + 1) ∧ ((g 10 1) + 1) ≤ 2147483647) ∧ ((-2147483648 ≤ (x2 + (-8)) ∧ (x2 + (-8)) ≤ 2147483647) ∧ L_Ta_takeInt_3 X N σ x1 (x2 + (-8)) (z_up (z_up g 11 (g 10 1) (Int32.toInt ((Int32.ofInt (Int32.toInt (Int32.ofInt (Int32.toInt ((Int32.ofInt x1).toUInt32 >>> ((Int32.ofInt x2).toUInt32 &&& Int32.toUInt32 31)).toInt32) &&& Int32.ofInt 255))).toUInt32 % 65536).toInt32)) 10 1 ((g 10 1) + 1)) Q)))))))))) : L_Ta_takeInt_3 X N σ x1 x2 g Q := by
  refine z_iload_n (i := 2) 2 d_Ta_takeInt_3 rfl rfl ?_
  refine z_if_lt (tgt := 59) d_Ta_takeInt_4 (by decide) (fun c1 => ?_) (fun c1 => ?_)
  · have h := h.1 c1
    exact z_vret d_Ta_takeInt_59 rfl (by decide) (by decide) ⟨rfl, rfl, h⟩
  · have h := h.2 c1
    refine z_aload_n (i := 0) (c := 10) 0 d_Ta_takeInt_7 rfl rfl rfl ?_
    refine z_geti (c := 10) (kI := 1) d_Ta_takeInt_8 fd_Ta_taped fl_Ta_15 (Or.inl rfl) rfl rfl (ks_F_10 hx) (kl_F_10 hx) ?_
    refine z_if_lt (tgt := 53) d_Ta_takeInt_11 (by decide) (fun c2 => ?_) (fun c2 => ?_)
    · have h := h.1 c2
      obtain ⟨c3, h⟩ := h
      refine z_iinc (n := (-8)) (ls' := [(2, (0, x2 + (-8))), (0, (2, 10)), (1, (0, x1))]) 2 d_Ta_takeInt_53 rfl c3 rfl rfl ?_
      refine z_goto (tgt := 3) d_Ta_takeInt_56 (by decide) ?_
      refine z_sub (ls' := [(0, (2, 10)), (1, (0, x1)), (2, (0, x2 + (-8)))]) [1, 2, 0] rfl ?_
      exact h
    · have h := h.2 c2
      refine z_aload_n (i := 0) (c := 10) 0 d_Ta_takeInt_14 rfl rfl rfl ?_
      refine z_geti (c := 10) (kI := 1) d_Ta_takeInt_15 fd_Ta_taped fl_Ta_15 (Or.inl rfl) rfl rfl (ks_F_10 hx) (kl_F_10 hx) ?_
      refine z_aload_n (i := 0) (c := 10) 0 d_Ta_takeInt_18 rfl rfl rfl ?_
      refine z_getr (c := 10) (kI := 0) (r2 := 11) d_Ta_takeInt_19 fd_Ta_text fl_Ta_9 rfl rfl rfl (ks_F_10 hx) (kl_F_10 hx) (kr_F_10_0 hx) ?_
      refine z_alen (c := 11) (m := 900) (cA := z_A X 3) d_Ta_takeInt_22 rfl (ks_F_11 hx) (kl_F_11 hx) rfl (by decide) rfl ?_
      refine z_icmp_ge (tgt := 53) d_Ta_takeInt_23 (by decide) (fun c4 => ?_) (fun c4 => ?_)
      · have h := h.1 c4
        obtain ⟨c5, h⟩ := h
        refine z_iinc (n := (-8)) (ls' := [(2, (0, x2 + (-8))), (0, (2, 10)), (1, (0, x1))]) 2 d_Ta_takeInt_53 rfl c5 rfl rfl ?_
        refine z_goto (tgt := 3) d_Ta_takeInt_56 (by decide) ?_
        refine z_sub (ls' := [(0, (2, 10)), (1, (0, x1)), (2, (0, x2 + (-8)))]) [1, 2, 0] rfl ?_
        exact h
      · have h := h.2 c4
        refine z_aload_n (i := 0) (c := 10) 0 d_Ta_takeInt_26 rfl rfl rfl ?_
        refine z_getr (c := 10) (kI := 0) (r2 := 11) d_Ta_takeInt_27 fd_Ta_text fl_Ta_9 rfl rfl rfl (ks_F_10 hx) (kl_F_10 hx) (kr_F_10_0 hx) ?_
        refine z_aload_n (i := 0) (c := 10) 0 d_Ta_takeInt_30 rfl rfl rfl ?_
        refine z_geti (c := 10) (kI := 1) d_Ta_takeInt_31 fd_Ta_taped fl_Ta_15 (Or.inl rfl) rfl rfl (ks_F_10 hx) (kl_F_10 hx) ?_
        refine z_iload_n (i := 1) 1 d_Ta_takeInt_34 rfl rfl ?_
        refine z_iload_n (i := 2) 2 d_Ta_takeInt_35 rfl rfl ?_
        refine z_iushr d_Ta_takeInt_36 ?_
        refine z_sipush (n := 255) d_Ta_takeInt_37 (by decide) (by decide) ?_
        refine z_iand d_Ta_takeInt_40 ?_
        refine z_i2c d_Ta_takeInt_41 ?_
        obtain ⟨c6, h⟩ := h
        obtain ⟨c7, h⟩ := h
        refine z_cast (c := 11) (m := 900) d_Ta_takeInt_42 rfl (ks_F_11 hx) (kl_F_11 hx) rfl (by decide) c6 c7 ?_
        refine z_aload_n (i := 0) (c := 10) 0 d_Ta_takeInt_43 rfl rfl rfl ?_
        refine z_dup d_Ta_takeInt_44 rfl ?_
        refine z_geti (c := 10) (kI := 1) d_Ta_takeInt_45 fd_Ta_taped fl_Ta_15 (Or.inl rfl) rfl rfl (ks_F_10 hx) (kl_F_10 hx) ?_
        refine z_ti (b := g 10 1) (by simp [z_up]) ?_
        refine z_iconst (n := 1) d_Ta_takeInt_48 (by decide) ?_
        obtain ⟨c8, h⟩ := h
        refine z_iadd d_Ta_takeInt_49 c8 ?_
        refine z_puti (c := 10) (kI := 1) d_Ta_takeInt_50 fd_Ta_taped fl_Ta_15 pf_Ta_taped rfl rfl rfl rfl (ks_F_10 hx) (kl_F_10 hx) ?_
        obtain ⟨c9, h⟩ := h
        refine z_iinc (n := (-8)) (ls' := [(2, (0, x2 + (-8))), (0, (2, 10)), (1, (0, x1))]) 2 d_Ta_takeInt_53 rfl c9 rfl rfl ?_
        refine z_goto (tgt := 3) d_Ta_takeInt_56 (by decide) ?_
        refine z_sub (ls' := [(0, (2, 10)), (1, (0, x1)), (2, (0, x2 + (-8)))]) [1, 2, 0] rfl ?_
        exact h
theorem d_Tr_cut_0 : decode (z_c m_Tr_cut) 0 = .ok (.iload_n 0, 1) := by decide +kernel
theorem d_Tr_cut_1 : decode (z_c m_Tr_cut) 1 = .ok (.tableswitch 41 0 2 #[27, 32, 37], 27) := by decide +kernel
theorem d_Tr_cut_28 : decode (z_c m_Tr_cut) 28 = .ok (.lload_n 1, 1) := by decide +kernel
theorem d_Tr_cut_29 : decode (z_c m_Tr_cut) 29 = .ok (.l2i, 1) := by decide +kernel
theorem d_Tr_cut_30 : decode (z_c m_Tr_cut) 30 = .ok (.i2b, 1) := by decide +kernel
theorem d_Tr_cut_31 : decode (z_c m_Tr_cut) 31 = .ok (.i2l, 1) := by decide +kernel
theorem d_Tr_cut_32 : decode (z_c m_Tr_cut) 32 = .ok (.lreturn, 1) := by decide +kernel
theorem d_Tr_cut_33 : decode (z_c m_Tr_cut) 33 = .ok (.lload_n 1, 1) := by decide +kernel
theorem d_Tr_cut_34 : decode (z_c m_Tr_cut) 34 = .ok (.l2i, 1) := by decide +kernel
theorem d_Tr_cut_35 : decode (z_c m_Tr_cut) 35 = .ok (.i2s, 1) := by decide +kernel
theorem d_Tr_cut_36 : decode (z_c m_Tr_cut) 36 = .ok (.i2l, 1) := by decide +kernel
theorem d_Tr_cut_37 : decode (z_c m_Tr_cut) 37 = .ok (.lreturn, 1) := by decide +kernel
theorem d_Tr_cut_38 : decode (z_c m_Tr_cut) 38 = .ok (.lload_n 1, 1) := by decide +kernel
theorem d_Tr_cut_39 : decode (z_c m_Tr_cut) 39 = .ok (.l2i, 1) := by decide +kernel
theorem d_Tr_cut_40 : decode (z_c m_Tr_cut) 40 = .ok (.i2l, 1) := by decide +kernel
theorem d_Tr_cut_41 : decode (z_c m_Tr_cut) 41 = .ok (.lreturn, 1) := by decide +kernel
theorem d_Tr_cut_42 : decode (z_c m_Tr_cut) 42 = .ok (.lload_n 1, 1) := by decide +kernel
theorem d_Tr_cut_43 : decode (z_c m_Tr_cut) 43 = .ok (.lreturn, 1) := by decide +kernel
set_option maxRecDepth 8000 in
theorem b_Tr_cut_0 {X : z_X} {N : Nat} {σ g : z_G} {Q : z_P} {a0 a1 : Int} (h : ((a0 = 0) → Q (Int.bmod (Int.bmod a1 4294967296) 256) g) ∧ ((a0 = 1) → Q (Int.bmod (Int.bmod a1 4294967296) 65536) g) ∧ ((a0 = 2) → Q (Int.bmod a1 4294967296) g) ∧ ((¬ (a0 = 0) ∧ ¬ (a0 = 1) ∧ ¬ (a0 = 2)) → Q a1 g)) : z_O X 1 m_Tr_cut [(0, a0), (1, a1)] N σ g Q := by
  refine z_Oenter mi_Tr_cut rfl (fun _ => ?_)
  show z_U X 1 m_Tr_cut 0 [(0, (0, a0)), (1, (1, a1))] [] N σ g Q
  refine z_iload_n (i := 0) 0 d_Tr_cut_0 rfl rfl ?_
  by_cases c2 : a0 = 0
  · have h := h.1 c2
    refine z_ti c2 ?_
    refine z_tab (off := 27) (tgt := 28) d_Tr_cut_1 (by decide) (by decide) (by decide) (by decide) ?_
    refine z_lload_n (i := 1) 1 d_Tr_cut_28 rfl rfl ?_
    refine z_l2i d_Tr_cut_29 ?_
    refine z_i2b d_Tr_cut_30 ?_
    refine z_i2l d_Tr_cut_31 ?_
    exact z_lret d_Tr_cut_32 rfl (by decide) (by decide) ⟨rfl, rfl, h⟩
  have h := h.2
  by_cases c3 : a0 = 1
  · have h := h.1 c3
    refine z_ti c3 ?_
    refine z_tab (off := 32) (tgt := 33) d_Tr_cut_1 (by decide) (by decide) (by decide) (by decide) ?_
    refine z_lload_n (i := 1) 1 d_Tr_cut_33 rfl rfl ?_
    refine z_l2i d_Tr_cut_34 ?_
    refine z_i2s d_Tr_cut_35 ?_
    refine z_i2l d_Tr_cut_36 ?_
    exact z_lret d_Tr_cut_37 rfl (by decide) (by decide) ⟨rfl, rfl, h⟩
  have h := h.2
  by_cases c4 : a0 = 2
  · have h := h.1 c4
    refine z_ti c4 ?_
    refine z_tab (off := 37) (tgt := 38) d_Tr_cut_1 (by decide) (by decide) (by decide) (by decide) ?_
    refine z_lload_n (i := 1) 1 d_Tr_cut_38 rfl rfl ?_
    refine z_l2i d_Tr_cut_39 ?_
    refine z_i2l d_Tr_cut_40 ?_
    exact z_lret d_Tr_cut_41 rfl (by decide) (by decide) ⟨rfl, rfl, h⟩
  have h := h.2
  have h := h ⟨c2, c3, c4⟩
  refine z_tabo (tgt := 42) d_Tr_cut_1 ((Int.lt_or_le a0 0).elim Or.inl (fun q => Or.inr (z_st (z_st (z_st q c2) c3) c4))) (by decide) ?_
  refine z_lload_n (i := 1) 1 d_Tr_cut_42 rfl rfl ?_
  exact z_lret d_Tr_cut_43 rfl (by decide) (by decide) ⟨rfl, rfl, h⟩
theorem d_Tr_isSort_0 : decode (z_c m_Tr_isSort) 0 = .ok (.iload_n 1, 1) := by decide +kernel
theorem d_Tr_isSort_1 : decode (z_c m_Tr_isSort) 1 = .ok (.ifCond .lt 12, 3) := by decide +kernel
theorem d_Tr_isSort_4 : decode (z_c m_Tr_isSort) 4 = .ok (.iload_n 1, 1) := by decide +kernel
theorem d_Tr_isSort_5 : decode (z_c m_Tr_isSort) 5 = .ok (.iconst 4, 1) := by decide +kernel
theorem d_Tr_isSort_6 : decode (z_c m_Tr_isSort) 6 = .ok (.if_icmp .ge 7, 3) := by decide +kernel
theorem d_Tr_isSort_9 : decode (z_c m_Tr_isSort) 9 = .ok (.iconst 1, 1) := by decide +kernel
theorem d_Tr_isSort_10 : decode (z_c m_Tr_isSort) 10 = .ok (.goto 4, 3) := by decide +kernel
theorem d_Tr_isSort_13 : decode (z_c m_Tr_isSort) 13 = .ok (.iconst 0, 1) := by decide +kernel
theorem d_Tr_isSort_14 : decode (z_c m_Tr_isSort) 14 = .ok (.ireturn, 1) := by decide +kernel
set_option maxRecDepth 8000 in
theorem b_Tr_isSort_0 {X : z_X} {N : Nat} {σ g : z_G} {Q : z_P} {a1 : Int} (hx : z_lay X N σ 0 z_SF z_RF) (h : ((a1 < 0) → Q 0 g) ∧ (¬ (a1 < 0) → (((4 ≤ a1) → Q 0 g) ∧ (¬ (4 ≤ a1) → Q 1 g)))) : z_O X 1 m_Tr_isSort [(2, 1), (0, a1)] N σ g Q := by
  refine z_Oenter mi_Tr_isSort rfl (fun _ => ?_)
  show z_U X 1 m_Tr_isSort 0 [(0, (2, 1)), (1, (0, a1))] [] N σ g Q
  refine z_iload_n (i := 1) 1 d_Tr_isSort_0 rfl rfl ?_
  refine z_if_lt (tgt := 13) d_Tr_isSort_1 (by decide) (fun c1 => ?_) (fun c1 => ?_)
  · have h := h.1 c1
    refine z_iconst (n := 0) d_Tr_isSort_13 (by decide) ?_
    exact z_zret d_Tr_isSort_14 rfl (by decide) (by decide) (by decide) ⟨rfl, rfl, h⟩
  · have h := h.2 c1
    refine z_iload_n (i := 1) 1 d_Tr_isSort_4 rfl rfl ?_
    refine z_iconst (n := 4) d_Tr_isSort_5 (by decide) ?_
    refine z_icmp_ge (tgt := 13) d_Tr_isSort_6 (by decide) (fun c2 => ?_) (fun c2 => ?_)
    · have h := h.1 c2
      refine z_iconst (n := 0) d_Tr_isSort_13 (by decide) ?_
      exact z_zret d_Tr_isSort_14 rfl (by decide) (by decide) (by decide) ⟨rfl, rfl, h⟩
    · have h := h.2 c2
      refine z_iconst (n := 1) d_Tr_isSort_9 (by decide) ?_
      refine z_goto (tgt := 14) d_Tr_isSort_10 (by decide) ?_
      exact z_zret d_Tr_isSort_14 rfl (by decide) (by decide) (by decide) ⟨rfl, rfl, h⟩
theorem d_Tr_isTray_0 : decode (z_c m_Tr_isTray) 0 = .ok (.iload_n 1, 1) := by decide +kernel
theorem d_Tr_isTray_1 : decode (z_c m_Tr_isTray) 1 = .ok (.ifCond .lt 12, 3) := by decide +kernel
theorem d_Tr_isTray_4 : decode (z_c m_Tr_isTray) 4 = .ok (.iload_n 1, 1) := by decide +kernel
theorem d_Tr_isTray_5 : decode (z_c m_Tr_isTray) 5 = .ok (.iconst 4, 1) := by decide +kernel
theorem d_Tr_isTray_6 : decode (z_c m_Tr_isTray) 6 = .ok (.if_icmp .ge 7, 3) := by decide +kernel
theorem d_Tr_isTray_9 : decode (z_c m_Tr_isTray) 9 = .ok (.iconst 1, 1) := by decide +kernel
theorem d_Tr_isTray_10 : decode (z_c m_Tr_isTray) 10 = .ok (.goto 4, 3) := by decide +kernel
theorem d_Tr_isTray_13 : decode (z_c m_Tr_isTray) 13 = .ok (.iconst 0, 1) := by decide +kernel
theorem d_Tr_isTray_14 : decode (z_c m_Tr_isTray) 14 = .ok (.ireturn, 1) := by decide +kernel
set_option maxRecDepth 8000 in
theorem b_Tr_isTray_0 {X : z_X} {N : Nat} {σ g : z_G} {Q : z_P} {a1 : Int} (hx : z_lay X N σ 0 z_SF z_RF) (h : ((a1 < 0) → Q 0 g) ∧ (¬ (a1 < 0) → (((4 ≤ a1) → Q 0 g) ∧ (¬ (4 ≤ a1) → Q 1 g)))) : z_O X 1 m_Tr_isTray [(2, 1), (0, a1)] N σ g Q := by
  refine z_Oenter mi_Tr_isTray rfl (fun _ => ?_)
  show z_U X 1 m_Tr_isTray 0 [(0, (2, 1)), (1, (0, a1))] [] N σ g Q
  refine z_iload_n (i := 1) 1 d_Tr_isTray_0 rfl rfl ?_
  refine z_if_lt (tgt := 13) d_Tr_isTray_1 (by decide) (fun c1 => ?_) (fun c1 => ?_)
  · have h := h.1 c1
    refine z_iconst (n := 0) d_Tr_isTray_13 (by decide) ?_
    exact z_zret d_Tr_isTray_14 rfl (by decide) (by decide) (by decide) ⟨rfl, rfl, h⟩
  · have h := h.2 c1
    refine z_iload_n (i := 1) 1 d_Tr_isTray_4 rfl rfl ?_
    refine z_iconst (n := 4) d_Tr_isTray_5 (by decide) ?_
    refine z_icmp_ge (tgt := 13) d_Tr_isTray_6 (by decide) (fun c2 => ?_) (fun c2 => ?_)
    · have h := h.1 c2
      refine z_iconst (n := 0) d_Tr_isTray_13 (by decide) ?_
      exact z_zret d_Tr_isTray_14 rfl (by decide) (by decide) (by decide) ⟨rfl, rfl, h⟩
    · have h := h.2 c2
      refine z_iconst (n := 1) d_Tr_isTray_9 (by decide) ?_
      refine z_goto (tgt := 14) d_Tr_isTray_10 (by decide) ?_
      exact z_zret d_Tr_isTray_14 rfl (by decide) (by decide) (by decide) ⟨rfl, rfl, h⟩
theorem d_Vi_copyFrom_0 : decode (z_c m_Vi_copyFrom) 0 = .ok (.aload_n 1, 1) := by decide +kernel
theorem d_Vi_copyFrom_1 : decode (z_c m_Vi_copyFrom) 1 = .ok (.getfield 9, 3) := by decide +kernel
theorem d_Vi_copyFrom_4 : decode (z_c m_Vi_copyFrom) 4 = .ok (.iconst 0, 1) := by decide +kernel
theorem d_Vi_copyFrom_5 : decode (z_c m_Vi_copyFrom) 5 = .ok (.aload_n 0, 1) := by decide +kernel
theorem d_Vi_copyFrom_6 : decode (z_c m_Vi_copyFrom) 6 = .ok (.getfield 9, 3) := by decide +kernel
theorem d_Vi_copyFrom_9 : decode (z_c m_Vi_copyFrom) 9 = .ok (.iconst 0, 1) := by decide +kernel
theorem d_Vi_copyFrom_10 : decode (z_c m_Vi_copyFrom) 10 = .ok (.sipush 200, 3) := by decide +kernel
theorem d_Vi_copyFrom_13 : decode (z_c m_Vi_copyFrom) 13 = .ok (.invokestatic 15, 3) := by decide +kernel
theorem d_Vi_copyFrom_16 : decode (z_c m_Vi_copyFrom) 16 = .ok (.aload_n 0, 1) := by decide +kernel
theorem d_Vi_copyFrom_17 : decode (z_c m_Vi_copyFrom) 17 = .ok (.aload_n 1, 1) := by decide +kernel
theorem d_Vi_copyFrom_18 : decode (z_c m_Vi_copyFrom) 18 = .ok (.getfield 21, 3) := by decide +kernel
theorem d_Vi_copyFrom_21 : decode (z_c m_Vi_copyFrom) 21 = .ok (.putfield 21, 3) := by decide +kernel
theorem d_Vi_copyFrom_24 : decode (z_c m_Vi_copyFrom) 24 = .ok (.return_, 1) := by decide +kernel
set_option maxRecDepth 8000 in
theorem b_Vi_copyFrom_0 {X : z_X} {N : Nat} {σ g : z_G} {Q : z_P} {o p1 : Nat} (ho : z_lay X N σ o z_SVi z_RVi) (hp1 : z_lay X N σ p1 z_SVi z_RVi) (h : Q 0 (z_up (z_cp g (p1 + 1) (o + 1) 0 0 200) o 1 ((z_cp g (p1 + 1) (o + 1) 0 0 200) p1 1))) : z_O X 1 m_Vi_copyFrom [(2, ((o : Nat) : Int)), (2, ((p1 : Nat) : Int))] N σ g Q := by
  refine z_Oenter mi_Vi_copyFrom rfl (fun _ => ?_)
  show z_U X 1 m_Vi_copyFrom 0 [(0, (2, ((o : Nat) : Int))), (1, (2, ((p1 : Nat) : Int)))] [] N σ g Q
  refine z_aload_n (i := 1) (c := p1) 1 d_Vi_copyFrom_0 rfl rfl rfl ?_
  refine z_getr (c := p1) (kI := 0) (r2 := ((p1 + 1 : Nat) : Int)) d_Vi_copyFrom_1 fd_Vi_keys fl_Vi_9 rfl rfl rfl (ks_Vi_0 hp1) (kl_Vi_0 hp1) (kr_Vi_0_0 hp1) ?_
  refine z_iconst (n := 0) d_Vi_copyFrom_4 (by decide) ?_
  refine z_aload_n (i := 0) (c := o) 0 d_Vi_copyFrom_5 rfl rfl rfl ?_
  refine z_getr (c := o) (kI := 0) (r2 := ((o + 1 : Nat) : Int)) d_Vi_copyFrom_6 fd_Vi_keys fl_Vi_9 rfl rfl rfl (ks_Vi_0 ho) (kl_Vi_0 ho) (kr_Vi_0_0 ho) ?_
  refine z_iconst (n := 0) d_Vi_copyFrom_9 (by decide) ?_
  refine z_sipush (n := 200) d_Vi_copyFrom_10 (by decide) (by decide) ?_
  refine z_cpy (t := 0) (c0 := (p1 + 1)) (c1 := (o + 1)) (m0 := 200) (m1 := 200) d_Vi_copyFrom_13 kac_Vi_15 (Or.inl ⟨rfl, rfl⟩) rfl rfl rfl (ks_Vi_1 hp1) (ks_Vi_1 ho) (kl_Vi_1 hp1) (kl_Vi_1 ho) rfl rfl (by decide) kas kan kai (by decide) (Nat.le_of_ble_eq_true rfl) (by decide) ?_
  refine z_aload_n (i := 0) (c := o) 0 d_Vi_copyFrom_16 rfl rfl rfl ?_
  refine z_aload_n (i := 1) (c := p1) 1 d_Vi_copyFrom_17 rfl rfl rfl ?_
  refine z_geti (c := p1) (kI := 1) d_Vi_copyFrom_18 fd_Vi_many fl_Vi_21 (Or.inl rfl) rfl rfl (ks_Vi_0 hp1) (kl_Vi_0 hp1) ?_
  refine z_puti (c := o) (kI := 1) d_Vi_copyFrom_21 fd_Vi_many fl_Vi_21 pf_Vi_many rfl rfl rfl rfl (ks_Vi_0 ho) (kl_Vi_0 ho) ?_
  exact z_vret d_Vi_copyFrom_24 rfl (by decide) (by decide) ⟨rfl, rfl, h⟩
theorem d_Vi_keyOf_0 : decode (z_c m_Vi_keyOf) 0 = .ok (.iload_n 0, 1) := by decide +kernel
theorem d_Vi_keyOf_1 : decode (z_c m_Vi_keyOf) 1 = .ok (.sipush 10000, 3) := by decide +kernel
theorem d_Vi_keyOf_4 : decode (z_c m_Vi_keyOf) 4 = .ok (.imul, 1) := by decide +kernel
theorem d_Vi_keyOf_5 : decode (z_c m_Vi_keyOf) 5 = .ok (.iload_n 1, 1) := by decide +kernel
theorem d_Vi_keyOf_6 : decode (z_c m_Vi_keyOf) 6 = .ok (.iadd, 1) := by decide +kernel
theorem d_Vi_keyOf_7 : decode (z_c m_Vi_keyOf) 7 = .ok (.ireturn, 1) := by decide +kernel
set_option maxRecDepth 8000 in
theorem b_Vi_keyOf_0 {X : z_X} {N : Nat} {σ g : z_G} {Q : z_P} {a0 a1 : Int} (h : (-2147483648 ≤ (a0 * 10000) ∧ (a0 * 10000) ≤ 2147483647) ∧ ((-2147483648 ≤ ((a0 * 10000) + a1) ∧ ((a0 * 10000) + a1) ≤ 2147483647) ∧ Q ((a0 * 10000) + a1) g)) : z_O X 1 m_Vi_keyOf [(0, a0), (0, a1)] N σ g Q := by
  refine z_Oenter mi_Vi_keyOf rfl (fun _ => ?_)
  show z_U X 1 m_Vi_keyOf 0 [(0, (0, a0)), (1, (0, a1))] [] N σ g Q
  refine z_iload_n (i := 0) 0 d_Vi_keyOf_0 rfl rfl ?_
  refine z_sipush (n := 10000) d_Vi_keyOf_1 (by decide) (by decide) ?_
  obtain ⟨c1, h⟩ := h
  refine z_imul d_Vi_keyOf_4 c1 ?_
  refine z_iload_n (i := 1) 1 d_Vi_keyOf_5 rfl rfl ?_
  obtain ⟨c2, h⟩ := h
  refine z_iadd d_Vi_keyOf_6 c2 ?_
  exact z_iret d_Vi_keyOf_7 rfl (by decide) (by decide) ⟨rfl, rfl, h⟩
theorem d_Vi_placeOf_0 : decode (z_c m_Vi_placeOf) 0 = .ok (.iconst 0, 1) := by decide +kernel
theorem d_Vi_placeOf_1 : decode (z_c m_Vi_placeOf) 1 = .ok (.istore_n 2, 1) := by decide +kernel
theorem d_Vi_placeOf_2 : decode (z_c m_Vi_placeOf) 2 = .ok (.aload_n 0, 1) := by decide +kernel
theorem d_Vi_placeOf_3 : decode (z_c m_Vi_placeOf) 3 = .ok (.getfield 21, 3) := by decide +kernel
theorem d_Vi_placeOf_6 : decode (z_c m_Vi_placeOf) 6 = .ok (.istore_n 3, 1) := by decide +kernel
theorem d_Vi_placeOf_7 : decode (z_c m_Vi_placeOf) 7 = .ok (.iconst 0, 1) := by decide +kernel
theorem d_Vi_placeOf_8 : decode (z_c m_Vi_placeOf) 8 = .ok (.istore 4, 2) := by decide +kernel
theorem d_Vi_placeOf_10 : decode (z_c m_Vi_placeOf) 10 = .ok (.iload 4, 2) := by decide +kernel
theorem d_Vi_placeOf_12 : decode (z_c m_Vi_placeOf) 12 = .ok (.bipush 32, 2) := by decide +kernel
theorem d_Vi_placeOf_14 : decode (z_c m_Vi_placeOf) 14 = .ok (.if_icmp .ge 43, 3) := by decide +kernel
theorem d_Vi_placeOf_17 : decode (z_c m_Vi_placeOf) 17 = .ok (.iload_n 2, 1) := by decide +kernel
theorem d_Vi_placeOf_18 : decode (z_c m_Vi_placeOf) 18 = .ok (.iload_n 3, 1) := by decide +kernel
theorem d_Vi_placeOf_19 : decode (z_c m_Vi_placeOf) 19 = .ok (.if_icmp .ge 38, 3) := by decide +kernel
theorem d_Vi_placeOf_22 : decode (z_c m_Vi_placeOf) 22 = .ok (.iload_n 2, 1) := by decide +kernel
theorem d_Vi_placeOf_23 : decode (z_c m_Vi_placeOf) 23 = .ok (.iload_n 3, 1) := by decide +kernel
theorem d_Vi_placeOf_24 : decode (z_c m_Vi_placeOf) 24 = .ok (.iadd, 1) := by decide +kernel
theorem d_Vi_placeOf_25 : decode (z_c m_Vi_placeOf) 25 = .ok (.iconst 2, 1) := by decide +kernel
theorem d_Vi_placeOf_26 : decode (z_c m_Vi_placeOf) 26 = .ok (.idiv, 1) := by decide +kernel
theorem d_Vi_placeOf_27 : decode (z_c m_Vi_placeOf) 27 = .ok (.istore 5, 2) := by decide +kernel
theorem d_Vi_placeOf_29 : decode (z_c m_Vi_placeOf) 29 = .ok (.aload_n 0, 1) := by decide +kernel
theorem d_Vi_placeOf_30 : decode (z_c m_Vi_placeOf) 30 = .ok (.getfield 9, 3) := by decide +kernel
theorem d_Vi_placeOf_33 : decode (z_c m_Vi_placeOf) 33 = .ok (.iload 5, 2) := by decide +kernel
theorem d_Vi_placeOf_35 : decode (z_c m_Vi_placeOf) 35 = .ok (.iaload, 1) := by decide +kernel
theorem d_Vi_placeOf_36 : decode (z_c m_Vi_placeOf) 36 = .ok (.iload_n 1, 1) := by decide +kernel
theorem d_Vi_placeOf_37 : decode (z_c m_Vi_placeOf) 37 = .ok (.if_icmp .ge 11, 3) := by decide +kernel
theorem d_Vi_placeOf_40 : decode (z_c m_Vi_placeOf) 40 = .ok (.iload 5, 2) := by decide +kernel
theorem d_Vi_placeOf_42 : decode (z_c m_Vi_placeOf) 42 = .ok (.iconst 1, 1) := by decide +kernel
theorem d_Vi_placeOf_43 : decode (z_c m_Vi_placeOf) 43 = .ok (.iadd, 1) := by decide +kernel
theorem d_Vi_placeOf_44 : decode (z_c m_Vi_placeOf) 44 = .ok (.istore_n 2, 1) := by decide +kernel
theorem d_Vi_placeOf_45 : decode (z_c m_Vi_placeOf) 45 = .ok (.goto 6, 3) := by decide +kernel
theorem d_Vi_placeOf_48 : decode (z_c m_Vi_placeOf) 48 = .ok (.iload 5, 2) := by decide +kernel
theorem d_Vi_placeOf_50 : decode (z_c m_Vi_placeOf) 50 = .ok (.istore_n 3, 1) := by decide +kernel
theorem d_Vi_placeOf_51 : decode (z_c m_Vi_placeOf) 51 = .ok (.iinc 4 1, 3) := by decide +kernel
theorem d_Vi_placeOf_54 : decode (z_c m_Vi_placeOf) 54 = .ok (.goto (-44), 3) := by decide +kernel
theorem d_Vi_placeOf_57 : decode (z_c m_Vi_placeOf) 57 = .ok (.iload_n 2, 1) := by decide +kernel
theorem d_Vi_placeOf_58 : decode (z_c m_Vi_placeOf) 58 = .ok (.ireturn, 1) := by decide +kernel
abbrev L_Vi_placeOf_10 (X : z_X) (N : Nat) (σ : z_G) (x1 x2 x3 x4 : Int) (o : Nat) (g : z_G) (Q : z_P) : Prop := z_U X 1 m_Vi_placeOf 10 [(0, (2, ((o : Nat) : Int))), (1, (0, x1)), (2, (0, x2)), (3, (0, x3)), (4, (0, x4))] [] N σ g Q
set_option maxRecDepth 8000 in
theorem b_Vi_placeOf_0 {X : z_X} {N : Nat} {σ g : z_G} {Q : z_P} {a1 : Int} {o : Nat} (ho : z_lay X N σ o z_SVi z_RVi) (h : L_Vi_placeOf_10 X N σ a1 0 (g o 1) 0 o g Q) : z_O X 1 m_Vi_placeOf [(2, ((o : Nat) : Int)), (0, a1)] N σ g Q := by
  refine z_Oenter mi_Vi_placeOf rfl (fun _ => ?_)
  show z_U X 1 m_Vi_placeOf 0 [(0, (2, ((o : Nat) : Int))), (1, (0, a1))] [] N σ g Q
  refine z_iconst (n := 0) d_Vi_placeOf_0 (by decide) ?_
  refine z_istore_n (i := 2) (ls' := [(2, (0, 0)), (0, (2, ((o : Nat) : Int))), (1, (0, a1))]) d_Vi_placeOf_1 rfl rfl rfl ?_
  refine z_aload_n (i := 0) (c := o) 1 d_Vi_placeOf_2 rfl rfl rfl ?_
  refine z_geti (c := o) (kI := 1) d_Vi_placeOf_3 fd_Vi_many fl_Vi_21 (Or.inl rfl) rfl rfl (ks_Vi_0 ho) (kl_Vi_0 ho) ?_
  refine z_istore_n (i := 3) (ls' := [(3, (0, g o 1)), (2, (0, 0)), (0, (2, ((o : Nat) : Int))), (1, (0, a1))]) d_Vi_placeOf_6 rfl rfl rfl ?_
  refine z_iconst (n := 0) d_Vi_placeOf_7 (by decide) ?_
  refine z_istore (ls' := [(4, (0, 0)), (3, (0, g o 1)), (2, (0, 0)), (0, (2, ((o : Nat) : Int))), (1, (0, a1))]) d_Vi_placeOf_8 rfl rfl ?_
  refine z_sub (ls' := [(0, (2, ((o : Nat) : Int))), (1, (0, a1)), (2, (0, 0)), (3, (0, g o 1)), (4, (0, 0))]) [3, 4, 2, 1, 0] rfl ?_
  exact h
set_option maxRecDepth 8000 in
theorem b_Vi_placeOf_10 {X : z_X} {N : Nat} {σ g : z_G} {Q : z_P} {x1 x2 x3 x4 : Int} {o : Nat} (ho : z_lay X N σ o z_SVi z_RVi) (h : ((32 ≤ x4) → Q x2 g) ∧ (¬ (32 ≤ x4) → (((x3 ≤ x2) → Q x2 g) ∧ (¬ (x3 ≤ x2) → ((-2147483648 ≤ (x2 + x3) ∧ (x2 + x3) ≤ 2147483647) ∧ ((0 ≤ (Int.tdiv (x2 + x3) 2) ∧ (Int.tdiv (x2 + x3) 2) < 200) ∧ (((x1 ≤ (g (o + 1) (Int.tdiv (x2 + x3) 2))) → ((-2147483648 ≤ (x4 + 1) ∧ (x4 + 1) ≤ 2147483647) ∧ L_Vi_placeOf_10 X N σ x1 x2 (Int.tdiv (x2 + x3) 2) (x4 + 1) o g Q)) ∧ (¬ (x1 ≤ (g (o + 1) (Int.tdiv (x2 + x3) 2))) → ((-2147483648 ≤ ((Int.tdiv (x2 + x3) 2) + 1) ∧ ((Int.tdiv (x2 + x3) 2) + 1) ≤ 2147483647) ∧ ((-2147483648 ≤ (x4 + 1) ∧ (x4 + 1) ≤ 2147483647) ∧ L_Vi_placeOf_10 X N σ x1 ((Int.tdiv (x2 + x3) 2) + 1) x3 (x4 + 1) o g Q)))))))))) : L_Vi_placeOf_10 X N σ x1 x2 x3 x4 o g Q := by
  refine z_iload 4 d_Vi_placeOf_10 rfl ?_
  refine z_bipush (n := 32) d_Vi_placeOf_12 (by decide) (by decide) ?_
  refine z_icmp_ge (tgt := 57) d_Vi_placeOf_14 (by decide) (fun c1 => ?_) (fun c1 => ?_)
  · have h := h.1 c1
    refine z_iload_n (i := 2) 2 d_Vi_placeOf_57 rfl rfl ?_
    exact z_iret d_Vi_placeOf_58 rfl (by decide) (by decide) ⟨rfl, rfl, h⟩
  · have h := h.2 c1
    refine z_iload_n (i := 2) 2 d_Vi_placeOf_17 rfl rfl ?_
    refine z_iload_n (i := 3) 3 d_Vi_placeOf_18 rfl rfl ?_
    refine z_icmp_ge (tgt := 57) d_Vi_placeOf_19 (by decide) (fun c2 => ?_) (fun c2 => ?_)
    · have h := h.1 c2
      refine z_iload_n (i := 2) 2 d_Vi_placeOf_57 rfl rfl ?_
      exact z_iret d_Vi_placeOf_58 rfl (by decide) (by decide) ⟨rfl, rfl, h⟩
    · have h := h.2 c2
      refine z_iload_n (i := 2) 2 d_Vi_placeOf_22 rfl rfl ?_
      refine z_iload_n (i := 3) 3 d_Vi_placeOf_23 rfl rfl ?_
      obtain ⟨c3, h⟩ := h
      refine z_iadd d_Vi_placeOf_24 c3 ?_
      refine z_iconst (n := 2) d_Vi_placeOf_25 (by decide) ?_
      refine z_idiv d_Vi_placeOf_26 (by decide) ?_
      refine z_istore (ls' := [(5, (0, Int.tdiv (x2 + x3) 2)), (0, (2, ((o : Nat) : Int))), (1, (0, x1)), (2, (0, x2)), (3, (0, x3)), (4, (0, x4))]) d_Vi_placeOf_27 rfl rfl ?_
      refine z_aload_n (i := 0) (c := o) 1 d_Vi_placeOf_29 rfl rfl rfl ?_
      refine z_getr (c := o) (kI := 0) (r2 := ((o + 1 : Nat) : Int)) d_Vi_placeOf_30 fd_Vi_keys fl_Vi_9 rfl rfl rfl (ks_Vi_0 ho) (kl_Vi_0 ho) (kr_Vi_0_0 ho) ?_
      refine z_iload 0 d_Vi_placeOf_33 rfl ?_
      obtain ⟨c4, h⟩ := h
      refine z_iald (c := (o + 1)) (m := 200) d_Vi_placeOf_35 rfl (ks_Vi_1 ho) (kl_Vi_1 ho) rfl (by decide) c4 ?_
      refine z_iload_n (i := 1) 2 d_Vi_placeOf_36 rfl rfl ?_
      refine z_icmp_ge (tgt := 48) d_Vi_placeOf_37 (by decide) (fun c5 => ?_) (fun c5 => ?_)
      · have h := h.1 c5
        refine z_iload 0 d_Vi_placeOf_48 rfl ?_
        refine z_istore_n (i := 3) (ls' := [(3, (0, Int.tdiv (x2 + x3) 2)), (5, (0, Int.tdiv (x2 + x3) 2)), (0, (2, ((o : Nat) : Int))), (1, (0, x1)), (2, (0, x2)), (4, (0, x4))]) d_Vi_placeOf_50 rfl rfl rfl ?_
        obtain ⟨c6, h⟩ := h
        refine z_iinc (n := 1) (ls' := [(4, (0, x4 + 1)), (3, (0, Int.tdiv (x2 + x3) 2)), (5, (0, Int.tdiv (x2 + x3) 2)), (0, (2, ((o : Nat) : Int))), (1, (0, x1)), (2, (0, x2))]) 5 d_Vi_placeOf_51 rfl c6 rfl rfl ?_
        refine z_goto (tgt := 10) d_Vi_placeOf_54 (by decide) ?_
        refine z_sub (ls' := [(0, (2, ((o : Nat) : Int))), (1, (0, x1)), (2, (0, x2)), (3, (0, Int.tdiv (x2 + x3) 2)), (4, (0, x4 + 1))]) [3, 4, 5, 1, 0] rfl ?_
        exact h
      · have h := h.2 c5
        refine z_iload 0 d_Vi_placeOf_40 rfl ?_
        refine z_iconst (n := 1) d_Vi_placeOf_42 (by decide) ?_
        obtain ⟨c7, h⟩ := h
        refine z_iadd d_Vi_placeOf_43 c7 ?_
        refine z_istore_n (i := 2) (ls' := [(2, (0, (Int.tdiv (x2 + x3) 2) + 1)), (5, (0, Int.tdiv (x2 + x3) 2)), (0, (2, ((o : Nat) : Int))), (1, (0, x1)), (3, (0, x3)), (4, (0, x4))]) d_Vi_placeOf_44 rfl rfl rfl ?_
        refine z_goto (tgt := 51) d_Vi_placeOf_45 (by decide) ?_
        obtain ⟨c8, h⟩ := h
        refine z_iinc (n := 1) (ls' := [(4, (0, x4 + 1)), (2, (0, (Int.tdiv (x2 + x3) 2) + 1)), (5, (0, Int.tdiv (x2 + x3) 2)), (0, (2, ((o : Nat) : Int))), (1, (0, x1)), (3, (0, x3))]) 5 d_Vi_placeOf_51 rfl c8 rfl rfl ?_
        refine z_goto (tgt := 10) d_Vi_placeOf_54 (by decide) ?_
        refine z_sub (ls' := [(0, (2, ((o : Nat) : Int))), (1, (0, x1)), (2, (0, (Int.tdiv (x2 + x3) 2) + 1)), (3, (0, x3)), (4, (0, x4 + 1))]) [3, 4, 1, 5, 0] rfl ?_
        exact h
theorem d_Wk_compares_0 : decode (z_c m_Wk_compares) 0 = .ok (.iload_n 1, 1) := by decide +kernel
theorem d_Wk_compares_1 : decode (z_c m_Wk_compares) 1 = .ok (.bipush 60, 2) := by decide +kernel
theorem d_Wk_compares_3 : decode (z_c m_Wk_compares) 3 = .ok (.if_icmp .ne 14, 3) := by decide +kernel
theorem d_Wk_compares_6 : decode (z_c m_Wk_compares) 6 = .ok (.iload_n 0, 1) := by decide +kernel
theorem d_Wk_compares_7 : decode (z_c m_Wk_compares) 7 = .ok (.iload_n 2, 1) := by decide +kernel
theorem d_Wk_compares_8 : decode (z_c m_Wk_compares) 8 = .ok (.if_icmp .ge 7, 3) := by decide +kernel
theorem d_Wk_compares_11 : decode (z_c m_Wk_compares) 11 = .ok (.iconst 1, 1) := by decide +kernel
theorem d_Wk_compares_12 : decode (z_c m_Wk_compares) 12 = .ok (.goto 4, 3) := by decide +kernel
theorem d_Wk_compares_15 : decode (z_c m_Wk_compares) 15 = .ok (.iconst 0, 1) := by decide +kernel
theorem d_Wk_compares_16 : decode (z_c m_Wk_compares) 16 = .ok (.ireturn, 1) := by decide +kernel
theorem d_Wk_compares_17 : decode (z_c m_Wk_compares) 17 = .ok (.iload_n 1, 1) := by decide +kernel
theorem d_Wk_compares_18 : decode (z_c m_Wk_compares) 18 = .ok (.bipush 62, 2) := by decide +kernel
theorem d_Wk_compares_20 : decode (z_c m_Wk_compares) 20 = .ok (.if_icmp .ne 16, 3) := by decide +kernel
theorem d_Wk_compares_23 : decode (z_c m_Wk_compares) 23 = .ok (.iload_n 0, 1) := by decide +kernel
theorem d_Wk_compares_24 : decode (z_c m_Wk_compares) 24 = .ok (.iload_n 2, 1) := by decide +kernel
theorem d_Wk_compares_25 : decode (z_c m_Wk_compares) 25 = .ok (.if_icmp .le 7, 3) := by decide +kernel
theorem d_Wk_compares_28 : decode (z_c m_Wk_compares) 28 = .ok (.iconst 1, 1) := by decide +kernel
theorem d_Wk_compares_29 : decode (z_c m_Wk_compares) 29 = .ok (.goto 17, 3) := by decide +kernel
theorem d_Wk_compares_32 : decode (z_c m_Wk_compares) 32 = .ok (.iconst 0, 1) := by decide +kernel
theorem d_Wk_compares_33 : decode (z_c m_Wk_compares) 33 = .ok (.goto 13, 3) := by decide +kernel
theorem d_Wk_compares_36 : decode (z_c m_Wk_compares) 36 = .ok (.iload_n 0, 1) := by decide +kernel
theorem d_Wk_compares_37 : decode (z_c m_Wk_compares) 37 = .ok (.iload_n 2, 1) := by decide +kernel
theorem d_Wk_compares_38 : decode (z_c m_Wk_compares) 38 = .ok (.if_icmp .ne 7, 3) := by decide +kernel
theorem d_Wk_compares_41 : decode (z_c m_Wk_compares) 41 = .ok (.iconst 1, 1) := by decide +kernel
theorem d_Wk_compares_42 : decode (z_c m_Wk_compares) 42 = .ok (.goto 4, 3) := by decide +kernel
theorem d_Wk_compares_45 : decode (z_c m_Wk_compares) 45 = .ok (.iconst 0, 1) := by decide +kernel
theorem d_Wk_compares_46 : decode (z_c m_Wk_compares) 46 = .ok (.ireturn, 1) := by decide +kernel
set_option maxRecDepth 8000 in
theorem b_Wk_compares_0 {X : z_X} {N : Nat} {σ g : z_G} {Q : z_P} {a0 a1 a2 : Int} (h : ((a1 = 60) → (((a2 ≤ a0) → Q 0 g) ∧ (¬ (a2 ≤ a0) → Q 1 g))) ∧ (¬ (a1 = 60) → (((a1 = 62) → (((a0 ≤ a2) → Q 0 g) ∧ (¬ (a0 ≤ a2) → Q 1 g))) ∧ (¬ (a1 = 62) → (((a0 = a2) → Q 1 g) ∧ (¬ (a0 = a2) → Q 0 g)))))) : z_O X 1 m_Wk_compares [(0, a0), (0, a1), (0, a2)] N σ g Q := by
  refine z_Oenter mi_Wk_compares rfl (fun _ => ?_)
  show z_U X 1 m_Wk_compares 0 [(0, (0, a0)), (1, (0, a1)), (2, (0, a2))] [] N σ g Q
  refine z_iload_n (i := 1) 1 d_Wk_compares_0 rfl rfl ?_
  refine z_bipush (n := 60) d_Wk_compares_1 (by decide) (by decide) ?_
  refine z_icmp_ne (tgt := 17) d_Wk_compares_3 (by decide) (fun c1 => ?_) (fun c1 => ?_)
  · have h := h.2 c1
    refine z_iload_n (i := 1) 1 d_Wk_compares_17 rfl rfl ?_
    refine z_bipush (n := 62) d_Wk_compares_18 (by decide) (by decide) ?_
    refine z_icmp_ne (tgt := 36) d_Wk_compares_20 (by decide) (fun c2 => ?_) (fun c2 => ?_)
    · have h := h.2 c2
      refine z_iload_n (i := 0) 0 d_Wk_compares_36 rfl rfl ?_
      refine z_iload_n (i := 2) 2 d_Wk_compares_37 rfl rfl ?_
      refine z_icmp_ne (tgt := 45) d_Wk_compares_38 (by decide) (fun c3 => ?_) (fun c3 => ?_)
      · have h := h.2 c3
        refine z_iconst (n := 0) d_Wk_compares_45 (by decide) ?_
        exact z_zret d_Wk_compares_46 rfl (by decide) (by decide) (by decide) ⟨rfl, rfl, h⟩
      · have h := h.1 c3
        refine z_iconst (n := 1) d_Wk_compares_41 (by decide) ?_
        refine z_goto (tgt := 46) d_Wk_compares_42 (by decide) ?_
        exact z_zret d_Wk_compares_46 rfl (by decide) (by decide) (by decide) ⟨rfl, rfl, h⟩
    · have h := h.1 c2
      refine z_iload_n (i := 0) 0 d_Wk_compares_23 rfl rfl ?_
      refine z_iload_n (i := 2) 2 d_Wk_compares_24 rfl rfl ?_
      refine z_icmp_le (tgt := 32) d_Wk_compares_25 (by decide) (fun c4 => ?_) (fun c4 => ?_)
      · have h := h.1 c4
        refine z_iconst (n := 0) d_Wk_compares_32 (by decide) ?_
        refine z_goto (tgt := 46) d_Wk_compares_33 (by decide) ?_
        exact z_zret d_Wk_compares_46 rfl (by decide) (by decide) (by decide) ⟨rfl, rfl, h⟩
      · have h := h.2 c4
        refine z_iconst (n := 1) d_Wk_compares_28 (by decide) ?_
        refine z_goto (tgt := 46) d_Wk_compares_29 (by decide) ?_
        exact z_zret d_Wk_compares_46 rfl (by decide) (by decide) (by decide) ⟨rfl, rfl, h⟩
  · have h := h.1 c1
    refine z_iload_n (i := 0) 0 d_Wk_compares_6 rfl rfl ?_
    refine z_iload_n (i := 2) 2 d_Wk_compares_7 rfl rfl ?_
    refine z_icmp_ge (tgt := 15) d_Wk_compares_8 (by decide) (fun c5 => ?_) (fun c5 => ?_)
    · have h := h.1 c5
      refine z_iconst (n := 0) d_Wk_compares_15 (by decide) ?_
      exact z_zret d_Wk_compares_16 rfl (by decide) (by decide) (by decide) ⟨rfl, rfl, h⟩
    · have h := h.2 c5
      refine z_iconst (n := 1) d_Wk_compares_11 (by decide) ?_
      refine z_goto (tgt := 16) d_Wk_compares_12 (by decide) ?_
      exact z_zret d_Wk_compares_16 rfl (by decide) (by decide) (by decide) ⟨rfl, rfl, h⟩
theorem d_Wk_draw_0 : decode (z_c m_Wk_draw) 0 = .ok (.aload_n 0, 1) := by decide +kernel
theorem d_Wk_draw_1 : decode (z_c m_Wk_draw) 1 = .ok (.aload_n 0, 1) := by decide +kernel
theorem d_Wk_draw_2 : decode (z_c m_Wk_draw) 2 = .ok (.getfield 37, 3) := by decide +kernel
theorem d_Wk_draw_5 : decode (z_c m_Wk_draw) 5 = .ok (.sipush 3301, 3) := by decide +kernel
theorem d_Wk_draw_8 : decode (z_c m_Wk_draw) 8 = .ok (.imul, 1) := by decide +kernel
theorem d_Wk_draw_9 : decode (z_c m_Wk_draw) 9 = .ok (.sipush 11533, 3) := by decide +kernel
theorem d_Wk_draw_12 : decode (z_c m_Wk_draw) 12 = .ok (.iadd, 1) := by decide +kernel
theorem d_Wk_draw_13 : decode (z_c m_Wk_draw) 13 = .ok (.ldc 157, 2) := by decide +kernel
theorem d_Wk_draw_15 : decode (z_c m_Wk_draw) 15 = .ok (.irem, 1) := by decide +kernel
theorem d_Wk_draw_16 : decode (z_c m_Wk_draw) 16 = .ok (.putfield 37, 3) := by decide +kernel
theorem d_Wk_draw_19 : decode (z_c m_Wk_draw) 19 = .ok (.iload_n 1, 1) := by decide +kernel
theorem d_Wk_draw_20 : decode (z_c m_Wk_draw) 20 = .ok (.iconst 1, 1) := by decide +kernel
theorem d_Wk_draw_21 : decode (z_c m_Wk_draw) 21 = .ok (.if_icmp .ge 7, 3) := by decide +kernel
theorem d_Wk_draw_24 : decode (z_c m_Wk_draw) 24 = .ok (.iconst 0, 1) := by decide +kernel
theorem d_Wk_draw_25 : decode (z_c m_Wk_draw) 25 = .ok (.goto 12, 3) := by decide +kernel
theorem d_Wk_draw_28 : decode (z_c m_Wk_draw) 28 = .ok (.aload_n 0, 1) := by decide +kernel
theorem d_Wk_draw_29 : decode (z_c m_Wk_draw) 29 = .ok (.getfield 37, 3) := by decide +kernel
theorem d_Wk_draw_32 : decode (z_c m_Wk_draw) 32 = .ok (.bipush 8, 2) := by decide +kernel
theorem d_Wk_draw_34 : decode (z_c m_Wk_draw) 34 = .ok (.idiv, 1) := by decide +kernel
theorem d_Wk_draw_35 : decode (z_c m_Wk_draw) 35 = .ok (.iload_n 1, 1) := by decide +kernel
theorem d_Wk_draw_36 : decode (z_c m_Wk_draw) 36 = .ok (.irem, 1) := by decide +kernel
theorem d_Wk_draw_37 : decode (z_c m_Wk_draw) 37 = .ok (.ireturn, 1) := by decide +kernel
set_option maxRecDepth 8000 in
theorem b_Wk_draw_0 {X : z_X} {N : Nat} {σ g : z_G} {Q : z_P} {a1 : Int} {o : Nat} (ho : z_lay X N σ o z_SWk z_RWk) (h : (-2147483648 ≤ ((g o 6) * 3301) ∧ ((g o 6) * 3301) ≤ 2147483647) ∧ ((-2147483648 ≤ (((g o 6) * 3301) + 11533) ∧ (((g o 6) * 3301) + 11533) ≤ 2147483647) ∧ (((1 ≤ a1) → ((0 < a1) ∧ Q (Int.tmod (Int.tdiv (Int.tmod (((g o 6) * 3301) + 11533) 65536) 8) a1) (z_up g o 6 (Int.tmod (((g o 6) * 3301) + 11533) 65536)))) ∧ (¬ (1 ≤ a1) → Q 0 (z_up g o 6 (Int.tmod (((g o 6) * 3301) + 11533) 65536)))))) : z_O X 1 m_Wk_draw [(2, ((o : Nat) : Int)), (0, a1)] N σ g Q := by
  refine z_Oenter mi_Wk_draw rfl (fun _ => ?_)
  show z_U X 1 m_Wk_draw 0 [(0, (2, ((o : Nat) : Int))), (1, (0, a1))] [] N σ g Q
  refine z_aload_n (i := 0) (c := o) 0 d_Wk_draw_0 rfl rfl rfl ?_
  refine z_aload_n (i := 0) (c := o) 0 d_Wk_draw_1 rfl rfl rfl ?_
  refine z_geti (c := o) (kI := 6) d_Wk_draw_2 fd_Wk_drawn fl_Wk_37 (Or.inl rfl) rfl rfl (ks_Wk_0 ho) (kl_Wk_0 ho) ?_
  refine z_sipush (n := 3301) d_Wk_draw_5 (by decide) (by decide) ?_
  obtain ⟨c1, h⟩ := h
  refine z_imul d_Wk_draw_8 c1 ?_
  refine z_sipush (n := 11533) d_Wk_draw_9 (by decide) (by decide) ?_
  obtain ⟨c2, h⟩ := h
  refine z_iadd d_Wk_draw_12 c2 ?_
  refine z_ldc (v := 65536) d_Wk_draw_13 kc_Wk_157 (by decide) ?_
  refine z_irem d_Wk_draw_15 (by decide) ?_
  refine z_puti (c := o) (kI := 6) d_Wk_draw_16 fd_Wk_drawn fl_Wk_37 pf_Wk_drawn rfl rfl rfl rfl (ks_Wk_0 ho) (kl_Wk_0 ho) ?_
  refine z_iload_n (i := 1) 1 d_Wk_draw_19 rfl rfl ?_
  refine z_iconst (n := 1) d_Wk_draw_20 (by decide) ?_
  refine z_icmp_ge (tgt := 28) d_Wk_draw_21 (by decide) (fun c3 => ?_) (fun c3 => ?_)
  · have h := h.1 c3
    refine z_aload_n (i := 0) (c := o) 0 d_Wk_draw_28 rfl rfl rfl ?_
    refine z_geti (c := o) (kI := 6) d_Wk_draw_29 fd_Wk_drawn fl_Wk_37 (Or.inl rfl) rfl rfl (ks_Wk_0 ho) (kl_Wk_0 ho) ?_
    refine z_ti (b := Int.tmod (((g o 6) * 3301) + 11533) 65536) (by simp [z_up]) ?_
    refine z_bipush (n := 8) d_Wk_draw_32 (by decide) (by decide) ?_
    refine z_idiv d_Wk_draw_34 (by decide) ?_
    refine z_iload_n (i := 1) 1 d_Wk_draw_35 rfl rfl ?_
    obtain ⟨c4, h⟩ := h
    refine z_irem d_Wk_draw_36 c4 ?_
    exact z_iret d_Wk_draw_37 rfl (by decide) (by decide) ⟨rfl, rfl, h⟩
  · have h := h.2 c3
    refine z_iconst (n := 0) d_Wk_draw_24 (by decide) ?_
    refine z_goto (tgt := 37) d_Wk_draw_25 (by decide) ?_
    exact z_iret d_Wk_draw_37 rfl (by decide) (by decide) ⟨rfl, rfl, h⟩
theorem d_Wk_lineBehindEnd_0 : decode (z_c m_Wk_lineBehindEnd) 0 = .ok (.aload_n 1, 1) := by decide +kernel
theorem d_Wk_lineBehindEnd_1 : decode (z_c m_Wk_lineBehindEnd) 1 = .ok (.getfield 61, 3) := by decide +kernel
theorem d_Wk_lineBehindEnd_4 : decode (z_c m_Wk_lineBehindEnd) 4 = .ok (.iload_n 2, 1) := by decide +kernel
theorem d_Wk_lineBehindEnd_5 : decode (z_c m_Wk_lineBehindEnd) 5 = .ok (.iaload, 1) := by decide +kernel
theorem d_Wk_lineBehindEnd_6 : decode (z_c m_Wk_lineBehindEnd) 6 = .ok (.istore_n 3, 1) := by decide +kernel
theorem d_Wk_lineBehindEnd_7 : decode (z_c m_Wk_lineBehindEnd) 7 = .ok (.iload_n 3, 1) := by decide +kernel
theorem d_Wk_lineBehindEnd_8 : decode (z_c m_Wk_lineBehindEnd) 8 = .ok (.ifCond .lt 23, 3) := by decide +kernel
theorem d_Wk_lineBehindEnd_11 : decode (z_c m_Wk_lineBehindEnd) 11 = .ok (.iload_n 3, 1) := by decide +kernel
theorem d_Wk_lineBehindEnd_12 : decode (z_c m_Wk_lineBehindEnd) 12 = .ok (.aload_n 0, 1) := by decide +kernel
theorem d_Wk_lineBehindEnd_13 : decode (z_c m_Wk_lineBehindEnd) 13 = .ok (.getfield 11, 3) := by decide +kernel
theorem d_Wk_lineBehindEnd_16 : decode (z_c m_Wk_lineBehindEnd) 16 = .ok (.arraylength, 1) := by decide +kernel
theorem d_Wk_lineBehindEnd_17 : decode (z_c m_Wk_lineBehindEnd) 17 = .ok (.if_icmp .ge 14, 3) := by decide +kernel
theorem d_Wk_lineBehindEnd_20 : decode (z_c m_Wk_lineBehindEnd) 20 = .ok (.aload_n 1, 1) := by decide +kernel
theorem d_Wk_lineBehindEnd_21 : decode (z_c m_Wk_lineBehindEnd) 21 = .ok (.getfield 50, 3) := by decide +kernel
theorem d_Wk_lineBehindEnd_24 : decode (z_c m_Wk_lineBehindEnd) 24 = .ok (.iload_n 3, 1) := by decide +kernel
theorem d_Wk_lineBehindEnd_25 : decode (z_c m_Wk_lineBehindEnd) 25 = .ok (.iaload, 1) := by decide +kernel
theorem d_Wk_lineBehindEnd_26 : decode (z_c m_Wk_lineBehindEnd) 26 = .ok (.bipush 9, 2) := by decide +kernel
theorem d_Wk_lineBehindEnd_28 : decode (z_c m_Wk_lineBehindEnd) 28 = .ok (.if_icmp .eq 7, 3) := by decide +kernel
theorem d_Wk_lineBehindEnd_31 : decode (z_c m_Wk_lineBehindEnd) 31 = .ok (.iload_n 2, 1) := by decide +kernel
theorem d_Wk_lineBehindEnd_32 : decode (z_c m_Wk_lineBehindEnd) 32 = .ok (.iconst 1, 1) := by decide +kernel
theorem d_Wk_lineBehindEnd_33 : decode (z_c m_Wk_lineBehindEnd) 33 = .ok (.iadd, 1) := by decide +kernel
theorem d_Wk_lineBehindEnd_34 : decode (z_c m_Wk_lineBehindEnd) 34 = .ok (.ireturn, 1) := by decide +kernel
theorem d_Wk_lineBehindEnd_35 : decode (z_c m_Wk_lineBehindEnd) 35 = .ok (.aload_n 0, 1) := by decide +kernel
theorem d_Wk_lineBehindEnd_36 : decode (z_c m_Wk_lineBehindEnd) 36 = .ok (.getfield 11, 3) := by decide +kernel
theorem d_Wk_lineBehindEnd_39 : decode (z_c m_Wk_lineBehindEnd) 39 = .ok (.iload_n 3, 1) := by decide +kernel
theorem d_Wk_lineBehindEnd_40 : decode (z_c m_Wk_lineBehindEnd) 40 = .ok (.dup2, 1) := by decide +kernel
theorem d_Wk_lineBehindEnd_41 : decode (z_c m_Wk_lineBehindEnd) 41 = .ok (.iaload, 1) := by decide +kernel
theorem d_Wk_lineBehindEnd_42 : decode (z_c m_Wk_lineBehindEnd) 42 = .ok (.iconst 1, 1) := by decide +kernel
theorem d_Wk_lineBehindEnd_43 : decode (z_c m_Wk_lineBehindEnd) 43 = .ok (.isub, 1) := by decide +kernel
theorem d_Wk_lineBehindEnd_44 : decode (z_c m_Wk_lineBehindEnd) 44 = .ok (.iastore, 1) := by decide +kernel
theorem d_Wk_lineBehindEnd_45 : decode (z_c m_Wk_lineBehindEnd) 45 = .ok (.aload_n 0, 1) := by decide +kernel
theorem d_Wk_lineBehindEnd_46 : decode (z_c m_Wk_lineBehindEnd) 46 = .ok (.getfield 11, 3) := by decide +kernel
theorem d_Wk_lineBehindEnd_49 : decode (z_c m_Wk_lineBehindEnd) 49 = .ok (.iload_n 3, 1) := by decide +kernel
theorem d_Wk_lineBehindEnd_50 : decode (z_c m_Wk_lineBehindEnd) 50 = .ok (.iaload, 1) := by decide +kernel
theorem d_Wk_lineBehindEnd_51 : decode (z_c m_Wk_lineBehindEnd) 51 = .ok (.ifCond .le 9, 3) := by decide +kernel
theorem d_Wk_lineBehindEnd_54 : decode (z_c m_Wk_lineBehindEnd) 54 = .ok (.iload_n 3, 1) := by decide +kernel
theorem d_Wk_lineBehindEnd_55 : decode (z_c m_Wk_lineBehindEnd) 55 = .ok (.iconst 1, 1) := by decide +kernel
theorem d_Wk_lineBehindEnd_56 : decode (z_c m_Wk_lineBehindEnd) 56 = .ok (.iadd, 1) := by decide +kernel
theorem d_Wk_lineBehindEnd_57 : decode (z_c m_Wk_lineBehindEnd) 57 = .ok (.goto 6, 3) := by decide +kernel
theorem d_Wk_lineBehindEnd_60 : decode (z_c m_Wk_lineBehindEnd) 60 = .ok (.iload_n 2, 1) := by decide +kernel
theorem d_Wk_lineBehindEnd_61 : decode (z_c m_Wk_lineBehindEnd) 61 = .ok (.iconst 1, 1) := by decide +kernel
theorem d_Wk_lineBehindEnd_62 : decode (z_c m_Wk_lineBehindEnd) 62 = .ok (.iadd, 1) := by decide +kernel
theorem d_Wk_lineBehindEnd_63 : decode (z_c m_Wk_lineBehindEnd) 63 = .ok (.ireturn, 1) := by decide +kernel
set_option maxRecDepth 8000 in
theorem b_Wk_lineBehindEnd_0 {X : z_X} {N : Nat} {σ g : z_G} {Q : z_P} {a2 : Int} {o p1 : Nat} (ho : z_lay X N σ o z_SWk z_RWk) (hp1 : z_lay X N σ p1 z_SPg z_RPg) (h : (0 ≤ a2 ∧ a2 < 60) ∧ ((((g (p1 + 5) a2) < 0) → ((-2147483648 ≤ (a2 + 1) ∧ (a2 + 1) ≤ 2147483647) ∧ Q (a2 + 1) g)) ∧ (¬ ((g (p1 + 5) a2) < 0) → (((60 ≤ (g (p1 + 5) a2)) → ((-2147483648 ≤ (a2 + 1) ∧ (a2 + 1) ≤ 2147483647) ∧ Q (a2 + 1) g)) ∧ (¬ (60 ≤ (g (p1 + 5) a2)) → ((0 ≤ (g (p1 + 5) a2) ∧ (g (p1 + 5) a2) < 60) ∧ ((((g (p1 + 1) (g (p1 + 5) a2)) = 9) → ((-2147483648 ≤ ((g (o + 1) (g (p1 + 5) a2)) - 1) ∧ ((g (o + 1) (g (p1 + 5) a2)) - 1) ≤ 2147483647) ∧ (((((g (o + 1) (g (p1 + 5) a2)) - 1) ≤ 0) → ((-2147483648 ≤ (a2 + 1) ∧ (a2 + 1) ≤ 2147483647) ∧ Q (a2 + 1) (z_up g (o + 1) (g (p1 + 5) a2) ((g (o + 1) (g (p1 + 5) a2)) - 1)))) ∧ (¬ (((g (o + 1) (g (p1 + 5) a2)) - 1) ≤ 0) → ((-2147483648 ≤ ((g (p1 + 5) a2) + 1) ∧ ((g (p1 + 5) a2) + 1) ≤ 2147483647) ∧ Q ((g (p1 + 5) a2) + 1) (z_up g (o + 1) (g (p1 + 5) a2) ((g (o + 1) (g (p1 + 5) a2)) - 1))))))) ∧ (¬ ((g (p1 + 1) (g (p1 + 5) a2)) = 9) → ((-2147483648 ≤ (a2 + 1) ∧ (a2 + 1) ≤ 2147483647) ∧ Q (a2 + 1) g))))))))) : z_O X 1 m_Wk_lineBehindEnd [(2, ((o : Nat) : Int)), (2, ((p1 : Nat) : Int)), (0, a2)] N σ g Q := by
  refine z_Oenter mi_Wk_lineBehindEnd rfl (fun _ => ?_)
  show z_U X 1 m_Wk_lineBehindEnd 0 [(0, (2, ((o : Nat) : Int))), (1, (2, ((p1 : Nat) : Int))), (2, (0, a2))] [] N σ g Q
  refine z_aload_n (i := 1) (c := p1) 1 d_Wk_lineBehindEnd_0 rfl rfl rfl ?_
  refine z_getr (c := p1) (kI := 7) (r2 := ((p1 + 5 : Nat) : Int)) d_Wk_lineBehindEnd_1 fd_Pg_mates fl_Wk_61 rfl rfl rfl (ks_Pg_0 hp1) (kl_Pg_0 hp1) (kr_Pg_0_7 hp1) ?_
  refine z_iload_n (i := 2) 2 d_Wk_lineBehindEnd_4 rfl rfl ?_
  obtain ⟨c1, h⟩ := h
  refine z_iald (c := (p1 + 5)) (m := 60) d_Wk_lineBehindEnd_5 rfl (ks_Pg_5 hp1) (kl_Pg_5 hp1) rfl (by decide) c1 ?_
  refine z_istore_n (i := 3) (ls' := [(3, (0, g (p1 + 5) a2)), (0, (2, ((o : Nat) : Int))), (1, (2, ((p1 : Nat) : Int))), (2, (0, a2))]) d_Wk_lineBehindEnd_6 rfl rfl rfl ?_
  refine z_iload_n (i := 3) 0 d_Wk_lineBehindEnd_7 rfl rfl ?_
  refine z_if_lt (tgt := 31) d_Wk_lineBehindEnd_8 (by decide) (fun c2 => ?_) (fun c2 => ?_)
  · have h := h.1 c2
    refine z_iload_n (i := 2) 3 d_Wk_lineBehindEnd_31 rfl rfl ?_
    refine z_iconst (n := 1) d_Wk_lineBehindEnd_32 (by decide) ?_
    obtain ⟨c3, h⟩ := h
    refine z_iadd d_Wk_lineBehindEnd_33 c3 ?_
    exact z_iret d_Wk_lineBehindEnd_34 rfl (by decide) (by decide) ⟨rfl, rfl, h⟩
  · have h := h.2 c2
    refine z_iload_n (i := 3) 0 d_Wk_lineBehindEnd_11 rfl rfl ?_
    refine z_aload_n (i := 0) (c := o) 1 d_Wk_lineBehindEnd_12 rfl rfl rfl ?_
    refine z_getr (c := o) (kI := 7) (r2 := ((o + 1 : Nat) : Int)) d_Wk_lineBehindEnd_13 fd_Wk_rounds fl_Wk_11 rfl rfl rfl (ks_Wk_0 ho) (kl_Wk_0 ho) (kr_Wk_0_7 ho) ?_
    refine z_alen (c := (o + 1)) (m := 60) (cA := z_A X 1) d_Wk_lineBehindEnd_16 rfl (ks_Wk_1 ho) (kl_Wk_1 ho) rfl (by decide) rfl ?_
    refine z_icmp_ge (tgt := 31) d_Wk_lineBehindEnd_17 (by decide) (fun c4 => ?_) (fun c4 => ?_)
    · have h := h.1 c4
      refine z_iload_n (i := 2) 3 d_Wk_lineBehindEnd_31 rfl rfl ?_
      refine z_iconst (n := 1) d_Wk_lineBehindEnd_32 (by decide) ?_
      obtain ⟨c5, h⟩ := h
      refine z_iadd d_Wk_lineBehindEnd_33 c5 ?_
      exact z_iret d_Wk_lineBehindEnd_34 rfl (by decide) (by decide) ⟨rfl, rfl, h⟩
    · have h := h.2 c4
      refine z_aload_n (i := 1) (c := p1) 2 d_Wk_lineBehindEnd_20 rfl rfl rfl ?_
      refine z_getr (c := p1) (kI := 3) (r2 := ((p1 + 1 : Nat) : Int)) d_Wk_lineBehindEnd_21 fd_Pg_kinds fl_Wk_50 rfl rfl rfl (ks_Pg_0 hp1) (kl_Pg_0 hp1) (kr_Pg_0_3 hp1) ?_
      refine z_iload_n (i := 3) 0 d_Wk_lineBehindEnd_24 rfl rfl ?_
      obtain ⟨c6, h⟩ := h
      refine z_iald (c := (p1 + 1)) (m := 60) d_Wk_lineBehindEnd_25 rfl (ks_Pg_1 hp1) (kl_Pg_1 hp1) rfl (by decide) c6 ?_
      refine z_bipush (n := 9) d_Wk_lineBehindEnd_26 (by decide) (by decide) ?_
      refine z_icmp_eq (tgt := 35) d_Wk_lineBehindEnd_28 (by decide) (fun c7 => ?_) (fun c7 => ?_)
      · have h := h.1 c7
        refine z_aload_n (i := 0) (c := o) 1 d_Wk_lineBehindEnd_35 rfl rfl rfl ?_
        refine z_getr (c := o) (kI := 7) (r2 := ((o + 1 : Nat) : Int)) d_Wk_lineBehindEnd_36 fd_Wk_rounds fl_Wk_11 rfl rfl rfl (ks_Wk_0 ho) (kl_Wk_0 ho) (kr_Wk_0_7 ho) ?_
        refine z_iload_n (i := 3) 0 d_Wk_lineBehindEnd_39 rfl rfl ?_
        refine z_dup2 d_Wk_lineBehindEnd_40 rfl rfl ?_
        refine z_iald (c := (o + 1)) (m := 60) d_Wk_lineBehindEnd_41 rfl (ks_Wk_1 ho) (kl_Wk_1 ho) rfl (by decide) c6 ?_
        refine z_iconst (n := 1) d_Wk_lineBehindEnd_42 (by decide) ?_
        obtain ⟨c8, h⟩ := h
        refine z_isub d_Wk_lineBehindEnd_43 c8 ?_
        refine z_iast (c := (o + 1)) (m := 60) d_Wk_lineBehindEnd_44 rfl (ks_Wk_1 ho) (kl_Wk_1 ho) rfl (by decide) c6 ?_
        refine z_aload_n (i := 0) (c := o) 1 d_Wk_lineBehindEnd_45 rfl rfl rfl ?_
        refine z_getr (c := o) (kI := 7) (r2 := ((o + 1 : Nat) : Int)) d_Wk_lineBehindEnd_46 fd_Wk_rounds fl_Wk_11 rfl rfl rfl (ks_Wk_0 ho) (kl_Wk_0 ho) (kr_Wk_0_7 ho) ?_
        refine z_iload_n (i := 3) 0 d_Wk_lineBehindEnd_49 rfl rfl ?_
        refine z_iald (c := (o + 1)) (m := 60) d_Wk_lineBehindEnd_50 rfl (ks_Wk_1 ho) (kl_Wk_1 ho) rfl (by decide) c6 ?_
        refine z_ti (b := (g (o + 1) (g (p1 + 5) a2)) - 1) (by simp [z_up]) ?_
        refine z_if_le (tgt := 60) d_Wk_lineBehindEnd_51 (by decide) (fun c9 => ?_) (fun c9 => ?_)
        · have h := h.1 c9
          refine z_iload_n (i := 2) 3 d_Wk_lineBehindEnd_60 rfl rfl ?_
          refine z_iconst (n := 1) d_Wk_lineBehindEnd_61 (by decide) ?_
          obtain ⟨c10, h⟩ := h
          refine z_iadd d_Wk_lineBehindEnd_62 c10 ?_
          exact z_iret d_Wk_lineBehindEnd_63 rfl (by decide) (by decide) ⟨rfl, rfl, h⟩
        · have h := h.2 c9
          refine z_iload_n (i := 3) 0 d_Wk_lineBehindEnd_54 rfl rfl ?_
          refine z_iconst (n := 1) d_Wk_lineBehindEnd_55 (by decide) ?_
          obtain ⟨c11, h⟩ := h
          refine z_iadd d_Wk_lineBehindEnd_56 c11 ?_
          refine z_goto (tgt := 63) d_Wk_lineBehindEnd_57 (by decide) ?_
          exact z_iret d_Wk_lineBehindEnd_63 rfl (by decide) (by decide) ⟨rfl, rfl, h⟩
      · have h := h.2 c7
        refine z_iload_n (i := 2) 3 d_Wk_lineBehindEnd_31 rfl rfl ?_
        refine z_iconst (n := 1) d_Wk_lineBehindEnd_32 (by decide) ?_
        obtain ⟨c12, h⟩ := h
        refine z_iadd d_Wk_lineBehindEnd_33 c12 ?_
        exact z_iret d_Wk_lineBehindEnd_34 rfl (by decide) (by decide) ⟨rfl, rfl, h⟩
theorem d_Wk_moves_0 : decode (z_c m_Wk_moves) 0 = .ok (.iload_n 1, 1) := by decide +kernel
theorem d_Wk_moves_1 : decode (z_c m_Wk_moves) 1 = .ok (.ifCond .eq 13, 3) := by decide +kernel
theorem d_Wk_moves_4 : decode (z_c m_Wk_moves) 4 = .ok (.aload_n 0, 1) := by decide +kernel
theorem d_Wk_moves_5 : decode (z_c m_Wk_moves) 5 = .ok (.dup, 1) := by decide +kernel
theorem d_Wk_moves_6 : decode (z_c m_Wk_moves) 6 = .ok (.getfield 24, 3) := by decide +kernel
theorem d_Wk_moves_9 : decode (z_c m_Wk_moves) 9 = .ok (.iconst 1, 1) := by decide +kernel
theorem d_Wk_moves_10 : decode (z_c m_Wk_moves) 10 = .ok (.iadd, 1) := by decide +kernel
theorem d_Wk_moves_11 : decode (z_c m_Wk_moves) 11 = .ok (.putfield 24, 3) := by decide +kernel
theorem d_Wk_moves_14 : decode (z_c m_Wk_moves) 14 = .ok (.iload_n 1, 1) := by decide +kernel
theorem d_Wk_moves_15 : decode (z_c m_Wk_moves) 15 = .ok (.ireturn, 1) := by decide +kernel
set_option maxRecDepth 8000 in
theorem b_Wk_moves_0 {X : z_X} {N : Nat} {σ g : z_G} {Q : z_P} {a1 : Int} {o : Nat} (ho : z_lay X N σ o z_SWk z_RWk) (h : ((a1 = 0) → ((a1 = 0 ∨ a1 = 1) ∧ Q a1 g)) ∧ (¬ (a1 = 0) → ((-2147483648 ≤ ((g o 2) + 1) ∧ ((g o 2) + 1) ≤ 2147483647) ∧ ((a1 = 0 ∨ a1 = 1) ∧ Q a1 (z_up g o 2 ((g o 2) + 1)))))) : z_O X 1 m_Wk_moves [(2, ((o : Nat) : Int)), (0, a1)] N σ g Q := by
  refine z_Oenter mi_Wk_moves rfl (fun _ => ?_)
  show z_U X 1 m_Wk_moves 0 [(0, (2, ((o : Nat) : Int))), (1, (0, a1))] [] N σ g Q
  refine z_iload_n (i := 1) 1 d_Wk_moves_0 rfl rfl ?_
  refine z_if_eq (tgt := 14) d_Wk_moves_1 (by decide) (fun c1 => ?_) (fun c1 => ?_)
  · have h := h.1 c1
    refine z_iload_n (i := 1) 1 d_Wk_moves_14 rfl rfl ?_
    obtain ⟨c2, h⟩ := h
    exact z_zret d_Wk_moves_15 rfl (by decide) (by decide) c2 ⟨rfl, rfl, h⟩
  · have h := h.2 c1
    refine z_aload_n (i := 0) (c := o) 0 d_Wk_moves_4 rfl rfl rfl ?_
    refine z_dup d_Wk_moves_5 rfl ?_
    refine z_geti (c := o) (kI := 2) d_Wk_moves_6 fd_Wk_moved fl_Wk_24 (Or.inl rfl) rfl rfl (ks_Wk_0 ho) (kl_Wk_0 ho) ?_
    refine z_iconst (n := 1) d_Wk_moves_9 (by decide) ?_
    obtain ⟨c3, h⟩ := h
    refine z_iadd d_Wk_moves_10 c3 ?_
    refine z_puti (c := o) (kI := 2) d_Wk_moves_11 fd_Wk_moved fl_Wk_24 pf_Wk_moved rfl rfl rfl rfl (ks_Wk_0 ho) (kl_Wk_0 ho) ?_
    refine z_iload_n (i := 1) 1 d_Wk_moves_14 rfl rfl ?_
    obtain ⟨c4, h⟩ := h
    exact z_zret d_Wk_moves_15 rfl (by decide) (by decide) c4 ⟨rfl, rfl, h⟩
theorem d_Wk_orders_0 : decode (z_c m_Wk_orders) 0 = .ok (.aload_n 0, 1) := by decide +kernel
theorem d_Wk_orders_1 : decode (z_c m_Wk_orders) 1 = .ok (.getfield 148, 3) := by decide +kernel
theorem d_Wk_orders_4 : decode (z_c m_Wk_orders) 4 = .ok (.iload_n 1, 1) := by decide +kernel
theorem d_Wk_orders_5 : decode (z_c m_Wk_orders) 5 = .ok (.if_icmp .ne 5, 3) := by decide +kernel
theorem d_Wk_orders_8 : decode (z_c m_Wk_orders) 8 = .ok (.iconst 0, 1) := by decide +kernel
theorem d_Wk_orders_9 : decode (z_c m_Wk_orders) 9 = .ok (.ireturn, 1) := by decide +kernel
theorem d_Wk_orders_10 : decode (z_c m_Wk_orders) 10 = .ok (.aload_n 0, 1) := by decide +kernel
theorem d_Wk_orders_11 : decode (z_c m_Wk_orders) 11 = .ok (.iload_n 1, 1) := by decide +kernel
theorem d_Wk_orders_12 : decode (z_c m_Wk_orders) 12 = .ok (.putfield 148, 3) := by decide +kernel
theorem d_Wk_orders_15 : decode (z_c m_Wk_orders) 15 = .ok (.iconst 1, 1) := by decide +kernel
theorem d_Wk_orders_16 : decode (z_c m_Wk_orders) 16 = .ok (.ireturn, 1) := by decide +kernel
set_option maxRecDepth 8000 in
theorem b_Wk_orders_0 {X : z_X} {N : Nat} {σ g : z_G} {Q : z_P} {a1 : Int} {p0 : Nat} (hp0 : z_lay X N σ p0 z_SBd z_RBd) (h : (((g p0 0) = a1) → Q 0 g) ∧ (¬ ((g p0 0) = a1) → Q 1 (z_up g p0 0 a1))) : z_O X 1 m_Wk_orders [(2, ((p0 : Nat) : Int)), (0, a1)] N σ g Q := by
  refine z_Oenter mi_Wk_orders rfl (fun _ => ?_)
  show z_U X 1 m_Wk_orders 0 [(0, (2, ((p0 : Nat) : Int))), (1, (0, a1))] [] N σ g Q
  refine z_aload_n (i := 0) (c := p0) 0 d_Wk_orders_0 rfl rfl rfl ?_
  refine z_geti (c := p0) (kI := 0) d_Wk_orders_1 fd_Bd_order fl_Wk_148 (Or.inl rfl) rfl rfl (ks_Bd_0 hp0) (kl_Bd_0 hp0) ?_
  refine z_iload_n (i := 1) 1 d_Wk_orders_4 rfl rfl ?_
  refine z_icmp_ne (tgt := 10) d_Wk_orders_5 (by decide) (fun c1 => ?_) (fun c1 => ?_)
  · have h := h.2 c1
    refine z_aload_n (i := 0) (c := p0) 0 d_Wk_orders_10 rfl rfl rfl ?_
    refine z_iload_n (i := 1) 1 d_Wk_orders_11 rfl rfl ?_
    refine z_puti (c := p0) (kI := 0) d_Wk_orders_12 fd_Bd_order fl_Wk_148 pf_Bd_order rfl rfl rfl rfl (ks_Bd_0 hp0) (kl_Bd_0 hp0) ?_
    refine z_iconst (n := 1) d_Wk_orders_15 (by decide) ?_
    exact z_zret d_Wk_orders_16 rfl (by decide) (by decide) (by decide) ⟨rfl, rfl, h⟩
  · have h := h.1 c1
    refine z_iconst (n := 0) d_Wk_orders_8 (by decide) ?_
    exact z_zret d_Wk_orders_9 rfl (by decide) (by decide) (by decide) ⟨rfl, rfl, h⟩
theorem d_Bd_copyFrom_0 : decode (z_c m_Bd_copyFrom) 0 = .ok (.aload_n 0, 1) := by decide +kernel
theorem d_Bd_copyFrom_1 : decode (z_c m_Bd_copyFrom) 1 = .ok (.aload_n 1, 1) := by decide +kernel
theorem d_Bd_copyFrom_2 : decode (z_c m_Bd_copyFrom) 2 = .ok (.getfield 42, 3) := by decide +kernel
theorem d_Bd_copyFrom_5 : decode (z_c m_Bd_copyFrom) 5 = .ok (.putfield 42, 3) := by decide +kernel
theorem d_Bd_copyFrom_8 : decode (z_c m_Bd_copyFrom) 8 = .ok (.aload_n 0, 1) := by decide +kernel
theorem d_Bd_copyFrom_9 : decode (z_c m_Bd_copyFrom) 9 = .ok (.aload_n 1, 1) := by decide +kernel
theorem d_Bd_copyFrom_10 : decode (z_c m_Bd_copyFrom) 10 = .ok (.getfield 46, 3) := by decide +kernel
theorem d_Bd_copyFrom_13 : decode (z_c m_Bd_copyFrom) 13 = .ok (.putfield 46, 3) := by decide +kernel
theorem d_Bd_copyFrom_16 : decode (z_c m_Bd_copyFrom) 16 = .ok (.aload_n 0, 1) := by decide +kernel
theorem d_Bd_copyFrom_17 : decode (z_c m_Bd_copyFrom) 17 = .ok (.getfield 12, 3) := by decide +kernel
theorem d_Bd_copyFrom_20 : decode (z_c m_Bd_copyFrom) 20 = .ok (.aload_n 1, 1) := by decide +kernel
theorem d_Bd_copyFrom_21 : decode (z_c m_Bd_copyFrom) 21 = .ok (.getfield 12, 3) := by decide +kernel
theorem d_Bd_copyFrom_24 : decode (z_c m_Bd_copyFrom) 24 = .ok (.invokevirtual 60, 3) := by decide +kernel
theorem d_Bd_copyFrom_27 : decode (z_c m_Bd_copyFrom) 27 = .ok (.aload_n 0, 1) := by decide +kernel
theorem d_Bd_copyFrom_28 : decode (z_c m_Bd_copyFrom) 28 = .ok (.getfield 21, 3) := by decide +kernel
theorem d_Bd_copyFrom_31 : decode (z_c m_Bd_copyFrom) 31 = .ok (.aload_n 1, 1) := by decide +kernel
theorem d_Bd_copyFrom_32 : decode (z_c m_Bd_copyFrom) 32 = .ok (.getfield 21, 3) := by decide +kernel
theorem d_Bd_copyFrom_35 : decode (z_c m_Bd_copyFrom) 35 = .ok (.invokevirtual 63, 3) := by decide +kernel
theorem d_Bd_copyFrom_38 : decode (z_c m_Bd_copyFrom) 38 = .ok (.aload_n 0, 1) := by decide +kernel
theorem d_Bd_copyFrom_39 : decode (z_c m_Bd_copyFrom) 39 = .ok (.getfield 28, 3) := by decide +kernel
theorem d_Bd_copyFrom_42 : decode (z_c m_Bd_copyFrom) 42 = .ok (.aload_n 1, 1) := by decide +kernel
theorem d_Bd_copyFrom_43 : decode (z_c m_Bd_copyFrom) 43 = .ok (.getfield 28, 3) := by decide +kernel
theorem d_Bd_copyFrom_46 : decode (z_c m_Bd_copyFrom) 46 = .ok (.invokevirtual 66, 3) := by decide +kernel
theorem d_Bd_copyFrom_49 : decode (z_c m_Bd_copyFrom) 49 = .ok (.aload_n 0, 1) := by decide +kernel
theorem d_Bd_copyFrom_50 : decode (z_c m_Bd_copyFrom) 50 = .ok (.getfield 35, 3) := by decide +kernel
theorem d_Bd_copyFrom_53 : decode (z_c m_Bd_copyFrom) 53 = .ok (.aload_n 1, 1) := by decide +kernel
theorem d_Bd_copyFrom_54 : decode (z_c m_Bd_copyFrom) 54 = .ok (.getfield 35, 3) := by decide +kernel
theorem d_Bd_copyFrom_57 : decode (z_c m_Bd_copyFrom) 57 = .ok (.invokevirtual 69, 3) := by decide +kernel
theorem d_Bd_copyFrom_60 : decode (z_c m_Bd_copyFrom) 60 = .ok (.return_, 1) := by decide +kernel
set_option maxRecDepth 8000 in
theorem b_Bd_copyFrom_0 {X : z_X} {N : Nat} {σ g : z_G} {Q : z_P} {o p1 : Nat} (ho : z_lay X N σ o z_SBd z_RBd) (hp1 : z_lay X N σ p1 z_SBd z_RBd) (h : z_O X 1 m_Sp_copyFrom [(2, ((o + 1 : Nat) : Int)), (2, ((p1 + 1 : Nat) : Int))] N σ (z_up (z_up g o 0 (g p1 0)) o 1 ((z_up g o 0 (g p1 0)) p1 1)) (fun r0 g0 => (z_O X 1 m_Pi_copyFrom [(2, ((o + 2 : Nat) : Int)), (2, ((p1 + 2 : Nat) : Int))] N σ g0 (fun r1 g1 => (z_O X 1 m_Vi_copyFrom [(2, ((o + 6 : Nat) : Int)), (2, ((p1 + 6 : Nat) : Int))] N σ g1 (fun r2 g2 => (z_O X 1 m_Pg_copyFrom [(2, ((o + 8 : Nat) : Int)), (2, ((p1 + 8 : Nat) : Int))] N σ g2 (fun r3 g3 => Q 0 g3)))))))) : z_O X 2 m_Bd_copyFrom [(2, ((o : Nat) : Int)), (2, ((p1 : Nat) : Int))] N σ g Q := by
  refine z_Oenter mi_Bd_copyFrom rfl (fun _ => ?_)
  show z_U X 2 m_Bd_copyFrom 0 [(0, (2, ((o : Nat) : Int))), (1, (2, ((p1 : Nat) : Int)))] [] N σ g Q
  refine z_aload_n (i := 0) (c := o) 0 d_Bd_copyFrom_0 rfl rfl rfl ?_
  refine z_aload_n (i := 1) (c := p1) 1 d_Bd_copyFrom_1 rfl rfl rfl ?_
  refine z_geti (c := p1) (kI := 0) d_Bd_copyFrom_2 fd_Bd_order fl_Bd_42 (Or.inl rfl) rfl rfl (ks_Bd_0 hp1) (kl_Bd_0 hp1) ?_
  refine z_puti (c := o) (kI := 0) d_Bd_copyFrom_5 fd_Bd_order fl_Bd_42 pf_Bd_order rfl rfl rfl rfl (ks_Bd_0 ho) (kl_Bd_0 ho) ?_
  refine z_aload_n (i := 0) (c := o) 0 d_Bd_copyFrom_8 rfl rfl rfl ?_
  refine z_aload_n (i := 1) (c := p1) 1 d_Bd_copyFrom_9 rfl rfl rfl ?_
  refine z_geti (c := p1) (kI := 1) d_Bd_copyFrom_10 fd_Bd_odds fl_Bd_46 (Or.inl rfl) rfl rfl (ks_Bd_0 hp1) (kl_Bd_0 hp1) ?_
  refine z_puti (c := o) (kI := 1) d_Bd_copyFrom_13 fd_Bd_odds fl_Bd_46 pf_Bd_odds rfl rfl rfl rfl (ks_Bd_0 ho) (kl_Bd_0 ho) ?_
  refine z_aload_n (i := 0) (c := o) 0 d_Bd_copyFrom_16 rfl rfl rfl ?_
  refine z_getr (c := o) (kI := 2) (r2 := ((o + 1 : Nat) : Int)) d_Bd_copyFrom_17 fd_Bd_walker fl_Bd_12 rfl rfl rfl (ks_Bd_0 ho) (kl_Bd_0 ho) (kr_Bd_0_2 ho) ?_
  refine z_aload_n (i := 1) (c := p1) 1 d_Bd_copyFrom_20 rfl rfl rfl ?_
  refine z_getr (c := p1) (kI := 2) (r2 := ((p1 + 1 : Nat) : Int)) d_Bd_copyFrom_21 fd_Bd_walker fl_Bd_12 rfl rfl rfl (ks_Bd_0 hp1) (kl_Bd_0 hp1) (kr_Bd_0_2 hp1) ?_
  refine z_cV (c := (o + 1)) (as := [(2, ((p1 + 1 : Nat) : Int))]) (d' := 1) (st := []) d_Bd_copyFrom_24 mi_Sp_copyFrom ml_Bd_60 mv_Sp_copyFrom se_Sp_copyFrom rfl rfl rfl rfl (ks_Bd_1 ho) rfl rfl (kl_Bd_1 ho) rfl rfl (z_Omono h (fun r0 g0 _ h hro => ?_))
  show z_U X 2 m_Bd_copyFrom 27 [(0, (2, ((o : Nat) : Int))), (1, (2, ((p1 : Nat) : Int)))] [] N σ g0 Q
  refine z_aload_n (i := 0) (c := o) 0 d_Bd_copyFrom_27 rfl rfl rfl ?_
  refine z_getr (c := o) (kI := 3) (r2 := ((o + 2 : Nat) : Int)) d_Bd_copyFrom_28 fd_Bd_pins fl_Bd_21 rfl rfl rfl (ks_Bd_0 ho) (kl_Bd_0 ho) (kr_Bd_0_3 ho) ?_
  refine z_aload_n (i := 1) (c := p1) 1 d_Bd_copyFrom_31 rfl rfl rfl ?_
  refine z_getr (c := p1) (kI := 3) (r2 := ((p1 + 2 : Nat) : Int)) d_Bd_copyFrom_32 fd_Bd_pins fl_Bd_21 rfl rfl rfl (ks_Bd_0 hp1) (kl_Bd_0 hp1) (kr_Bd_0_3 hp1) ?_
  refine z_cV (c := (o + 2)) (as := [(2, ((p1 + 2 : Nat) : Int))]) (d' := 1) (st := []) d_Bd_copyFrom_35 mi_Pi_copyFrom ml_Bd_63 mv_Pi_copyFrom se_Pi_copyFrom rfl rfl rfl rfl (ks_Bd_2 ho) rfl rfl (kl_Bd_2 ho) rfl rfl (z_Omono h (fun r1 g1 _ h hro => ?_))
  show z_U X 2 m_Bd_copyFrom 38 [(0, (2, ((o : Nat) : Int))), (1, (2, ((p1 : Nat) : Int)))] [] N σ g1 Q
  refine z_aload_n (i := 0) (c := o) 0 d_Bd_copyFrom_38 rfl rfl rfl ?_
  refine z_getr (c := o) (kI := 4) (r2 := ((o + 6 : Nat) : Int)) d_Bd_copyFrom_39 fd_Bd_visits fl_Bd_28 rfl rfl rfl (ks_Bd_0 ho) (kl_Bd_0 ho) (kr_Bd_0_4 ho) ?_
  refine z_aload_n (i := 1) (c := p1) 1 d_Bd_copyFrom_42 rfl rfl rfl ?_
  refine z_getr (c := p1) (kI := 4) (r2 := ((p1 + 6 : Nat) : Int)) d_Bd_copyFrom_43 fd_Bd_visits fl_Bd_28 rfl rfl rfl (ks_Bd_0 hp1) (kl_Bd_0 hp1) (kr_Bd_0_4 hp1) ?_
  refine z_cV (c := (o + 6)) (as := [(2, ((p1 + 6 : Nat) : Int))]) (d' := 1) (st := []) d_Bd_copyFrom_46 mi_Vi_copyFrom ml_Bd_66 mv_Vi_copyFrom se_Vi_copyFrom rfl rfl rfl rfl (ks_Bd_6 ho) rfl rfl (kl_Bd_6 ho) rfl rfl (z_Omono h (fun r2 g2 _ h hro => ?_))
  show z_U X 2 m_Bd_copyFrom 49 [(0, (2, ((o : Nat) : Int))), (1, (2, ((p1 : Nat) : Int)))] [] N σ g2 Q
  refine z_aload_n (i := 0) (c := o) 0 d_Bd_copyFrom_49 rfl rfl rfl ?_
  refine z_getr (c := o) (kI := 5) (r2 := ((o + 8 : Nat) : Int)) d_Bd_copyFrom_50 fd_Bd_program fl_Bd_35 rfl rfl rfl (ks_Bd_0 ho) (kl_Bd_0 ho) (kr_Bd_0_5 ho) ?_
  refine z_aload_n (i := 1) (c := p1) 1 d_Bd_copyFrom_53 rfl rfl rfl ?_
  refine z_getr (c := p1) (kI := 5) (r2 := ((p1 + 8 : Nat) : Int)) d_Bd_copyFrom_54 fd_Bd_program fl_Bd_35 rfl rfl rfl (ks_Bd_0 hp1) (kl_Bd_0 hp1) (kr_Bd_0_5 hp1) ?_
  refine z_cV (c := (o + 8)) (as := [(2, ((p1 + 8 : Nat) : Int))]) (d' := 1) (st := []) d_Bd_copyFrom_57 mi_Pg_copyFrom ml_Bd_69 mv_Pg_copyFrom se_Pg_copyFrom rfl rfl rfl rfl (ks_Bd_8 ho) rfl rfl (kl_Bd_8 ho) rfl rfl (z_Omono h (fun r3 g3 _ h hro => ?_))
  show z_U X 2 m_Bd_copyFrom 60 [(0, (2, ((o : Nat) : Int))), (1, (2, ((p1 : Nat) : Int)))] [] N σ g3 Q
  exact z_vret d_Bd_copyFrom_60 rfl (by decide) (by decide) ⟨rfl, rfl, h⟩
theorem d_Bd_pinHere_0 : decode (z_c m_Bd_pinHere) 0 = .ok (.aload_n 0, 1) := by decide +kernel
theorem d_Bd_pinHere_1 : decode (z_c m_Bd_pinHere) 1 = .ok (.getfield 21, 3) := by decide +kernel
theorem d_Bd_pinHere_4 : decode (z_c m_Bd_pinHere) 4 = .ok (.aload_n 0, 1) := by decide +kernel
theorem d_Bd_pinHere_5 : decode (z_c m_Bd_pinHere) 5 = .ok (.getfield 12, 3) := by decide +kernel
theorem d_Bd_pinHere_8 : decode (z_c m_Bd_pinHere) 8 = .ok (.invokevirtual 94, 3) := by decide +kernel
theorem d_Bd_pinHere_11 : decode (z_c m_Bd_pinHere) 11 = .ok (.aload_n 0, 1) := by decide +kernel
theorem d_Bd_pinHere_12 : decode (z_c m_Bd_pinHere) 12 = .ok (.getfield 12, 3) := by decide +kernel
theorem d_Bd_pinHere_15 : decode (z_c m_Bd_pinHere) 15 = .ok (.invokevirtual 98, 3) := by decide +kernel
theorem d_Bd_pinHere_18 : decode (z_c m_Bd_pinHere) 18 = .ok (.invokevirtual 101, 3) := by decide +kernel
theorem d_Bd_pinHere_21 : decode (z_c m_Bd_pinHere) 21 = .ok (.ireturn, 1) := by decide +kernel
set_option maxRecDepth 8000 in
theorem b_Bd_pinHere_0 {X : z_X} {N : Nat} {σ g : z_G} {Q : z_P} {o : Nat} (ho : z_lay X N σ o z_SBd z_RBd) (h : (-2147483648 ≤ ((g (o + 1) 0) + (g (o + 1) 2)) ∧ ((g (o + 1) 0) + (g (o + 1) 2)) ≤ 2147483647) ∧ ((-2147483648 ≤ ((g (o + 1) 1) + (g (o + 1) 3)) ∧ ((g (o + 1) 1) + (g (o + 1) 3)) ≤ 2147483647) ∧ (z_O X 1 m_Pi_find [(2, ((o + 2 : Nat) : Int)), (0, (g (o + 1) 0) + (g (o + 1) 2)), (0, (g (o + 1) 1) + (g (o + 1) 3))] N σ g (fun r0 g0 => Q r0 g0)))) : z_O X 2 m_Bd_pinHere [(2, ((o : Nat) : Int))] N σ g Q := by
  refine z_Oenter mi_Bd_pinHere rfl (fun _ => ?_)
  show z_U X 2 m_Bd_pinHere 0 [(0, (2, ((o : Nat) : Int)))] [] N σ g Q
  refine z_aload_n (i := 0) (c := o) 0 d_Bd_pinHere_0 rfl rfl rfl ?_
  refine z_getr (c := o) (kI := 3) (r2 := ((o + 2 : Nat) : Int)) d_Bd_pinHere_1 fd_Bd_pins fl_Bd_21 rfl rfl rfl (ks_Bd_0 ho) (kl_Bd_0 ho) (kr_Bd_0_3 ho) ?_
  refine z_aload_n (i := 0) (c := o) 0 d_Bd_pinHere_4 rfl rfl rfl ?_
  refine z_getr (c := o) (kI := 2) (r2 := ((o + 1 : Nat) : Int)) d_Bd_pinHere_5 fd_Bd_walker fl_Bd_12 rfl rfl rfl (ks_Bd_0 ho) (kl_Bd_0 ho) (kr_Bd_0_2 ho) ?_
  refine z_cV (c := (o + 1)) (as := []) (d' := 1) (st := [(2, ((o + 2 : Nat) : Int))]) d_Bd_pinHere_8 mi_Sp_ownTop ml_Bd_94 mv_Sp_ownTop se_Sp_ownTop rfl rfl rfl rfl (ks_Bd_1 ho) rfl rfl (kl_Bd_1 ho) rfl rfl (b_Sp_ownTop_0 (ky_Bd_1 ho) ?_)
  obtain ⟨c1, h⟩ := h
  refine ⟨c1, ?_⟩
  intro _
  show z_U X 2 m_Bd_pinHere 11 [(0, (2, ((o : Nat) : Int)))] [(0, (g (o + 1) 0) + (g (o + 1) 2)), (2, ((o + 2 : Nat) : Int))] N σ g Q
  refine z_aload_n (i := 0) (c := o) 0 d_Bd_pinHere_11 rfl rfl rfl ?_
  refine z_getr (c := o) (kI := 2) (r2 := ((o + 1 : Nat) : Int)) d_Bd_pinHere_12 fd_Bd_walker fl_Bd_12 rfl rfl rfl (ks_Bd_0 ho) (kl_Bd_0 ho) (kr_Bd_0_2 ho) ?_
  refine z_cV (c := (o + 1)) (as := []) (d' := 1) (st := [(0, (g (o + 1) 0) + (g (o + 1) 2)), (2, ((o + 2 : Nat) : Int))]) d_Bd_pinHere_15 mi_Sp_ownBottom ml_Bd_98 mv_Sp_ownBottom se_Sp_ownBottom rfl rfl rfl rfl (ks_Bd_1 ho) rfl rfl (kl_Bd_1 ho) rfl rfl (b_Sp_ownBottom_0 (ky_Bd_1 ho) ?_)
  obtain ⟨c2, h⟩ := h
  refine ⟨c2, ?_⟩
  intro _
  show z_U X 2 m_Bd_pinHere 18 [(0, (2, ((o : Nat) : Int)))] [(0, (g (o + 1) 1) + (g (o + 1) 3)), (0, (g (o + 1) 0) + (g (o + 1) 2)), (2, ((o + 2 : Nat) : Int))] N σ g Q
  refine z_cV (c := (o + 2)) (as := [(0, (g (o + 1) 0) + (g (o + 1) 2)), (0, (g (o + 1) 1) + (g (o + 1) 3))]) (d' := 1) (st := []) d_Bd_pinHere_18 mi_Pi_find ml_Bd_101 mv_Pi_find se_Pi_find rfl rfl rfl rfl (ks_Bd_2 ho) rfl rfl (kl_Bd_2 ho) rfl rfl (z_Omono h (fun r0 g0 _ h hro => ?_))
  show z_U X 2 m_Bd_pinHere 21 [(0, (2, ((o : Nat) : Int)))] [(0, r0)] N σ g0 Q
  exact z_iret d_Bd_pinHere_21 rfl (by decide) (by decide) ⟨rfl, rfl, h⟩
theorem d_Ch_turnOf_0 : decode (z_c m_Ch_turnOf) 0 = .ok (.iload_n 1, 1) := by decide +kernel
theorem d_Ch_turnOf_1 : decode (z_c m_Ch_turnOf) 1 = .ok (.iconst 1, 1) := by decide +kernel
theorem d_Ch_turnOf_2 : decode (z_c m_Ch_turnOf) 2 = .ok (.iadd, 1) := by decide +kernel
theorem d_Ch_turnOf_3 : decode (z_c m_Ch_turnOf) 3 = .ok (.istore_n 2, 1) := by decide +kernel
theorem d_Ch_turnOf_4 : decode (z_c m_Ch_turnOf) 4 = .ok (.iconst 1, 1) := by decide +kernel
theorem d_Ch_turnOf_5 : decode (z_c m_Ch_turnOf) 5 = .ok (.istore_n 3, 1) := by decide +kernel
theorem d_Ch_turnOf_6 : decode (z_c m_Ch_turnOf) 6 = .ok (.iload_n 3, 1) := by decide +kernel
theorem d_Ch_turnOf_7 : decode (z_c m_Ch_turnOf) 7 = .ok (.aload_n 0, 1) := by decide +kernel
theorem d_Ch_turnOf_8 : decode (z_c m_Ch_turnOf) 8 = .ok (.getfield 36, 3) := by decide +kernel
theorem d_Ch_turnOf_11 : decode (z_c m_Ch_turnOf) 11 = .ok (.if_icmp .ge 34, 3) := by decide +kernel
theorem d_Ch_turnOf_14 : decode (z_c m_Ch_turnOf) 14 = .ok (.iload_n 2, 1) := by decide +kernel
theorem d_Ch_turnOf_15 : decode (z_c m_Ch_turnOf) 15 = .ok (.aload_n 0, 1) := by decide +kernel
theorem d_Ch_turnOf_16 : decode (z_c m_Ch_turnOf) 16 = .ok (.iload_n 3, 1) := by decide +kernel
theorem d_Ch_turnOf_17 : decode (z_c m_Ch_turnOf) 17 = .ok (.invokevirtual 46, 3) := by decide +kernel
theorem d_Ch_turnOf_20 : decode (z_c m_Ch_turnOf) 20 = .ok (.isub, 1) := by decide +kernel
theorem d_Ch_turnOf_21 : decode (z_c m_Ch_turnOf) 21 = .ok (.istore_n 2, 1) := by decide +kernel
theorem d_Ch_turnOf_22 : decode (z_c m_Ch_turnOf) 22 = .ok (.iload_n 2, 1) := by decide +kernel
theorem d_Ch_turnOf_23 : decode (z_c m_Ch_turnOf) 23 = .ok (.ifCond .ge 16, 3) := by decide +kernel
theorem d_Ch_turnOf_26 : decode (z_c m_Ch_turnOf) 26 = .ok (.iload_n 3, 1) := by decide +kernel
theorem d_Ch_turnOf_27 : decode (z_c m_Ch_turnOf) 27 = .ok (.iconst 2, 1) := by decide +kernel
theorem d_Ch_turnOf_28 : decode (z_c m_Ch_turnOf) 28 = .ok (.irem, 1) := by decide +kernel
theorem d_Ch_turnOf_29 : decode (z_c m_Ch_turnOf) 29 = .ok (.iconst 1, 1) := by decide +kernel
theorem d_Ch_turnOf_30 : decode (z_c m_Ch_turnOf) 30 = .ok (.if_icmp .ne 7, 3) := by decide +kernel
theorem d_Ch_turnOf_33 : decode (z_c m_Ch_turnOf) 33 = .ok (.iconst 0, 1) := by decide +kernel
theorem d_Ch_turnOf_34 : decode (z_c m_Ch_turnOf) 34 = .ok (.goto 4, 3) := by decide +kernel
theorem d_Ch_turnOf_37 : decode (z_c m_Ch_turnOf) 37 = .ok (.iconst 1, 1) := by decide +kernel
theorem d_Ch_turnOf_38 : decode (z_c m_Ch_turnOf) 38 = .ok (.ireturn, 1) := by decide +kernel
theorem d_Ch_turnOf_39 : decode (z_c m_Ch_turnOf) 39 = .ok (.iinc 3 1, 3) := by decide +kernel
theorem d_Ch_turnOf_42 : decode (z_c m_Ch_turnOf) 42 = .ok (.goto (-36), 3) := by decide +kernel
theorem d_Ch_turnOf_45 : decode (z_c m_Ch_turnOf) 45 = .ok (.iconst 0, 1) := by decide +kernel
theorem d_Ch_turnOf_46 : decode (z_c m_Ch_turnOf) 46 = .ok (.ireturn, 1) := by decide +kernel
abbrev L_Ch_turnOf_6 (X : z_X) (N : Nat) (σ : z_G) (x2 x3 : Int) (o : Nat) (g : z_G) (Q : z_P) : Prop := z_U X 2 m_Ch_turnOf 6 [(0, (2, ((o : Nat) : Int))), (2, (0, x2)), (3, (0, x3))] [] N σ g Q
set_option maxRecDepth 8000 in
theorem b_Ch_turnOf_0 {X : z_X} {N : Nat} {σ g : z_G} {Q : z_P} {a1 : Int} {o : Nat} (ho : z_lay X N σ o z_SCh z_RCh) (h : (-2147483648 ≤ (a1 + 1) ∧ (a1 + 1) ≤ 2147483647) ∧ L_Ch_turnOf_6 X N σ (a1 + 1) 1 o g Q) : z_O X 2 m_Ch_turnOf [(2, ((o : Nat) : Int)), (0, a1)] N σ g Q := by
  refine z_Oenter mi_Ch_turnOf rfl (fun _ => ?_)
  show z_U X 2 m_Ch_turnOf 0 [(0, (2, ((o : Nat) : Int))), (1, (0, a1))] [] N σ g Q
  refine z_iload_n (i := 1) 1 d_Ch_turnOf_0 rfl rfl ?_
  refine z_iconst (n := 1) d_Ch_turnOf_1 (by decide) ?_
  obtain ⟨c1, h⟩ := h
  refine z_iadd d_Ch_turnOf_2 c1 ?_
  refine z_istore_n (i := 2) (ls' := [(2, (0, a1 + 1)), (0, (2, ((o : Nat) : Int))), (1, (0, a1))]) d_Ch_turnOf_3 rfl rfl rfl ?_
  refine z_iconst (n := 1) d_Ch_turnOf_4 (by decide) ?_
  refine z_istore_n (i := 3) (ls' := [(3, (0, 1)), (2, (0, a1 + 1)), (0, (2, ((o : Nat) : Int))), (1, (0, a1))]) d_Ch_turnOf_5 rfl rfl rfl ?_
  refine z_sub (ls' := [(0, (2, ((o : Nat) : Int))), (2, (0, a1 + 1)), (3, (0, 1))]) [2, 1, 0] rfl ?_
  exact h
set_option maxRecDepth 8000 in
theorem b_Ch_turnOf_6 {X : z_X} {N : Nat} {σ g : z_G} {Q : z_P} {x2 x3 : Int} {o : Nat} (ho : z_lay X N σ o z_SCh z_RCh) (h : (((g o 1) ≤ x3) → Q 0 g) ∧ (¬ ((g o 1) ≤ x3) → (((x3 < 0) → ((-2147483648 ≤ (x2 - 0) ∧ (x2 - 0) ≤ 2147483647) ∧ (((0 ≤ (x2 - 0)) → ((-2147483648 ≤ (x3 + 1) ∧ (x3 + 1) ≤ 2147483647) ∧ L_Ch_turnOf_6 X N σ (x2 - 0) (x3 + 1) o g Q)) ∧ (¬ (0 ≤ (x2 - 0)) → ((((Int.tmod x3 2) = 1) → Q 0 g) ∧ (¬ ((Int.tmod x3 2) = 1) → Q 1 g)))))) ∧ (¬ (x3 < 0) → (((32 ≤ x3) → ((-2147483648 ≤ (x2 - 0) ∧ (x2 - 0) ≤ 2147483647) ∧ (((0 ≤ (x2 - 0)) → ((-2147483648 ≤ (x3 + 1) ∧ (x3 + 1) ≤ 2147483647) ∧ L_Ch_turnOf_6 X N σ (x2 - 0) (x3 + 1) o g Q)) ∧ (¬ (0 ≤ (x2 - 0)) → ((((Int.tmod x3 2) = 1) → Q 0 g) ∧ (¬ ((Int.tmod x3 2) = 1) → Q 1 g)))))) ∧ (¬ (32 ≤ x3) → ((0 ≤ x3 ∧ x3 < 32) ∧ ((-2147483648 ≤ (x2 - (g (o + 1) x3)) ∧ (x2 - (g (o + 1) x3)) ≤ 2147483647) ∧ (((0 ≤ (x2 - (g (o + 1) x3))) → ((-2147483648 ≤ (x3 + 1) ∧ (x3 + 1) ≤ 2147483647) ∧ L_Ch_turnOf_6 X N σ (x2 - (g (o + 1) x3)) (x3 + 1) o g Q)) ∧ (¬ (0 ≤ (x2 - (g (o + 1) x3))) → ((((Int.tmod x3 2) = 1) → Q 0 g) ∧ (¬ ((Int.tmod x3 2) = 1) → Q 1 g)))))))))))) : L_Ch_turnOf_6 X N σ x2 x3 o g Q := by
  refine z_iload_n (i := 3) 2 d_Ch_turnOf_6 rfl rfl ?_
  refine z_aload_n (i := 0) (c := o) 0 d_Ch_turnOf_7 rfl rfl rfl ?_
  refine z_geti (c := o) (kI := 1) d_Ch_turnOf_8 fd_Ch_many fl_Ch_36 (Or.inl rfl) rfl rfl (ks_Ch_0 ho) (kl_Ch_0 ho) ?_
  refine z_icmp_ge (tgt := 45) d_Ch_turnOf_11 (by decide) (fun c1 => ?_) (fun c1 => ?_)
  · have h := h.1 c1
    refine z_iconst (n := 0) d_Ch_turnOf_45 (by decide) ?_
    exact z_iret d_Ch_turnOf_46 rfl (by decide) (by decide) ⟨rfl, rfl, h⟩
  · have h := h.2 c1
    refine z_iload_n (i := 2) 1 d_Ch_turnOf_14 rfl rfl ?_
    refine z_aload_n (i := 0) (c := o) 0 d_Ch_turnOf_15 rfl rfl rfl ?_
    refine z_iload_n (i := 3) 2 d_Ch_turnOf_16 rfl rfl ?_
    refine z_cV (c := o) (as := [(0, x3)]) (d' := 1) (st := [(0, x2)]) d_Ch_turnOf_17 mi_Ch_termOf ml_Ch_46 mv_Ch_termOf se_Ch_termOf rfl rfl rfl rfl (ks_Ch_0 ho) rfl rfl (kl_Ch_0 ho) rfl rfl (b_Ch_termOf_0 ho ?_)
    refine ⟨fun c2 => ?_, fun c2 => ?_⟩
    · have h := h.1 c2
      intro _
      show z_U X 2 m_Ch_turnOf 20 [(0, (2, ((o : Nat) : Int))), (2, (0, x2)), (3, (0, x3))] [(0, 0), (0, x2)] N σ g Q
      obtain ⟨c3, h⟩ := h
      refine z_isub d_Ch_turnOf_20 c3 ?_
      refine z_istore_n (i := 2) (ls' := [(2, (0, x2 - 0)), (0, (2, ((o : Nat) : Int))), (3, (0, x3))]) d_Ch_turnOf_21 rfl rfl rfl ?_
      refine z_iload_n (i := 2) 0 d_Ch_turnOf_22 rfl rfl ?_
      refine z_if_ge (tgt := 39) d_Ch_turnOf_23 (by decide) (fun c4 => ?_) (fun c4 => ?_)
      · have h := h.1 c4
        obtain ⟨c5, h⟩ := h
        refine z_iinc (n := 1) (ls' := [(3, (0, x3 + 1)), (2, (0, x2 - 0)), (0, (2, ((o : Nat) : Int)))]) 2 d_Ch_turnOf_39 rfl c5 rfl rfl ?_
        refine z_goto (tgt := 6) d_Ch_turnOf_42 (by decide) ?_
        refine z_sub (ls' := [(0, (2, ((o : Nat) : Int))), (2, (0, x2 - 0)), (3, (0, x3 + 1))]) [2, 1, 0] rfl ?_
        exact h
      · have h := h.2 c4
        refine z_iload_n (i := 3) 2 d_Ch_turnOf_26 rfl rfl ?_
        refine z_iconst (n := 2) d_Ch_turnOf_27 (by decide) ?_
        refine z_irem d_Ch_turnOf_28 (by decide) ?_
        refine z_iconst (n := 1) d_Ch_turnOf_29 (by decide) ?_
        refine z_icmp_ne (tgt := 37) d_Ch_turnOf_30 (by decide) (fun c6 => ?_) (fun c6 => ?_)
        · have h := h.2 c6
          refine z_iconst (n := 1) d_Ch_turnOf_37 (by decide) ?_
          exact z_iret d_Ch_turnOf_38 rfl (by decide) (by decide) ⟨rfl, rfl, h⟩
        · have h := h.1 c6
          refine z_iconst (n := 0) d_Ch_turnOf_33 (by decide) ?_
          refine z_goto (tgt := 38) d_Ch_turnOf_34 (by decide) ?_
          exact z_iret d_Ch_turnOf_38 rfl (by decide) (by decide) ⟨rfl, rfl, h⟩
    · have h := h.2 c2
      refine ⟨fun c => absurd c c1, fun _ => ?_⟩
      refine ⟨fun c7 => ?_, fun c7 => ?_⟩
      · have h := h.1 c7
        intro _
        show z_U X 2 m_Ch_turnOf 20 [(0, (2, ((o : Nat) : Int))), (2, (0, x2)), (3, (0, x3))] [(0, 0), (0, x2)] N σ g Q
        obtain ⟨c8, h⟩ := h
        refine z_isub d_Ch_turnOf_20 c8 ?_
        refine z_istore_n (i := 2) (ls' := [(2, (0, x2 - 0)), (0, (2, ((o : Nat) : Int))), (3, (0, x3))]) d_Ch_turnOf_21 rfl rfl rfl ?_
        refine z_iload_n (i := 2) 0 d_Ch_turnOf_22 rfl rfl ?_
        refine z_if_ge (tgt := 39) d_Ch_turnOf_23 (by decide) (fun c9 => ?_) (fun c9 => ?_)
        · have h := h.1 c9
          obtain ⟨c10, h⟩ := h
          refine z_iinc (n := 1) (ls' := [(3, (0, x3 + 1)), (2, (0, x2 - 0)), (0, (2, ((o : Nat) : Int)))]) 2 d_Ch_turnOf_39 rfl c10 rfl rfl ?_
          refine z_goto (tgt := 6) d_Ch_turnOf_42 (by decide) ?_
          refine z_sub (ls' := [(0, (2, ((o : Nat) : Int))), (2, (0, x2 - 0)), (3, (0, x3 + 1))]) [2, 1, 0] rfl ?_
          exact h
        · have h := h.2 c9
          refine z_iload_n (i := 3) 2 d_Ch_turnOf_26 rfl rfl ?_
          refine z_iconst (n := 2) d_Ch_turnOf_27 (by decide) ?_
          refine z_irem d_Ch_turnOf_28 (by decide) ?_
          refine z_iconst (n := 1) d_Ch_turnOf_29 (by decide) ?_
          refine z_icmp_ne (tgt := 37) d_Ch_turnOf_30 (by decide) (fun c11 => ?_) (fun c11 => ?_)
          · have h := h.2 c11
            refine z_iconst (n := 1) d_Ch_turnOf_37 (by decide) ?_
            exact z_iret d_Ch_turnOf_38 rfl (by decide) (by decide) ⟨rfl, rfl, h⟩
          · have h := h.1 c11
            refine z_iconst (n := 0) d_Ch_turnOf_33 (by decide) ?_
            refine z_goto (tgt := 38) d_Ch_turnOf_34 (by decide) ?_
            exact z_iret d_Ch_turnOf_38 rfl (by decide) (by decide) ⟨rfl, rfl, h⟩
      · have h := h.2 c7
        obtain ⟨c12, h⟩ := h
        refine ⟨c12, ?_⟩
        intro _
        show z_U X 2 m_Ch_turnOf 20 [(0, (2, ((o : Nat) : Int))), (2, (0, x2)), (3, (0, x3))] [(0, g (o + 1) x3), (0, x2)] N σ g Q
        obtain ⟨c13, h⟩ := h
        refine z_isub d_Ch_turnOf_20 c13 ?_
        refine z_istore_n (i := 2) (ls' := [(2, (0, x2 - (g (o + 1) x3))), (0, (2, ((o : Nat) : Int))), (3, (0, x3))]) d_Ch_turnOf_21 rfl rfl rfl ?_
        refine z_iload_n (i := 2) 0 d_Ch_turnOf_22 rfl rfl ?_
        refine z_if_ge (tgt := 39) d_Ch_turnOf_23 (by decide) (fun c14 => ?_) (fun c14 => ?_)
        · have h := h.1 c14
          obtain ⟨c15, h⟩ := h
          refine z_iinc (n := 1) (ls' := [(3, (0, x3 + 1)), (2, (0, x2 - (g (o + 1) x3))), (0, (2, ((o : Nat) : Int)))]) 2 d_Ch_turnOf_39 rfl c15 rfl rfl ?_
          refine z_goto (tgt := 6) d_Ch_turnOf_42 (by decide) ?_
          refine z_sub (ls' := [(0, (2, ((o : Nat) : Int))), (2, (0, x2 - (g (o + 1) x3))), (3, (0, x3 + 1))]) [2, 1, 0] rfl ?_
          exact h
        · have h := h.2 c14
          refine z_iload_n (i := 3) 2 d_Ch_turnOf_26 rfl rfl ?_
          refine z_iconst (n := 2) d_Ch_turnOf_27 (by decide) ?_
          refine z_irem d_Ch_turnOf_28 (by decide) ?_
          refine z_iconst (n := 1) d_Ch_turnOf_29 (by decide) ?_
          refine z_icmp_ne (tgt := 37) d_Ch_turnOf_30 (by decide) (fun c16 => ?_) (fun c16 => ?_)
          · have h := h.2 c16
            refine z_iconst (n := 1) d_Ch_turnOf_37 (by decide) ?_
            exact z_iret d_Ch_turnOf_38 rfl (by decide) (by decide) ⟨rfl, rfl, h⟩
          · have h := h.1 c16
            refine z_iconst (n := 0) d_Ch_turnOf_33 (by decide) ?_
            refine z_goto (tgt := 38) d_Ch_turnOf_34 (by decide) ?_
            exact z_iret d_Ch_turnOf_38 rfl (by decide) (by decide) ⟨rfl, rfl, h⟩
theorem d_Ch_unfold_0 : decode (z_c m_Ch_unfold) 0 = .ok (.aload_n 0, 1) := by decide +kernel
theorem d_Ch_unfold_1 : decode (z_c m_Ch_unfold) 1 = .ok (.iconst 0, 1) := by decide +kernel
theorem d_Ch_unfold_2 : decode (z_c m_Ch_unfold) 2 = .ok (.putfield 36, 3) := by decide +kernel
theorem d_Ch_unfold_5 : decode (z_c m_Ch_unfold) 5 = .ok (.aload_n 0, 1) := by decide +kernel
theorem d_Ch_unfold_6 : decode (z_c m_Ch_unfold) 6 = .ok (.iconst 0, 1) := by decide +kernel
theorem d_Ch_unfold_7 : decode (z_c m_Ch_unfold) 7 = .ok (.putfield 39, 3) := by decide +kernel
theorem d_Ch_unfold_10 : decode (z_c m_Ch_unfold) 10 = .ok (.aload_n 0, 1) := by decide +kernel
theorem d_Ch_unfold_11 : decode (z_c m_Ch_unfold) 11 = .ok (.iconst 0, 1) := by decide +kernel
theorem d_Ch_unfold_12 : decode (z_c m_Ch_unfold) 12 = .ok (.putfield 22, 3) := by decide +kernel
theorem d_Ch_unfold_15 : decode (z_c m_Ch_unfold) 15 = .ok (.aload_n 0, 1) := by decide +kernel
theorem d_Ch_unfold_16 : decode (z_c m_Ch_unfold) 16 = .ok (.iconst 1, 1) := by decide +kernel
theorem d_Ch_unfold_17 : decode (z_c m_Ch_unfold) 17 = .ok (.putfield 25, 3) := by decide +kernel
theorem d_Ch_unfold_20 : decode (z_c m_Ch_unfold) 20 = .ok (.aload_n 0, 1) := by decide +kernel
theorem d_Ch_unfold_21 : decode (z_c m_Ch_unfold) 21 = .ok (.iconst 1, 1) := by decide +kernel
theorem d_Ch_unfold_22 : decode (z_c m_Ch_unfold) 22 = .ok (.putfield 15, 3) := by decide +kernel
theorem d_Ch_unfold_25 : decode (z_c m_Ch_unfold) 25 = .ok (.aload_n 0, 1) := by decide +kernel
theorem d_Ch_unfold_26 : decode (z_c m_Ch_unfold) 26 = .ok (.iconst 0, 1) := by decide +kernel
theorem d_Ch_unfold_27 : decode (z_c m_Ch_unfold) 27 = .ok (.putfield 19, 3) := by decide +kernel
theorem d_Ch_unfold_30 : decode (z_c m_Ch_unfold) 30 = .ok (.iload_n 1, 1) := by decide +kernel
theorem d_Ch_unfold_31 : decode (z_c m_Ch_unfold) 31 = .ok (.istore_n 3, 1) := by decide +kernel
theorem d_Ch_unfold_32 : decode (z_c m_Ch_unfold) 32 = .ok (.iload_n 2, 1) := by decide +kernel
theorem d_Ch_unfold_33 : decode (z_c m_Ch_unfold) 33 = .ok (.istore 4, 2) := by decide +kernel
theorem d_Ch_unfold_35 : decode (z_c m_Ch_unfold) 35 = .ok (.aload_n 0, 1) := by decide +kernel
theorem d_Ch_unfold_36 : decode (z_c m_Ch_unfold) 36 = .ok (.getfield 36, 3) := by decide +kernel
theorem d_Ch_unfold_39 : decode (z_c m_Ch_unfold) 39 = .ok (.aload_n 0, 1) := by decide +kernel
theorem d_Ch_unfold_40 : decode (z_c m_Ch_unfold) 40 = .ok (.getfield 9, 3) := by decide +kernel
theorem d_Ch_unfold_43 : decode (z_c m_Ch_unfold) 43 = .ok (.arraylength, 1) := by decide +kernel
theorem d_Ch_unfold_44 : decode (z_c m_Ch_unfold) 44 = .ok (.if_icmp .ge 36, 3) := by decide +kernel
theorem d_Ch_unfold_47 : decode (z_c m_Ch_unfold) 47 = .ok (.iload 4, 2) := by decide +kernel
theorem d_Ch_unfold_49 : decode (z_c m_Ch_unfold) 49 = .ok (.ifCond .eq 31, 3) := by decide +kernel
theorem d_Ch_unfold_52 : decode (z_c m_Ch_unfold) 52 = .ok (.iload_n 3, 1) := by decide +kernel
theorem d_Ch_unfold_53 : decode (z_c m_Ch_unfold) 53 = .ok (.iload 4, 2) := by decide +kernel
theorem d_Ch_unfold_55 : decode (z_c m_Ch_unfold) 55 = .ok (.idiv, 1) := by decide +kernel
theorem d_Ch_unfold_56 : decode (z_c m_Ch_unfold) 56 = .ok (.istore 5, 2) := by decide +kernel
theorem d_Ch_unfold_58 : decode (z_c m_Ch_unfold) 58 = .ok (.iload_n 3, 1) := by decide +kernel
theorem d_Ch_unfold_59 : decode (z_c m_Ch_unfold) 59 = .ok (.iload 4, 2) := by decide +kernel
theorem d_Ch_unfold_61 : decode (z_c m_Ch_unfold) 61 = .ok (.irem, 1) := by decide +kernel
theorem d_Ch_unfold_62 : decode (z_c m_Ch_unfold) 62 = .ok (.istore 6, 2) := by decide +kernel
theorem d_Ch_unfold_64 : decode (z_c m_Ch_unfold) 64 = .ok (.iload 4, 2) := by decide +kernel
theorem d_Ch_unfold_66 : decode (z_c m_Ch_unfold) 66 = .ok (.istore_n 3, 1) := by decide +kernel
theorem d_Ch_unfold_67 : decode (z_c m_Ch_unfold) 67 = .ok (.iload 6, 2) := by decide +kernel
theorem d_Ch_unfold_69 : decode (z_c m_Ch_unfold) 69 = .ok (.istore 4, 2) := by decide +kernel
theorem d_Ch_unfold_71 : decode (z_c m_Ch_unfold) 71 = .ok (.aload_n 0, 1) := by decide +kernel
theorem d_Ch_unfold_72 : decode (z_c m_Ch_unfold) 72 = .ok (.iload 5, 2) := by decide +kernel
theorem d_Ch_unfold_74 : decode (z_c m_Ch_unfold) 74 = .ok (.invokevirtual 42, 3) := by decide +kernel
theorem d_Ch_unfold_77 : decode (z_c m_Ch_unfold) 77 = .ok (.goto (-42), 3) := by decide +kernel
theorem d_Ch_unfold_80 : decode (z_c m_Ch_unfold) 80 = .ok (.return_, 1) := by decide +kernel
abbrev L_Ch_unfold_35 (X : z_X) (N : Nat) (σ : z_G) (x3 x4 : Int) (o : Nat) (g : z_G) (Q : z_P) : Prop := z_U X 2 m_Ch_unfold 35 [(0, (2, ((o : Nat) : Int))), (3, (0, x3)), (4, (0, x4))] [] N σ g Q
set_option maxRecDepth 8000 in
theorem b_Ch_unfold_0 {X : z_X} {N : Nat} {σ g : z_G} {Q : z_P} {a1 a2 : Int} {o : Nat} (ho : z_lay X N σ o z_SCh z_RCh) (h : L_Ch_unfold_35 X N σ a1 a2 o (z_up (z_up (z_up (z_up (z_up (z_up g o 1 0) o 2 0) o 5 0) o 6 1) o 3 1) o 4 0) Q) : z_O X 2 m_Ch_unfold [(2, ((o : Nat) : Int)), (0, a1), (0, a2)] N σ g Q := by
  refine z_Oenter mi_Ch_unfold rfl (fun _ => ?_)
  show z_U X 2 m_Ch_unfold 0 [(0, (2, ((o : Nat) : Int))), (1, (0, a1)), (2, (0, a2))] [] N σ g Q
  refine z_aload_n (i := 0) (c := o) 0 d_Ch_unfold_0 rfl rfl rfl ?_
  refine z_iconst (n := 0) d_Ch_unfold_1 (by decide) ?_
  refine z_puti (c := o) (kI := 1) d_Ch_unfold_2 fd_Ch_many fl_Ch_36 pf_Ch_many rfl rfl rfl rfl (ks_Ch_0 ho) (kl_Ch_0 ho) ?_
  refine z_aload_n (i := 0) (c := o) 0 d_Ch_unfold_5 rfl rfl rfl ?_
  refine z_iconst (n := 0) d_Ch_unfold_6 (by decide) ?_
  refine z_puti (c := o) (kI := 2) d_Ch_unfold_7 fd_Ch_sum fl_Ch_39 pf_Ch_sum rfl rfl rfl rfl (ks_Ch_0 ho) (kl_Ch_0 ho) ?_
  refine z_aload_n (i := 0) (c := o) 0 d_Ch_unfold_10 rfl rfl rfl ?_
  refine z_iconst (n := 0) d_Ch_unfold_11 (by decide) ?_
  refine z_puti (c := o) (kI := 5) d_Ch_unfold_12 fd_Ch_lastTop fl_Ch_22 pf_Ch_lastTop rfl rfl rfl rfl (ks_Ch_0 ho) (kl_Ch_0 ho) ?_
  refine z_aload_n (i := 0) (c := o) 0 d_Ch_unfold_15 rfl rfl rfl ?_
  refine z_iconst (n := 1) d_Ch_unfold_16 (by decide) ?_
  refine z_puti (c := o) (kI := 6) d_Ch_unfold_17 fd_Ch_lastBottom fl_Ch_25 pf_Ch_lastBottom rfl rfl rfl rfl (ks_Ch_0 ho) (kl_Ch_0 ho) ?_
  refine z_aload_n (i := 0) (c := o) 0 d_Ch_unfold_20 rfl rfl rfl ?_
  refine z_iconst (n := 1) d_Ch_unfold_21 (by decide) ?_
  refine z_puti (c := o) (kI := 3) d_Ch_unfold_22 fd_Ch_top fl_Ch_15 pf_Ch_top rfl rfl rfl rfl (ks_Ch_0 ho) (kl_Ch_0 ho) ?_
  refine z_aload_n (i := 0) (c := o) 0 d_Ch_unfold_25 rfl rfl rfl ?_
  refine z_iconst (n := 0) d_Ch_unfold_26 (by decide) ?_
  refine z_puti (c := o) (kI := 4) d_Ch_unfold_27 fd_Ch_bottom fl_Ch_19 pf_Ch_bottom rfl rfl rfl rfl (ks_Ch_0 ho) (kl_Ch_0 ho) ?_
  refine z_iload_n (i := 1) 1 d_Ch_unfold_30 rfl rfl ?_
  refine z_istore_n (i := 3) (ls' := [(3, (0, a1)), (0, (2, ((o : Nat) : Int))), (1, (0, a1)), (2, (0, a2))]) d_Ch_unfold_31 rfl rfl rfl ?_
  refine z_iload_n (i := 2) 3 d_Ch_unfold_32 rfl rfl ?_
  refine z_istore (ls' := [(4, (0, a2)), (3, (0, a1)), (0, (2, ((o : Nat) : Int))), (1, (0, a1)), (2, (0, a2))]) d_Ch_unfold_33 rfl rfl ?_
  refine z_sub (ls' := [(0, (2, ((o : Nat) : Int))), (3, (0, a1)), (4, (0, a2))]) [2, 1, 0] rfl ?_
  exact h
set_option maxRecDepth 8000 in
theorem b_Ch_unfold_35 {X : z_X} {N : Nat} {σ g : z_G} {Q : z_P} {x3 x4 : Int} {o : Nat} (ho : z_lay X N σ o z_SCh z_RCh) (h : ((32 ≤ (g o 1)) → Q 0 g) ∧ (¬ (32 ≤ (g o 1)) → (((x4 = 0) → Q 0 g) ∧ (¬ (x4 = 0) → ((0 < x4) ∧ (z_O X 1 m_Ch_addTerm [(2, ((o : Nat) : Int)), (0, Int.tdiv x3 x4)] N σ g (fun r0 g0 => L_Ch_unfold_35 X N σ x4 (Int.tmod x3 x4) o g0 Q))))))) : L_Ch_unfold_35 X N σ x3 x4 o g Q := by
  refine z_aload_n (i := 0) (c := o) 0 d_Ch_unfold_35 rfl rfl rfl ?_
  refine z_geti (c := o) (kI := 1) d_Ch_unfold_36 fd_Ch_many fl_Ch_36 (Or.inl rfl) rfl rfl (ks_Ch_0 ho) (kl_Ch_0 ho) ?_
  refine z_aload_n (i := 0) (c := o) 0 d_Ch_unfold_39 rfl rfl rfl ?_
  refine z_getr (c := o) (kI := 0) (r2 := ((o + 1 : Nat) : Int)) d_Ch_unfold_40 fd_Ch_row fl_Ch_9 rfl rfl rfl (ks_Ch_0 ho) (kl_Ch_0 ho) (kr_Ch_0_0 ho) ?_
  refine z_alen (c := (o + 1)) (m := 32) (cA := z_A X 1) d_Ch_unfold_43 rfl (ks_Ch_1 ho) (kl_Ch_1 ho) rfl (by decide) rfl ?_
  refine z_icmp_ge (tgt := 80) d_Ch_unfold_44 (by decide) (fun c1 => ?_) (fun c1 => ?_)
  · have h := h.1 c1
    exact z_vret d_Ch_unfold_80 rfl (by decide) (by decide) ⟨rfl, rfl, h⟩
  · have h := h.2 c1
    refine z_iload 2 d_Ch_unfold_47 rfl ?_
    refine z_if_eq (tgt := 80) d_Ch_unfold_49 (by decide) (fun c2 => ?_) (fun c2 => ?_)
    · have h := h.1 c2
      exact z_vret d_Ch_unfold_80 rfl (by decide) (by decide) ⟨rfl, rfl, h⟩
    · have h := h.2 c2
      refine z_iload_n (i := 3) 1 d_Ch_unfold_52 rfl rfl ?_
      refine z_iload 2 d_Ch_unfold_53 rfl ?_
      obtain ⟨c3, h⟩ := h
      refine z_idiv d_Ch_unfold_55 c3 ?_
      refine z_istore (ls' := [(5, (0, Int.tdiv x3 x4)), (0, (2, ((o : Nat) : Int))), (3, (0, x3)), (4, (0, x4))]) d_Ch_unfold_56 rfl rfl ?_
      refine z_iload_n (i := 3) 2 d_Ch_unfold_58 rfl rfl ?_
      refine z_iload 3 d_Ch_unfold_59 rfl ?_
      refine z_irem d_Ch_unfold_61 c3 ?_
      refine z_istore (ls' := [(6, (0, Int.tmod x3 x4)), (5, (0, Int.tdiv x3 x4)), (0, (2, ((o : Nat) : Int))), (3, (0, x3)), (4, (0, x4))]) d_Ch_unfold_62 rfl rfl ?_
      refine z_iload 4 d_Ch_unfold_64 rfl ?_
      refine z_istore_n (i := 3) (ls' := [(3, (0, x4)), (6, (0, Int.tmod x3 x4)), (5, (0, Int.tdiv x3 x4)), (0, (2, ((o : Nat) : Int))), (4, (0, x4))]) d_Ch_unfold_66 rfl rfl rfl ?_
      refine z_iload 1 d_Ch_unfold_67 rfl ?_
      refine z_istore (ls' := [(4, (0, Int.tmod x3 x4)), (3, (0, x4)), (6, (0, Int.tmod x3 x4)), (5, (0, Int.tdiv x3 x4)), (0, (2, ((o : Nat) : Int)))]) d_Ch_unfold_69 rfl rfl ?_
      refine z_aload_n (i := 0) (c := o) 4 d_Ch_unfold_71 rfl rfl rfl ?_
      refine z_iload 3 d_Ch_unfold_72 rfl ?_
      refine z_cV (c := o) (as := [(0, Int.tdiv x3 x4)]) (d' := 1) (st := []) d_Ch_unfold_74 mi_Ch_addTerm ml_Ch_42 mv_Ch_addTerm se_Ch_addTerm rfl rfl rfl rfl (ks_Ch_0 ho) rfl rfl (kl_Ch_0 ho) rfl rfl (z_Omono h (fun r0 g0 _ h hro => ?_))
      show z_U X 2 m_Ch_unfold 77 [(4, (0, Int.tmod x3 x4)), (3, (0, x4)), (6, (0, Int.tmod x3 x4)), (5, (0, Int.tdiv x3 x4)), (0, (2, ((o : Nat) : Int)))] [] N σ g0 Q
      refine z_goto (tgt := 35) d_Ch_unfold_77 (by decide) ?_
      refine z_sub (ls' := [(0, (2, ((o : Nat) : Int))), (3, (0, x4)), (4, (0, Int.tmod x3 x4))]) [4, 1, 0] rfl ?_
      exact h
theorem d_F_below_0 : decode (z_c m_F_below) 0 = .ok (.lload_n 1, 1) := by decide +kernel
theorem d_F_below_1 : decode (z_c m_F_below) 1 = .ok (.lconst 0, 1) := by decide +kernel
theorem d_F_below_2 : decode (z_c m_F_below) 2 = .ok (.lcmp, 1) := by decide +kernel
theorem d_F_below_3 : decode (z_c m_F_below) 3 = .ok (.ifCond .lt 21, 3) := by decide +kernel
theorem d_F_below_6 : decode (z_c m_F_below) 6 = .ok (.lload_n 1, 1) := by decide +kernel
theorem d_F_below_7 : decode (z_c m_F_below) 7 = .ok (.ldc2_w 251, 3) := by decide +kernel
theorem d_F_below_10 : decode (z_c m_F_below) 10 = .ok (.lcmp, 1) := by decide +kernel
theorem d_F_below_11 : decode (z_c m_F_below) 11 = .ok (.ifCond .gt 13, 3) := by decide +kernel
theorem d_F_below_14 : decode (z_c m_F_below) 14 = .ok (.iload_n 3, 1) := by decide +kernel
theorem d_F_below_15 : decode (z_c m_F_below) 15 = .ok (.bipush (-60), 2) := by decide +kernel
theorem d_F_below_17 : decode (z_c m_F_below) 17 = .ok (.if_icmp .lt 7, 3) := by decide +kernel
theorem d_F_below_20 : decode (z_c m_F_below) 20 = .ok (.iload_n 3, 1) := by decide +kernel
theorem d_F_below_21 : decode (z_c m_F_below) 21 = .ok (.ifCond .le 9, 3) := by decide +kernel
theorem d_F_below_24 : decode (z_c m_F_below) 24 = .ok (.aload_n 0, 1) := by decide +kernel
theorem d_F_below_25 : decode (z_c m_F_below) 25 = .ok (.iconst 1, 1) := by decide +kernel
theorem d_F_below_26 : decode (z_c m_F_below) 26 = .ok (.invokevirtual 121, 3) := by decide +kernel
theorem d_F_below_29 : decode (z_c m_F_below) 29 = .ok (.ireturn, 1) := by decide +kernel
theorem d_F_below_30 : decode (z_c m_F_below) 30 = .ok (.lconst 1, 1) := by decide +kernel
theorem d_F_below_31 : decode (z_c m_F_below) 31 = .ok (.iload_n 3, 1) := by decide +kernel
theorem d_F_below_32 : decode (z_c m_F_below) 32 = .ok (.ineg, 1) := by decide +kernel
theorem d_F_below_33 : decode (z_c m_F_below) 33 = .ok (.lshl, 1) := by decide +kernel
theorem d_F_below_34 : decode (z_c m_F_below) 34 = .ok (.lstore 4, 2) := by decide +kernel
theorem d_F_below_36 : decode (z_c m_F_below) 36 = .ok (.lload_n 1, 1) := by decide +kernel
theorem d_F_below_37 : decode (z_c m_F_below) 37 = .ok (.lload 4, 2) := by decide +kernel
theorem d_F_below_39 : decode (z_c m_F_below) 39 = .ok (.lcmp, 1) := by decide +kernel
theorem d_F_below_40 : decode (z_c m_F_below) 40 = .ok (.ifCond .le 9, 3) := by decide +kernel
theorem d_F_below_43 : decode (z_c m_F_below) 43 = .ok (.aload_n 0, 1) := by decide +kernel
theorem d_F_below_44 : decode (z_c m_F_below) 44 = .ok (.iconst 1, 1) := by decide +kernel
theorem d_F_below_45 : decode (z_c m_F_below) 45 = .ok (.invokevirtual 121, 3) := by decide +kernel
theorem d_F_below_48 : decode (z_c m_F_below) 48 = .ok (.ireturn, 1) := by decide +kernel
theorem d_F_below_49 : decode (z_c m_F_below) 49 = .ok (.aload_n 0, 1) := by decide +kernel
theorem d_F_below_50 : decode (z_c m_F_below) 50 = .ok (.aload_n 0, 1) := by decide +kernel
theorem d_F_below_51 : decode (z_c m_F_below) 51 = .ok (.getfield 43, 3) := by decide +kernel
theorem d_F_below_54 : decode (z_c m_F_below) 54 = .ok (.aload_n 0, 1) := by decide +kernel
theorem d_F_below_55 : decode (z_c m_F_below) 55 = .ok (.getfield 67, 3) := by decide +kernel
theorem d_F_below_58 : decode (z_c m_F_below) 58 = .ok (.getfield 197, 3) := by decide +kernel
theorem d_F_below_61 : decode (z_c m_F_below) 61 = .ok (.lload_n 1, 1) := by decide +kernel
theorem d_F_below_62 : decode (z_c m_F_below) 62 = .ok (.lload 4, 2) := by decide +kernel
theorem d_F_below_64 : decode (z_c m_F_below) 64 = .ok (.invokevirtual 247, 3) := by decide +kernel
theorem d_F_below_67 : decode (z_c m_F_below) 67 = .ok (.invokevirtual 176, 3) := by decide +kernel
theorem d_F_below_70 : decode (z_c m_F_below) 70 = .ok (.ireturn, 1) := by decide +kernel
set_option maxRecDepth 8000 in
theorem b_F_below_0 {X : z_X} {N : Nat} {σ g : z_G} {Q : z_P} {a1 a3 : Int} (hx : z_lay X N σ 0 z_SF z_RF) (h : ((a1 < 0) → Q (-1) (z_up g 0 0 1)) ∧ (¬ (a1 < 0) → (((9007199254740992 < a1) → Q (-1) (z_up g 0 0 1)) ∧ (¬ (9007199254740992 < a1) → (((a3 < (-60)) → Q (-1) (z_up g 0 0 1)) ∧ (¬ (a3 < (-60)) → (((a3 ≤ 0) → ((-2147483648 ≤ (-a3) ∧ (-a3) ≤ 2147483647) ∧ (((a1 ≤ (Int64.toInt (Int64.ofInt 1 <<< ((Int32.ofInt (-a3)).toInt64 &&& 63)))) → (z_O X 1 m_Rw_countUnder [(2, 15), (0, g 23 0), (1, a1), (1, Int64.toInt (Int64.ofInt 1 <<< ((Int32.ofInt (-a3)).toInt64 &&& 63)))] N σ g (fun r0 g0 => Q r0 (z_up g0 0 0 0)))) ∧ (¬ (a1 ≤ (Int64.toInt (Int64.ofInt 1 <<< ((Int32.ofInt (-a3)).toInt64 &&& 63)))) → Q (-1) (z_up g 0 0 1))))) ∧ (¬ (a3 ≤ 0) → Q (-1) (z_up g 0 0 1))))))))) : z_O X 2 m_F_below [(2, 0), (1, a1), (0, a3)] N σ g Q := by
  refine z_Oenter mi_F_below rfl (fun _ => ?_)
  show z_U X 2 m_F_below 0 [(0, (2, 0)), (1, (1, a1)), (3, (0, a3))] [] N σ g Q
  refine z_lload_n (i := 1) 1 d_F_below_0 rfl rfl ?_
  refine z_lconst (v := 0) d_F_below_1 (by decide) (by decide) ?_
  refine z_lcmp_lt (tgt := 24) d_F_below_2 d_F_below_3 (by decide) (fun c1 => ?_) (fun c1 => ?_)
  · have h := h.1 c1
    refine z_aload_n (i := 0) (c := 0) 0 d_F_below_24 rfl rfl rfl ?_
    refine z_iconst (n := 1) d_F_below_25 (by decide) ?_
    refine z_cV (c := 0) (as := [(0, 1)]) (d' := 1) (st := []) d_F_below_26 mi_F_none ml_F_121 mv_F_none se_F_none rfl rfl rfl rfl (ks_F_0 hx) rfl rfl (kl_F_0 hx) rfl rfl (b_F_none_0 hx ?_)
    intro _
    show z_U X 2 m_F_below 29 [(0, (2, 0)), (1, (1, a1)), (3, (0, a3))] [(0, (-1))] N σ (z_up g 0 0 1) Q
    exact z_iret d_F_below_29 rfl (by decide) (by decide) ⟨rfl, rfl, h⟩
  · have h := h.2 c1
    refine z_lload_n (i := 1) 1 d_F_below_6 rfl rfl ?_
    refine z_ldc2 (v := 9007199254740992) d_F_below_7 kc_F_251 (by decide) ?_
    refine z_lcmp_gt (tgt := 24) d_F_below_10 d_F_below_11 (by decide) (fun c2 => ?_) (fun c2 => ?_)
    · have h := h.1 c2
      refine z_aload_n (i := 0) (c := 0) 0 d_F_below_24 rfl rfl rfl ?_
      refine z_iconst (n := 1) d_F_below_25 (by decide) ?_
      refine z_cV (c := 0) (as := [(0, 1)]) (d' := 1) (st := []) d_F_below_26 mi_F_none ml_F_121 mv_F_none se_F_none rfl rfl rfl rfl (ks_F_0 hx) rfl rfl (kl_F_0 hx) rfl rfl (b_F_none_0 hx ?_)
      intro _
      show z_U X 2 m_F_below 29 [(0, (2, 0)), (1, (1, a1)), (3, (0, a3))] [(0, (-1))] N σ (z_up g 0 0 1) Q
      exact z_iret d_F_below_29 rfl (by decide) (by decide) ⟨rfl, rfl, h⟩
    · have h := h.2 c2
      refine z_iload_n (i := 3) 2 d_F_below_14 rfl rfl ?_
      refine z_bipush (n := (-60)) d_F_below_15 (by decide) (by decide) ?_
      refine z_icmp_lt (tgt := 24) d_F_below_17 (by decide) (fun c3 => ?_) (fun c3 => ?_)
      · have h := h.1 c3
        refine z_aload_n (i := 0) (c := 0) 0 d_F_below_24 rfl rfl rfl ?_
        refine z_iconst (n := 1) d_F_below_25 (by decide) ?_
        refine z_cV (c := 0) (as := [(0, 1)]) (d' := 1) (st := []) d_F_below_26 mi_F_none ml_F_121 mv_F_none se_F_none rfl rfl rfl rfl (ks_F_0 hx) rfl rfl (kl_F_0 hx) rfl rfl (b_F_none_0 hx ?_)
        intro _
        show z_U X 2 m_F_below 29 [(0, (2, 0)), (1, (1, a1)), (3, (0, a3))] [(0, (-1))] N σ (z_up g 0 0 1) Q
        exact z_iret d_F_below_29 rfl (by decide) (by decide) ⟨rfl, rfl, h⟩
      · have h := h.2 c3
        refine z_iload_n (i := 3) 2 d_F_below_20 rfl rfl ?_
        refine z_if_le (tgt := 30) d_F_below_21 (by decide) (fun c4 => ?_) (fun c4 => ?_)
        · have h := h.1 c4
          refine z_lconst (v := 1) d_F_below_30 (by decide) (by decide) ?_
          refine z_iload_n (i := 3) 2 d_F_below_31 rfl rfl ?_
          obtain ⟨c5, h⟩ := h
          refine z_ineg d_F_below_32 c5 ?_
          refine z_lshl d_F_below_33 ?_
          refine z_lstore (ls' := [(4, (1, Int64.toInt (Int64.ofInt 1 <<< ((Int32.ofInt (-a3)).toInt64 &&& 63)))), (0, (2, 0)), (1, (1, a1)), (3, (0, a3))]) d_F_below_34 rfl rfl ?_
          refine z_lload_n (i := 1) 2 d_F_below_36 rfl rfl ?_
          refine z_lload 0 d_F_below_37 rfl ?_
          refine z_lcmp_le (tgt := 49) d_F_below_39 d_F_below_40 (by decide) (fun c6 => ?_) (fun c6 => ?_)
          · have h := h.1 c6
            refine z_aload_n (i := 0) (c := 0) 1 d_F_below_49 rfl rfl rfl ?_
            refine z_aload_n (i := 0) (c := 0) 1 d_F_below_50 rfl rfl rfl ?_
            refine z_getr (c := 0) (kI := 7) (r2 := 15) d_F_below_51 fd_F_row fl_F_43 rfl rfl rfl (ks_F_0 hx) (kl_F_0 hx) (kr_F_0_7 hx) ?_
            refine z_aload_n (i := 0) (c := 0) 1 d_F_below_54 rfl rfl rfl ?_
            refine z_getr (c := 0) (kI := 11) (r2 := 23) d_F_below_55 fd_F_board fl_F_67 rfl rfl rfl (ks_F_0 hx) (kl_F_0 hx) (kr_F_0_11 hx) ?_
            refine z_geti (c := 23) (kI := 0) d_F_below_58 fd_Bd_order fl_F_197 (Or.inl rfl) rfl rfl (ks_F_23 hx) (kl_F_23 hx) ?_
            refine z_lload_n (i := 1) 2 d_F_below_61 rfl rfl ?_
            refine z_lload 0 d_F_below_62 rfl ?_
            refine z_cV (c := 15) (as := [(0, g 23 0), (1, a1), (1, Int64.toInt (Int64.ofInt 1 <<< ((Int32.ofInt (-a3)).toInt64 &&& 63)))]) (d' := 1) (st := [(2, 0)]) d_F_below_64 mi_Rw_countUnder ml_F_247 mv_Rw_countUnder se_Rw_countUnder rfl rfl rfl rfl (ks_F_15 hx) rfl rfl (kl_F_15 hx) rfl rfl (z_Omono h (fun r0 g0 _ h hro => ?_))
            show z_U X 2 m_F_below 67 [(4, (1, Int64.toInt (Int64.ofInt 1 <<< ((Int32.ofInt (-a3)).toInt64 &&& 63)))), (0, (2, 0)), (1, (1, a1)), (3, (0, a3))] [(0, r0), (2, 0)] N σ g0 Q
            refine z_cV (c := 0) (as := [(0, r0)]) (d' := 1) (st := []) d_F_below_67 mi_F_give ml_F_176 mv_F_give se_F_give rfl rfl rfl rfl (ks_F_0 hx) rfl rfl (kl_F_0 hx) rfl rfl (b_F_give_0 hx ?_)
            intro _
            show z_U X 2 m_F_below 70 [(4, (1, Int64.toInt (Int64.ofInt 1 <<< ((Int32.ofInt (-a3)).toInt64 &&& 63)))), (0, (2, 0)), (1, (1, a1)), (3, (0, a3))] [(0, r0)] N σ (z_up g0 0 0 0) Q
            exact z_iret d_F_below_70 rfl (by decide) (by decide) ⟨rfl, rfl, h⟩
          · have h := h.2 c6
            refine z_aload_n (i := 0) (c := 0) 1 d_F_below_43 rfl rfl rfl ?_
            refine z_iconst (n := 1) d_F_below_44 (by decide) ?_
            refine z_cV (c := 0) (as := [(0, 1)]) (d' := 1) (st := []) d_F_below_45 mi_F_none ml_F_121 mv_F_none se_F_none rfl rfl rfl rfl (ks_F_0 hx) rfl rfl (kl_F_0 hx) rfl rfl (b_F_none_0 hx ?_)
            intro _
            show z_U X 2 m_F_below 48 [(4, (1, Int64.toInt (Int64.ofInt 1 <<< ((Int32.ofInt (-a3)).toInt64 &&& 63)))), (0, (2, 0)), (1, (1, a1)), (3, (0, a3))] [(0, (-1))] N σ (z_up g 0 0 1) Q
            exact z_iret d_F_below_48 rfl (by decide) (by decide) ⟨rfl, rfl, h⟩
        · have h := h.2 c4
          refine z_aload_n (i := 0) (c := 0) 0 d_F_below_24 rfl rfl rfl ?_
          refine z_iconst (n := 1) d_F_below_25 (by decide) ?_
          refine z_cV (c := 0) (as := [(0, 1)]) (d' := 1) (st := []) d_F_below_26 mi_F_none ml_F_121 mv_F_none se_F_none rfl rfl rfl rfl (ks_F_0 hx) rfl rfl (kl_F_0 hx) rfl rfl (b_F_none_0 hx ?_)
          intro _
          show z_U X 2 m_F_below 29 [(0, (2, 0)), (1, (1, a1)), (3, (0, a3))] [(0, (-1))] N σ (z_up g 0 0 1) Q
          exact z_iret d_F_below_29 rfl (by decide) (by decide) ⟨rfl, rfl, h⟩
theorem d_F_coprimes_0 : decode (z_c m_F_coprimes) 0 = .ok (.iload_n 1, 1) := by decide +kernel
theorem d_F_coprimes_1 : decode (z_c m_F_coprimes) 1 = .ok (.ifCond .lt 21, 3) := by decide +kernel
theorem d_F_coprimes_4 : decode (z_c m_F_coprimes) 4 = .ok (.iload_n 1, 1) := by decide +kernel
theorem d_F_coprimes_5 : decode (z_c m_F_coprimes) 5 = .ok (.sipush 200, 3) := by decide +kernel
theorem d_F_coprimes_8 : decode (z_c m_F_coprimes) 8 = .ok (.if_icmp .gt 14, 3) := by decide +kernel
theorem d_F_coprimes_11 : decode (z_c m_F_coprimes) 11 = .ok (.iload_n 2, 1) := by decide +kernel
theorem d_F_coprimes_12 : decode (z_c m_F_coprimes) 12 = .ok (.ifCond .lt 10, 3) := by decide +kernel
theorem d_F_coprimes_15 : decode (z_c m_F_coprimes) 15 = .ok (.iload_n 2, 1) := by decide +kernel
theorem d_F_coprimes_16 : decode (z_c m_F_coprimes) 16 = .ok (.sipush 200, 3) := by decide +kernel
theorem d_F_coprimes_19 : decode (z_c m_F_coprimes) 19 = .ok (.if_icmp .le 9, 3) := by decide +kernel
theorem d_F_coprimes_22 : decode (z_c m_F_coprimes) 22 = .ok (.aload_n 0, 1) := by decide +kernel
theorem d_F_coprimes_23 : decode (z_c m_F_coprimes) 23 = .ok (.iconst 1, 1) := by decide +kernel
theorem d_F_coprimes_24 : decode (z_c m_F_coprimes) 24 = .ok (.invokevirtual 121, 3) := by decide +kernel
theorem d_F_coprimes_27 : decode (z_c m_F_coprimes) 27 = .ok (.ireturn, 1) := by decide +kernel
theorem d_F_coprimes_28 : decode (z_c m_F_coprimes) 28 = .ok (.aload_n 0, 1) := by decide +kernel
theorem d_F_coprimes_29 : decode (z_c m_F_coprimes) 29 = .ok (.aload_n 0, 1) := by decide +kernel
theorem d_F_coprimes_30 : decode (z_c m_F_coprimes) 30 = .ok (.getfield 43, 3) := by decide +kernel
theorem d_F_coprimes_33 : decode (z_c m_F_coprimes) 33 = .ok (.iload_n 1, 1) := by decide +kernel
theorem d_F_coprimes_34 : decode (z_c m_F_coprimes) 34 = .ok (.iload_n 2, 1) := by decide +kernel
theorem d_F_coprimes_35 : decode (z_c m_F_coprimes) 35 = .ok (.invokevirtual 275, 3) := by decide +kernel
theorem d_F_coprimes_38 : decode (z_c m_F_coprimes) 38 = .ok (.invokevirtual 176, 3) := by decide +kernel
theorem d_F_coprimes_41 : decode (z_c m_F_coprimes) 41 = .ok (.ireturn, 1) := by decide +kernel
set_option maxRecDepth 8000 in
theorem b_F_coprimes_0 {X : z_X} {N : Nat} {σ g : z_G} {Q : z_P} {a1 a2 : Int} (hx : z_lay X N σ 0 z_SF z_RF) (h : ((a1 < 0) → Q (-1) (z_up g 0 0 1)) ∧ (¬ (a1 < 0) → (((200 < a1) → Q (-1) (z_up g 0 0 1)) ∧ (¬ (200 < a1) → (((a2 < 0) → Q (-1) (z_up g 0 0 1)) ∧ (¬ (a2 < 0) → (((a2 ≤ 200) → (z_O X 1 m_Rw_pairs [(2, 15), (0, a1), (0, a2)] N σ g (fun r0 g0 => Q r0 (z_up g0 0 0 0)))) ∧ (¬ (a2 ≤ 200) → Q (-1) (z_up g 0 0 1))))))))) : z_O X 2 m_F_coprimes [(2, 0), (0, a1), (0, a2)] N σ g Q := by
  refine z_Oenter mi_F_coprimes rfl (fun _ => ?_)
  show z_U X 2 m_F_coprimes 0 [(0, (2, 0)), (1, (0, a1)), (2, (0, a2))] [] N σ g Q
  refine z_iload_n (i := 1) 1 d_F_coprimes_0 rfl rfl ?_
  refine z_if_lt (tgt := 22) d_F_coprimes_1 (by decide) (fun c1 => ?_) (fun c1 => ?_)
  · have h := h.1 c1
    refine z_aload_n (i := 0) (c := 0) 0 d_F_coprimes_22 rfl rfl rfl ?_
    refine z_iconst (n := 1) d_F_coprimes_23 (by decide) ?_
    refine z_cV (c := 0) (as := [(0, 1)]) (d' := 1) (st := []) d_F_coprimes_24 mi_F_none ml_F_121 mv_F_none se_F_none rfl rfl rfl rfl (ks_F_0 hx) rfl rfl (kl_F_0 hx) rfl rfl (b_F_none_0 hx ?_)
    intro _
    show z_U X 2 m_F_coprimes 27 [(0, (2, 0)), (1, (0, a1)), (2, (0, a2))] [(0, (-1))] N σ (z_up g 0 0 1) Q
    exact z_iret d_F_coprimes_27 rfl (by decide) (by decide) ⟨rfl, rfl, h⟩
  · have h := h.2 c1
    refine z_iload_n (i := 1) 1 d_F_coprimes_4 rfl rfl ?_
    refine z_sipush (n := 200) d_F_coprimes_5 (by decide) (by decide) ?_
    refine z_icmp_gt (tgt := 22) d_F_coprimes_8 (by decide) (fun c2 => ?_) (fun c2 => ?_)
    · have h := h.1 c2
      refine z_aload_n (i := 0) (c := 0) 0 d_F_coprimes_22 rfl rfl rfl ?_
      refine z_iconst (n := 1) d_F_coprimes_23 (by decide) ?_
      refine z_cV (c := 0) (as := [(0, 1)]) (d' := 1) (st := []) d_F_coprimes_24 mi_F_none ml_F_121 mv_F_none se_F_none rfl rfl rfl rfl (ks_F_0 hx) rfl rfl (kl_F_0 hx) rfl rfl (b_F_none_0 hx ?_)
      intro _
      show z_U X 2 m_F_coprimes 27 [(0, (2, 0)), (1, (0, a1)), (2, (0, a2))] [(0, (-1))] N σ (z_up g 0 0 1) Q
      exact z_iret d_F_coprimes_27 rfl (by decide) (by decide) ⟨rfl, rfl, h⟩
    · have h := h.2 c2
      refine z_iload_n (i := 2) 2 d_F_coprimes_11 rfl rfl ?_
      refine z_if_lt (tgt := 22) d_F_coprimes_12 (by decide) (fun c3 => ?_) (fun c3 => ?_)
      · have h := h.1 c3
        refine z_aload_n (i := 0) (c := 0) 0 d_F_coprimes_22 rfl rfl rfl ?_
        refine z_iconst (n := 1) d_F_coprimes_23 (by decide) ?_
        refine z_cV (c := 0) (as := [(0, 1)]) (d' := 1) (st := []) d_F_coprimes_24 mi_F_none ml_F_121 mv_F_none se_F_none rfl rfl rfl rfl (ks_F_0 hx) rfl rfl (kl_F_0 hx) rfl rfl (b_F_none_0 hx ?_)
        intro _
        show z_U X 2 m_F_coprimes 27 [(0, (2, 0)), (1, (0, a1)), (2, (0, a2))] [(0, (-1))] N σ (z_up g 0 0 1) Q
        exact z_iret d_F_coprimes_27 rfl (by decide) (by decide) ⟨rfl, rfl, h⟩
      · have h := h.2 c3
        refine z_iload_n (i := 2) 2 d_F_coprimes_15 rfl rfl ?_
        refine z_sipush (n := 200) d_F_coprimes_16 (by decide) (by decide) ?_
        refine z_icmp_le (tgt := 28) d_F_coprimes_19 (by decide) (fun c4 => ?_) (fun c4 => ?_)
        · have h := h.1 c4
          refine z_aload_n (i := 0) (c := 0) 0 d_F_coprimes_28 rfl rfl rfl ?_
          refine z_aload_n (i := 0) (c := 0) 0 d_F_coprimes_29 rfl rfl rfl ?_
          refine z_getr (c := 0) (kI := 7) (r2 := 15) d_F_coprimes_30 fd_F_row fl_F_43 rfl rfl rfl (ks_F_0 hx) (kl_F_0 hx) (kr_F_0_7 hx) ?_
          refine z_iload_n (i := 1) 1 d_F_coprimes_33 rfl rfl ?_
          refine z_iload_n (i := 2) 2 d_F_coprimes_34 rfl rfl ?_
          refine z_cV (c := 15) (as := [(0, a1), (0, a2)]) (d' := 1) (st := [(2, 0)]) d_F_coprimes_35 mi_Rw_pairs ml_F_275 mv_Rw_pairs se_Rw_pairs rfl rfl rfl rfl (ks_F_15 hx) rfl rfl (kl_F_15 hx) rfl rfl (z_Omono h (fun r0 g0 _ h hro => ?_))
          show z_U X 2 m_F_coprimes 38 [(0, (2, 0)), (1, (0, a1)), (2, (0, a2))] [(0, r0), (2, 0)] N σ g0 Q
          refine z_cV (c := 0) (as := [(0, r0)]) (d' := 1) (st := []) d_F_coprimes_38 mi_F_give ml_F_176 mv_F_give se_F_give rfl rfl rfl rfl (ks_F_0 hx) rfl rfl (kl_F_0 hx) rfl rfl (b_F_give_0 hx ?_)
          intro _
          show z_U X 2 m_F_coprimes 41 [(0, (2, 0)), (1, (0, a1)), (2, (0, a2))] [(0, r0)] N σ (z_up g0 0 0 0) Q
          exact z_iret d_F_coprimes_41 rfl (by decide) (by decide) ⟨rfl, rfl, h⟩
        · have h := h.2 c4
          refine z_aload_n (i := 0) (c := 0) 0 d_F_coprimes_22 rfl rfl rfl ?_
          refine z_iconst (n := 1) d_F_coprimes_23 (by decide) ?_
          refine z_cV (c := 0) (as := [(0, 1)]) (d' := 1) (st := []) d_F_coprimes_24 mi_F_none ml_F_121 mv_F_none se_F_none rfl rfl rfl rfl (ks_F_0 hx) rfl rfl (kl_F_0 hx) rfl rfl (b_F_none_0 hx ?_)
          intro _
          show z_U X 2 m_F_coprimes 27 [(0, (2, 0)), (1, (0, a1)), (2, (0, a2))] [(0, (-1))] N σ (z_up g 0 0 1) Q
          exact z_iret d_F_coprimes_27 rfl (by decide) (by decide) ⟨rfl, rfl, h⟩
theorem d_F_feed_0 : decode (z_c m_F_feed) 0 = .ok (.aload_n 0, 1) := by decide +kernel
theorem d_F_feed_1 : decode (z_c m_F_feed) 1 = .ok (.getfield 30, 3) := by decide +kernel
theorem d_F_feed_4 : decode (z_c m_F_feed) 4 = .ok (.getfield 143, 3) := by decide +kernel
theorem d_F_feed_7 : decode (z_c m_F_feed) 7 = .ok (.astore 6, 2) := by decide +kernel
theorem d_F_feed_9 : decode (z_c m_F_feed) 9 = .ok (.aload 6, 2) := by decide +kernel
theorem d_F_feed_11 : decode (z_c m_F_feed) 11 = .ok (.getfield 147, 3) := by decide +kernel
theorem d_F_feed_14 : decode (z_c m_F_feed) 14 = .ok (.bipush 20, 2) := by decide +kernel
theorem d_F_feed_16 : decode (z_c m_F_feed) 16 = .ok (.iadd, 1) := by decide +kernel
theorem d_F_feed_17 : decode (z_c m_F_feed) 17 = .ok (.sipush 900, 3) := by decide +kernel
theorem d_F_feed_20 : decode (z_c m_F_feed) 20 = .ok (.if_icmp .le 5, 3) := by decide +kernel
theorem d_F_feed_23 : decode (z_c m_F_feed) 23 = .ok (.iconst (-1), 1) := by decide +kernel
theorem d_F_feed_24 : decode (z_c m_F_feed) 24 = .ok (.ireturn, 1) := by decide +kernel
theorem d_F_feed_25 : decode (z_c m_F_feed) 25 = .ok (.aload 6, 2) := by decide +kernel
theorem d_F_feed_27 : decode (z_c m_F_feed) 27 = .ok (.iload_n 1, 1) := by decide +kernel
theorem d_F_feed_28 : decode (z_c m_F_feed) 28 = .ok (.invokevirtual 152, 3) := by decide +kernel
theorem d_F_feed_31 : decode (z_c m_F_feed) 31 = .ok (.aload 6, 2) := by decide +kernel
theorem d_F_feed_33 : decode (z_c m_F_feed) 33 = .ok (.iload_n 2, 1) := by decide +kernel
theorem d_F_feed_34 : decode (z_c m_F_feed) 34 = .ok (.invokevirtual 152, 3) := by decide +kernel
theorem d_F_feed_37 : decode (z_c m_F_feed) 37 = .ok (.aload 6, 2) := by decide +kernel
theorem d_F_feed_39 : decode (z_c m_F_feed) 39 = .ok (.iload_n 3, 1) := by decide +kernel
theorem d_F_feed_40 : decode (z_c m_F_feed) 40 = .ok (.invokevirtual 152, 3) := by decide +kernel
theorem d_F_feed_43 : decode (z_c m_F_feed) 43 = .ok (.aload 6, 2) := by decide +kernel
theorem d_F_feed_45 : decode (z_c m_F_feed) 45 = .ok (.iload 4, 2) := by decide +kernel
theorem d_F_feed_47 : decode (z_c m_F_feed) 47 = .ok (.invokevirtual 152, 3) := by decide +kernel
theorem d_F_feed_50 : decode (z_c m_F_feed) 50 = .ok (.aload 6, 2) := by decide +kernel
theorem d_F_feed_52 : decode (z_c m_F_feed) 52 = .ok (.iload 5, 2) := by decide +kernel
theorem d_F_feed_54 : decode (z_c m_F_feed) 54 = .ok (.invokevirtual 152, 3) := by decide +kernel
theorem d_F_feed_57 : decode (z_c m_F_feed) 57 = .ok (.aload 6, 2) := by decide +kernel
theorem d_F_feed_59 : decode (z_c m_F_feed) 59 = .ok (.getfield 147, 3) := by decide +kernel
theorem d_F_feed_62 : decode (z_c m_F_feed) 62 = .ok (.ireturn, 1) := by decide +kernel
set_option maxRecDepth 8000 in
theorem b_F_feed_0 {X : z_X} {N : Nat} {σ g : z_G} {Q : z_P} {a1 a2 a3 a4 a5 : Int} (hx : z_lay X N σ 0 z_SF z_RF) (h : (-2147483648 ≤ ((g 10 1) + 20) ∧ ((g 10 1) + 20) ≤ 2147483647) ∧ (((((g 10 1) + 20) ≤ 900) → (z_O X 1 m_Ta_takeInt [(2, 10), (0, a1)] N σ g (fun r0 g0 => (z_O X 1 m_Ta_takeInt [(2, 10), (0, a2)] N σ g0 (fun r1 g1 => (z_O X 1 m_Ta_takeInt [(2, 10), (0, a3)] N σ g1 (fun r2 g2 => (z_O X 1 m_Ta_takeInt [(2, 10), (0, a4)] N σ g2 (fun r3 g3 => (z_O X 1 m_Ta_takeInt [(2, 10), (0, a5)] N σ g3 (fun r4 g4 => Q (g4 10 1) g4))))))))))) ∧ (¬ (((g 10 1) + 20) ≤ 900) → Q (-1) g))) : z_O X 2 m_F_feed [(2, 0), (0, a1), (0, a2), (0, a3), (0, a4), (0, a5)] N σ g Q := by
  refine z_Oenter mi_F_feed rfl (fun _ => ?_)
  show z_U X 2 m_F_feed 0 [(0, (2, 0)), (1, (0, a1)), (2, (0, a2)), (3, (0, a3)), (4, (0, a4)), (5, (0, a5))] [] N σ g Q
  refine z_aload_n (i := 0) (c := 0) 0 d_F_feed_0 rfl rfl rfl ?_
  refine z_getr (c := 0) (kI := 4) (r2 := 9) d_F_feed_1 fd_F_parser fl_F_30 rfl rfl rfl (ks_F_0 hx) (kl_F_0 hx) (kr_F_0_4 hx) ?_
  refine z_getr (c := 9) (kI := 0) (r2 := 10) d_F_feed_4 fd_Pa_tape fl_F_143 rfl rfl rfl (ks_F_9 hx) (kl_F_9 hx) (kr_F_9_0 hx) ?_
  refine z_astore (c := 10) (ls' := [(6, (2, 10)), (0, (2, 0)), (1, (0, a1)), (2, (0, a2)), (3, (0, a3)), (4, (0, a4)), (5, (0, a5))]) d_F_feed_7 rfl rfl rfl ?_
  refine z_aload (c := 10) 0 d_F_feed_9 rfl rfl ?_
  refine z_geti (c := 10) (kI := 1) d_F_feed_11 fd_Ta_taped fl_F_147 (Or.inl rfl) rfl rfl (ks_F_10 hx) (kl_F_10 hx) ?_
  refine z_bipush (n := 20) d_F_feed_14 (by decide) (by decide) ?_
  obtain ⟨c1, h⟩ := h
  refine z_iadd d_F_feed_16 c1 ?_
  refine z_sipush (n := 900) d_F_feed_17 (by decide) (by decide) ?_
  refine z_icmp_le (tgt := 25) d_F_feed_20 (by decide) (fun c2 => ?_) (fun c2 => ?_)
  · have h := h.1 c2
    refine z_aload (c := 10) 0 d_F_feed_25 rfl rfl ?_
    refine z_iload_n (i := 1) 2 d_F_feed_27 rfl rfl ?_
    refine z_cV (c := 10) (as := [(0, a1)]) (d' := 1) (st := []) d_F_feed_28 mi_Ta_takeInt ml_F_152 mv_Ta_takeInt se_Ta_takeInt rfl rfl rfl rfl (ks_F_10 hx) rfl rfl (kl_F_10 hx) rfl rfl (z_Omono h (fun r0 g0 _ h hro => ?_))
    show z_U X 2 m_F_feed 31 [(6, (2, 10)), (0, (2, 0)), (1, (0, a1)), (2, (0, a2)), (3, (0, a3)), (4, (0, a4)), (5, (0, a5))] [] N σ g0 Q
    refine z_aload (c := 10) 0 d_F_feed_31 rfl rfl ?_
    refine z_iload_n (i := 2) 3 d_F_feed_33 rfl rfl ?_
    refine z_cV (c := 10) (as := [(0, a2)]) (d' := 1) (st := []) d_F_feed_34 mi_Ta_takeInt ml_F_152 mv_Ta_takeInt se_Ta_takeInt rfl rfl rfl rfl (ks_F_10 hx) rfl rfl (kl_F_10 hx) rfl rfl (z_Omono h (fun r1 g1 _ h hro => ?_))
    show z_U X 2 m_F_feed 37 [(6, (2, 10)), (0, (2, 0)), (1, (0, a1)), (2, (0, a2)), (3, (0, a3)), (4, (0, a4)), (5, (0, a5))] [] N σ g1 Q
    refine z_aload (c := 10) 0 d_F_feed_37 rfl rfl ?_
    refine z_iload_n (i := 3) 4 d_F_feed_39 rfl rfl ?_
    refine z_cV (c := 10) (as := [(0, a3)]) (d' := 1) (st := []) d_F_feed_40 mi_Ta_takeInt ml_F_152 mv_Ta_takeInt se_Ta_takeInt rfl rfl rfl rfl (ks_F_10 hx) rfl rfl (kl_F_10 hx) rfl rfl (z_Omono h (fun r2 g2 _ h hro => ?_))
    show z_U X 2 m_F_feed 43 [(6, (2, 10)), (0, (2, 0)), (1, (0, a1)), (2, (0, a2)), (3, (0, a3)), (4, (0, a4)), (5, (0, a5))] [] N σ g2 Q
    refine z_aload (c := 10) 0 d_F_feed_43 rfl rfl ?_
    refine z_iload 5 d_F_feed_45 rfl ?_
    refine z_cV (c := 10) (as := [(0, a4)]) (d' := 1) (st := []) d_F_feed_47 mi_Ta_takeInt ml_F_152 mv_Ta_takeInt se_Ta_takeInt rfl rfl rfl rfl (ks_F_10 hx) rfl rfl (kl_F_10 hx) rfl rfl (z_Omono h (fun r3 g3 _ h hro => ?_))
    show z_U X 2 m_F_feed 50 [(6, (2, 10)), (0, (2, 0)), (1, (0, a1)), (2, (0, a2)), (3, (0, a3)), (4, (0, a4)), (5, (0, a5))] [] N σ g3 Q
    refine z_aload (c := 10) 0 d_F_feed_50 rfl rfl ?_
    refine z_iload 6 d_F_feed_52 rfl ?_
    refine z_cV (c := 10) (as := [(0, a5)]) (d' := 1) (st := []) d_F_feed_54 mi_Ta_takeInt ml_F_152 mv_Ta_takeInt se_Ta_takeInt rfl rfl rfl rfl (ks_F_10 hx) rfl rfl (kl_F_10 hx) rfl rfl (z_Omono h (fun r4 g4 _ h hro => ?_))
    show z_U X 2 m_F_feed 57 [(6, (2, 10)), (0, (2, 0)), (1, (0, a1)), (2, (0, a2)), (3, (0, a3)), (4, (0, a4)), (5, (0, a5))] [] N σ g4 Q
    refine z_aload (c := 10) 0 d_F_feed_57 rfl rfl ?_
    refine z_geti (c := 10) (kI := 1) d_F_feed_59 fd_Ta_taped fl_F_147 (Or.inl rfl) rfl rfl (ks_F_10 hx) (kl_F_10 hx) ?_
    exact z_iret d_F_feed_62 rfl (by decide) (by decide) ⟨rfl, rfl, h⟩
  · have h := h.2 c2
    refine z_iconst (n := (-1)) d_F_feed_23 (by decide) ?_
    exact z_iret d_F_feed_24 rfl (by decide) (by decide) ⟨rfl, rfl, h⟩
theorem d_F_lived_0 : decode (z_c m_F_lived) 0 = .ok (.iload_n 1, 1) := by decide +kernel
theorem d_F_lived_1 : decode (z_c m_F_lived) 1 = .ok (.ifCond .lt 8, 3) := by decide +kernel
theorem d_F_lived_4 : decode (z_c m_F_lived) 4 = .ok (.iload_n 1, 1) := by decide +kernel
theorem d_F_lived_5 : decode (z_c m_F_lived) 5 = .ok (.iconst 4, 1) := by decide +kernel
theorem d_F_lived_6 : decode (z_c m_F_lived) 6 = .ok (.if_icmp .le 9, 3) := by decide +kernel
theorem d_F_lived_9 : decode (z_c m_F_lived) 9 = .ok (.aload_n 0, 1) := by decide +kernel
theorem d_F_lived_10 : decode (z_c m_F_lived) 10 = .ok (.iconst 1, 1) := by decide +kernel
theorem d_F_lived_11 : decode (z_c m_F_lived) 11 = .ok (.invokevirtual 121, 3) := by decide +kernel
theorem d_F_lived_14 : decode (z_c m_F_lived) 14 = .ok (.ireturn, 1) := by decide +kernel
theorem d_F_lived_15 : decode (z_c m_F_lived) 15 = .ok (.aload_n 0, 1) := by decide +kernel
theorem d_F_lived_16 : decode (z_c m_F_lived) 16 = .ok (.getfield 91, 3) := by decide +kernel
theorem d_F_lived_19 : decode (z_c m_F_lived) 19 = .ok (.ifCond .ne 10, 3) := by decide +kernel
theorem d_F_lived_22 : decode (z_c m_F_lived) 22 = .ok (.aload_n 0, 1) := by decide +kernel
theorem d_F_lived_23 : decode (z_c m_F_lived) 23 = .ok (.bipush 6, 2) := by decide +kernel
theorem d_F_lived_25 : decode (z_c m_F_lived) 25 = .ok (.invokevirtual 121, 3) := by decide +kernel
theorem d_F_lived_28 : decode (z_c m_F_lived) 28 = .ok (.ireturn, 1) := by decide +kernel
theorem d_F_lived_29 : decode (z_c m_F_lived) 29 = .ok (.iload_n 1, 1) := by decide +kernel
theorem d_F_lived_30 : decode (z_c m_F_lived) 30 = .ok (.tableswitch 78 0 3 #[30, 42, 54, 66], 30) := by decide +kernel
theorem d_F_lived_60 : decode (z_c m_F_lived) 60 = .ok (.aload_n 0, 1) := by decide +kernel
theorem d_F_lived_61 : decode (z_c m_F_lived) 61 = .ok (.aload_n 0, 1) := by decide +kernel
theorem d_F_lived_62 : decode (z_c m_F_lived) 62 = .ok (.getfield 84, 3) := by decide +kernel
theorem d_F_lived_65 : decode (z_c m_F_lived) 65 = .ok (.getfield 421, 3) := by decide +kernel
theorem d_F_lived_68 : decode (z_c m_F_lived) 68 = .ok (.invokevirtual 176, 3) := by decide +kernel
theorem d_F_lived_71 : decode (z_c m_F_lived) 71 = .ok (.ireturn, 1) := by decide +kernel
theorem d_F_lived_72 : decode (z_c m_F_lived) 72 = .ok (.aload_n 0, 1) := by decide +kernel
theorem d_F_lived_73 : decode (z_c m_F_lived) 73 = .ok (.aload_n 0, 1) := by decide +kernel
theorem d_F_lived_74 : decode (z_c m_F_lived) 74 = .ok (.getfield 84, 3) := by decide +kernel
theorem d_F_lived_77 : decode (z_c m_F_lived) 77 = .ok (.getfield 424, 3) := by decide +kernel
theorem d_F_lived_80 : decode (z_c m_F_lived) 80 = .ok (.invokevirtual 176, 3) := by decide +kernel
theorem d_F_lived_83 : decode (z_c m_F_lived) 83 = .ok (.ireturn, 1) := by decide +kernel
theorem d_F_lived_84 : decode (z_c m_F_lived) 84 = .ok (.aload_n 0, 1) := by decide +kernel
theorem d_F_lived_85 : decode (z_c m_F_lived) 85 = .ok (.aload_n 0, 1) := by decide +kernel
theorem d_F_lived_86 : decode (z_c m_F_lived) 86 = .ok (.getfield 84, 3) := by decide +kernel
theorem d_F_lived_89 : decode (z_c m_F_lived) 89 = .ok (.getfield 427, 3) := by decide +kernel
theorem d_F_lived_92 : decode (z_c m_F_lived) 92 = .ok (.invokevirtual 176, 3) := by decide +kernel
theorem d_F_lived_95 : decode (z_c m_F_lived) 95 = .ok (.ireturn, 1) := by decide +kernel
theorem d_F_lived_96 : decode (z_c m_F_lived) 96 = .ok (.aload_n 0, 1) := by decide +kernel
theorem d_F_lived_97 : decode (z_c m_F_lived) 97 = .ok (.aload_n 0, 1) := by decide +kernel
theorem d_F_lived_98 : decode (z_c m_F_lived) 98 = .ok (.getfield 84, 3) := by decide +kernel
theorem d_F_lived_101 : decode (z_c m_F_lived) 101 = .ok (.getfield 430, 3) := by decide +kernel
theorem d_F_lived_104 : decode (z_c m_F_lived) 104 = .ok (.invokevirtual 176, 3) := by decide +kernel
theorem d_F_lived_107 : decode (z_c m_F_lived) 107 = .ok (.ireturn, 1) := by decide +kernel
theorem d_F_lived_108 : decode (z_c m_F_lived) 108 = .ok (.aload_n 0, 1) := by decide +kernel
theorem d_F_lived_109 : decode (z_c m_F_lived) 109 = .ok (.aload_n 0, 1) := by decide +kernel
theorem d_F_lived_110 : decode (z_c m_F_lived) 110 = .ok (.getfield 84, 3) := by decide +kernel
theorem d_F_lived_113 : decode (z_c m_F_lived) 113 = .ok (.getfield 433, 3) := by decide +kernel
theorem d_F_lived_116 : decode (z_c m_F_lived) 116 = .ok (.ifCond .eq 7, 3) := by decide +kernel
theorem d_F_lived_119 : decode (z_c m_F_lived) 119 = .ok (.iconst 1, 1) := by decide +kernel
theorem d_F_lived_120 : decode (z_c m_F_lived) 120 = .ok (.goto 4, 3) := by decide +kernel
theorem d_F_lived_123 : decode (z_c m_F_lived) 123 = .ok (.iconst 0, 1) := by decide +kernel
theorem d_F_lived_124 : decode (z_c m_F_lived) 124 = .ok (.invokevirtual 176, 3) := by decide +kernel
theorem d_F_lived_127 : decode (z_c m_F_lived) 127 = .ok (.ireturn, 1) := by decide +kernel
set_option maxRecDepth 8000 in
theorem b_F_lived_0 {X : z_X} {N : Nat} {σ g : z_G} {Q : z_P} {a1 : Int} (hx : z_lay X N σ 0 z_SF z_RF) (h : ((a1 < 0) → Q (-1) (z_up g 0 0 1)) ∧ (¬ (a1 < 0) → (((a1 ≤ 4) → ((((g 0 17) = 0) → Q (-1) (z_up g 0 0 6)) ∧ (¬ ((g 0 17) = 0) → (((a1 = 0) → Q (g 94 1) (z_up g 0 0 0)) ∧ ((a1 = 1) → Q (g 94 2) (z_up g 0 0 0)) ∧ ((a1 = 2) → Q (g 94 3) (z_up g 0 0 0)) ∧ ((a1 = 3) → Q (g 94 4) (z_up g 0 0 0)) ∧ ((¬ (a1 = 0) ∧ ¬ (a1 = 1) ∧ ¬ (a1 = 2) ∧ ¬ (a1 = 3)) → ((((g 94 5) = 0) → Q 0 (z_up g 0 0 0)) ∧ (¬ ((g 94 5) = 0) → Q 1 (z_up g 0 0 0)))))))) ∧ (¬ (a1 ≤ 4) → Q (-1) (z_up g 0 0 1))))) : z_O X 2 m_F_lived [(2, 0), (0, a1)] N σ g Q := by
  refine z_Oenter mi_F_lived rfl (fun _ => ?_)
  show z_U X 2 m_F_lived 0 [(0, (2, 0)), (1, (0, a1))] [] N σ g Q
  refine z_iload_n (i := 1) 1 d_F_lived_0 rfl rfl ?_
  refine z_if_lt (tgt := 9) d_F_lived_1 (by decide) (fun c1 => ?_) (fun c1 => ?_)
  · have h := h.1 c1
    refine z_aload_n (i := 0) (c := 0) 0 d_F_lived_9 rfl rfl rfl ?_
    refine z_iconst (n := 1) d_F_lived_10 (by decide) ?_
    refine z_cV (c := 0) (as := [(0, 1)]) (d' := 1) (st := []) d_F_lived_11 mi_F_none ml_F_121 mv_F_none se_F_none rfl rfl rfl rfl (ks_F_0 hx) rfl rfl (kl_F_0 hx) rfl rfl (b_F_none_0 hx ?_)
    intro _
    show z_U X 2 m_F_lived 14 [(0, (2, 0)), (1, (0, a1))] [(0, (-1))] N σ (z_up g 0 0 1) Q
    exact z_iret d_F_lived_14 rfl (by decide) (by decide) ⟨rfl, rfl, h⟩
  · have h := h.2 c1
    refine z_iload_n (i := 1) 1 d_F_lived_4 rfl rfl ?_
    refine z_iconst (n := 4) d_F_lived_5 (by decide) ?_
    refine z_icmp_le (tgt := 15) d_F_lived_6 (by decide) (fun c2 => ?_) (fun c2 => ?_)
    · have h := h.1 c2
      refine z_aload_n (i := 0) (c := 0) 0 d_F_lived_15 rfl rfl rfl ?_
      refine z_getz (c := 0) (kI := 17) d_F_lived_16 fd_F_everLived fl_F_91 rfl rfl rfl (ks_F_0 hx) (kl_F_0 hx) (fun z1 => ?_)
      refine z_if_ne (tgt := 29) d_F_lived_19 (by decide) (fun c3 => ?_) (fun c3 => ?_)
      · have h := h.2 c3
        refine z_iload_n (i := 1) 1 d_F_lived_29 rfl rfl ?_
        by_cases c5 : a1 = 0
        · have h := h.1 c5
          refine z_ti c5 ?_
          refine z_tab (off := 30) (tgt := 60) d_F_lived_30 (by decide) (by decide) (by decide) (by decide) ?_
          refine z_aload_n (i := 0) (c := 0) 0 d_F_lived_60 rfl rfl rfl ?_
          refine z_aload_n (i := 0) (c := 0) 0 d_F_lived_61 rfl rfl rfl ?_
          refine z_getr (c := 0) (kI := 15) (r2 := 94) d_F_lived_62 fd_F_walk fl_F_84 rfl rfl rfl (ks_F_0 hx) (kl_F_0 hx) (kr_F_0_15 hx) ?_
          refine z_geti (c := 94) (kI := 1) d_F_lived_65 fd_Wk_missed fl_F_421 (Or.inl rfl) rfl rfl (ks_F_94 hx) (kl_F_94 hx) ?_
          refine z_cV (c := 0) (as := [(0, g 94 1)]) (d' := 1) (st := []) d_F_lived_68 mi_F_give ml_F_176 mv_F_give se_F_give rfl rfl rfl rfl (ks_F_0 hx) rfl rfl (kl_F_0 hx) rfl rfl (b_F_give_0 hx ?_)
          intro _
          show z_U X 2 m_F_lived 71 [(0, (2, 0)), (1, (0, a1))] [(0, g 94 1)] N σ (z_up g 0 0 0) Q
          exact z_iret d_F_lived_71 rfl (by decide) (by decide) ⟨rfl, rfl, h⟩
        have h := h.2
        by_cases c6 : a1 = 1
        · have h := h.1 c6
          refine z_ti c6 ?_
          refine z_tab (off := 42) (tgt := 72) d_F_lived_30 (by decide) (by decide) (by decide) (by decide) ?_
          refine z_aload_n (i := 0) (c := 0) 0 d_F_lived_72 rfl rfl rfl ?_
          refine z_aload_n (i := 0) (c := 0) 0 d_F_lived_73 rfl rfl rfl ?_
          refine z_getr (c := 0) (kI := 15) (r2 := 94) d_F_lived_74 fd_F_walk fl_F_84 rfl rfl rfl (ks_F_0 hx) (kl_F_0 hx) (kr_F_0_15 hx) ?_
          refine z_geti (c := 94) (kI := 2) d_F_lived_77 fd_Wk_moved fl_F_424 (Or.inl rfl) rfl rfl (ks_F_94 hx) (kl_F_94 hx) ?_
          refine z_cV (c := 0) (as := [(0, g 94 2)]) (d' := 1) (st := []) d_F_lived_80 mi_F_give ml_F_176 mv_F_give se_F_give rfl rfl rfl rfl (ks_F_0 hx) rfl rfl (kl_F_0 hx) rfl rfl (b_F_give_0 hx ?_)
          intro _
          show z_U X 2 m_F_lived 83 [(0, (2, 0)), (1, (0, a1))] [(0, g 94 2)] N σ (z_up g 0 0 0) Q
          exact z_iret d_F_lived_83 rfl (by decide) (by decide) ⟨rfl, rfl, h⟩
        have h := h.2
        by_cases c7 : a1 = 2
        · have h := h.1 c7
          refine z_ti c7 ?_
          refine z_tab (off := 54) (tgt := 84) d_F_lived_30 (by decide) (by decide) (by decide) (by decide) ?_
          refine z_aload_n (i := 0) (c := 0) 0 d_F_lived_84 rfl rfl rfl ?_
          refine z_aload_n (i := 0) (c := 0) 0 d_F_lived_85 rfl rfl rfl ?_
          refine z_getr (c := 0) (kI := 15) (r2 := 94) d_F_lived_86 fd_F_walk fl_F_84 rfl rfl rfl (ks_F_0 hx) (kl_F_0 hx) (kr_F_0_15 hx) ?_
          refine z_geti (c := 94) (kI := 3) d_F_lived_89 fd_Wk_pinned fl_F_427 (Or.inl rfl) rfl rfl (ks_F_94 hx) (kl_F_94 hx) ?_
          refine z_cV (c := 0) (as := [(0, g 94 3)]) (d' := 1) (st := []) d_F_lived_92 mi_F_give ml_F_176 mv_F_give se_F_give rfl rfl rfl rfl (ks_F_0 hx) rfl rfl (kl_F_0 hx) rfl rfl (b_F_give_0 hx ?_)
          intro _
          show z_U X 2 m_F_lived 95 [(0, (2, 0)), (1, (0, a1))] [(0, g 94 3)] N σ (z_up g 0 0 0) Q
          exact z_iret d_F_lived_95 rfl (by decide) (by decide) ⟨rfl, rfl, h⟩
        have h := h.2
        by_cases c8 : a1 = 3
        · have h := h.1 c8
          refine z_ti c8 ?_
          refine z_tab (off := 66) (tgt := 96) d_F_lived_30 (by decide) (by decide) (by decide) (by decide) ?_
          refine z_aload_n (i := 0) (c := 0) 0 d_F_lived_96 rfl rfl rfl ?_
          refine z_aload_n (i := 0) (c := 0) 0 d_F_lived_97 rfl rfl rfl ?_
          refine z_getr (c := 0) (kI := 15) (r2 := 94) d_F_lived_98 fd_F_walk fl_F_84 rfl rfl rfl (ks_F_0 hx) (kl_F_0 hx) (kr_F_0_15 hx) ?_
          refine z_geti (c := 94) (kI := 4) d_F_lived_101 fd_Wk_lifted fl_F_430 (Or.inl rfl) rfl rfl (ks_F_94 hx) (kl_F_94 hx) ?_
          refine z_cV (c := 0) (as := [(0, g 94 4)]) (d' := 1) (st := []) d_F_lived_104 mi_F_give ml_F_176 mv_F_give se_F_give rfl rfl rfl rfl (ks_F_0 hx) rfl rfl (kl_F_0 hx) rfl rfl (b_F_give_0 hx ?_)
          intro _
          show z_U X 2 m_F_lived 107 [(0, (2, 0)), (1, (0, a1))] [(0, g 94 4)] N σ (z_up g 0 0 0) Q
          exact z_iret d_F_lived_107 rfl (by decide) (by decide) ⟨rfl, rfl, h⟩
        have h := h.2
        have h := h ⟨c5, c6, c7, c8⟩
        refine z_tabo (tgt := 108) d_F_lived_30 ((Int.lt_or_le a1 0).elim Or.inl (fun q => Or.inr (z_st (z_st (z_st (z_st q c5) c6) c7) c8))) (by decide) ?_
        refine z_aload_n (i := 0) (c := 0) 0 d_F_lived_108 rfl rfl rfl ?_
        refine z_aload_n (i := 0) (c := 0) 0 d_F_lived_109 rfl rfl rfl ?_
        refine z_getr (c := 0) (kI := 15) (r2 := 94) d_F_lived_110 fd_F_walk fl_F_84 rfl rfl rfl (ks_F_0 hx) (kl_F_0 hx) (kr_F_0_15 hx) ?_
        refine z_getz (c := 94) (kI := 5) d_F_lived_113 fd_Wk_cutShort fl_F_433 rfl rfl rfl (ks_F_94 hx) (kl_F_94 hx) (fun z2 => ?_)
        refine z_if_eq (tgt := 123) d_F_lived_116 (by decide) (fun c9 => ?_) (fun c9 => ?_)
        · have h := h.1 c9
          refine z_iconst (n := 0) d_F_lived_123 (by decide) ?_
          refine z_cV (c := 0) (as := [(0, 0)]) (d' := 1) (st := []) d_F_lived_124 mi_F_give ml_F_176 mv_F_give se_F_give rfl rfl rfl rfl (ks_F_0 hx) rfl rfl (kl_F_0 hx) rfl rfl (b_F_give_0 hx ?_)
          intro _
          show z_U X 2 m_F_lived 127 [(0, (2, 0)), (1, (0, a1))] [(0, 0)] N σ (z_up g 0 0 0) Q
          exact z_iret d_F_lived_127 rfl (by decide) (by decide) ⟨rfl, rfl, h⟩
        · have h := h.2 c9
          refine z_iconst (n := 1) d_F_lived_119 (by decide) ?_
          refine z_goto (tgt := 124) d_F_lived_120 (by decide) ?_
          refine z_cV (c := 0) (as := [(0, 1)]) (d' := 1) (st := []) d_F_lived_124 mi_F_give ml_F_176 mv_F_give se_F_give rfl rfl rfl rfl (ks_F_0 hx) rfl rfl (kl_F_0 hx) rfl rfl (b_F_give_0 hx ?_)
          intro _
          show z_U X 2 m_F_lived 127 [(0, (2, 0)), (1, (0, a1))] [(0, 1)] N σ (z_up g 0 0 0) Q
          exact z_iret d_F_lived_127 rfl (by decide) (by decide) ⟨rfl, rfl, h⟩
      · have h := h.1 c3
        refine z_aload_n (i := 0) (c := 0) 0 d_F_lived_22 rfl rfl rfl ?_
        refine z_bipush (n := 6) d_F_lived_23 (by decide) (by decide) ?_
        refine z_cV (c := 0) (as := [(0, 6)]) (d' := 1) (st := []) d_F_lived_25 mi_F_none ml_F_121 mv_F_none se_F_none rfl rfl rfl rfl (ks_F_0 hx) rfl rfl (kl_F_0 hx) rfl rfl (b_F_none_0 hx ?_)
        intro _
        show z_U X 2 m_F_lived 28 [(0, (2, 0)), (1, (0, a1))] [(0, (-1))] N σ (z_up g 0 0 6) Q
        exact z_iret d_F_lived_28 rfl (by decide) (by decide) ⟨rfl, rfl, h⟩
    · have h := h.2 c2
      refine z_aload_n (i := 0) (c := 0) 0 d_F_lived_9 rfl rfl rfl ?_
      refine z_iconst (n := 1) d_F_lived_10 (by decide) ?_
      refine z_cV (c := 0) (as := [(0, 1)]) (d' := 1) (st := []) d_F_lived_11 mi_F_none ml_F_121 mv_F_none se_F_none rfl rfl rfl rfl (ks_F_0 hx) rfl rfl (kl_F_0 hx) rfl rfl (b_F_none_0 hx ?_)
      intro _
      show z_U X 2 m_F_lived 14 [(0, (2, 0)), (1, (0, a1))] [(0, (-1))] N σ (z_up g 0 0 1) Q
      exact z_iret d_F_lived_14 rfl (by decide) (by decide) ⟨rfl, rfl, h⟩
theorem d_F_pinsOfRow_0 : decode (z_c m_F_pinsOfRow) 0 = .ok (.aload_n 0, 1) := by decide +kernel
theorem d_F_pinsOfRow_1 : decode (z_c m_F_pinsOfRow) 1 = .ok (.aload_n 0, 1) := by decide +kernel
theorem d_F_pinsOfRow_2 : decode (z_c m_F_pinsOfRow) 2 = .ok (.getfield 67, 3) := by decide +kernel
theorem d_F_pinsOfRow_5 : decode (z_c m_F_pinsOfRow) 5 = .ok (.getfield 167, 3) := by decide +kernel
theorem d_F_pinsOfRow_8 : decode (z_c m_F_pinsOfRow) 8 = .ok (.aload_n 0, 1) := by decide +kernel
theorem d_F_pinsOfRow_9 : decode (z_c m_F_pinsOfRow) 9 = .ok (.getfield 67, 3) := by decide +kernel
theorem d_F_pinsOfRow_12 : decode (z_c m_F_pinsOfRow) 12 = .ok (.getfield 197, 3) := by decide +kernel
theorem d_F_pinsOfRow_15 : decode (z_c m_F_pinsOfRow) 15 = .ok (.invokevirtual 393, 3) := by decide +kernel
theorem d_F_pinsOfRow_18 : decode (z_c m_F_pinsOfRow) 18 = .ok (.invokevirtual 176, 3) := by decide +kernel
theorem d_F_pinsOfRow_21 : decode (z_c m_F_pinsOfRow) 21 = .ok (.ireturn, 1) := by decide +kernel
set_option maxRecDepth 8000 in
theorem b_F_pinsOfRow_0 {X : z_X} {N : Nat} {σ g : z_G} {Q : z_P} (hx : z_lay X N σ 0 z_SF z_RF) (h : z_O X 1 m_Pi_manyOfOrder [(2, 25), (0, g 23 0)] N σ g (fun r0 g0 => Q r0 (z_up g0 0 0 0))) : z_O X 2 m_F_pinsOfRow [(2, 0)] N σ g Q := by
  refine z_Oenter mi_F_pinsOfRow rfl (fun _ => ?_)
  show z_U X 2 m_F_pinsOfRow 0 [(0, (2, 0))] [] N σ g Q
  refine z_aload_n (i := 0) (c := 0) 0 d_F_pinsOfRow_0 rfl rfl rfl ?_
  refine z_aload_n (i := 0) (c := 0) 0 d_F_pinsOfRow_1 rfl rfl rfl ?_
  refine z_getr (c := 0) (kI := 11) (r2 := 23) d_F_pinsOfRow_2 fd_F_board fl_F_67 rfl rfl rfl (ks_F_0 hx) (kl_F_0 hx) (kr_F_0_11 hx) ?_
  refine z_getr (c := 23) (kI := 3) (r2 := 25) d_F_pinsOfRow_5 fd_Bd_pins fl_F_167 rfl rfl rfl (ks_F_23 hx) (kl_F_23 hx) (kr_F_23_3 hx) ?_
  refine z_aload_n (i := 0) (c := 0) 0 d_F_pinsOfRow_8 rfl rfl rfl ?_
  refine z_getr (c := 0) (kI := 11) (r2 := 23) d_F_pinsOfRow_9 fd_F_board fl_F_67 rfl rfl rfl (ks_F_0 hx) (kl_F_0 hx) (kr_F_0_11 hx) ?_
  refine z_geti (c := 23) (kI := 0) d_F_pinsOfRow_12 fd_Bd_order fl_F_197 (Or.inl rfl) rfl rfl (ks_F_23 hx) (kl_F_23 hx) ?_
  refine z_cV (c := 25) (as := [(0, g 23 0)]) (d' := 1) (st := [(2, 0)]) d_F_pinsOfRow_15 mi_Pi_manyOfOrder ml_F_393 mv_Pi_manyOfOrder se_Pi_manyOfOrder rfl rfl rfl rfl (ks_F_25 hx) rfl rfl (kl_F_25 hx) rfl rfl (z_Omono h (fun r0 g0 _ h hro => ?_))
  show z_U X 2 m_F_pinsOfRow 18 [(0, (2, 0))] [(0, r0), (2, 0)] N σ g0 Q
  refine z_cV (c := 0) (as := [(0, r0)]) (d' := 1) (st := []) d_F_pinsOfRow_18 mi_F_give ml_F_176 mv_F_give se_F_give rfl rfl rfl rfl (ks_F_0 hx) rfl rfl (kl_F_0 hx) rfl rfl (b_F_give_0 hx ?_)
  intro _
  show z_U X 2 m_F_pinsOfRow 21 [(0, (2, 0))] [(0, r0)] N σ (z_up g0 0 0 0) Q
  exact z_iret d_F_pinsOfRow_21 rfl (by decide) (by decide) ⟨rfl, rfl, h⟩
theorem d_F_tell_0 : decode (z_c m_F_tell) 0 = .ok (.lload_n 1, 1) := by decide +kernel
theorem d_F_tell_1 : decode (z_c m_F_tell) 1 = .ok (.lload_n 3, 1) := by decide +kernel
theorem d_F_tell_2 : decode (z_c m_F_tell) 2 = .ok (.invokestatic 436, 3) := by decide +kernel
theorem d_F_tell_5 : decode (z_c m_F_tell) 5 = .ok (.lstore 5, 2) := by decide +kernel
theorem d_F_tell_7 : decode (z_c m_F_tell) 7 = .ok (.lload 5, 2) := by decide +kernel
theorem d_F_tell_9 : decode (z_c m_F_tell) 9 = .ok (.lconst 0, 1) := by decide +kernel
theorem d_F_tell_10 : decode (z_c m_F_tell) 10 = .ok (.lcmp, 1) := by decide +kernel
theorem d_F_tell_11 : decode (z_c m_F_tell) 11 = .ok (.ifCond .le 19, 3) := by decide +kernel
theorem d_F_tell_14 : decode (z_c m_F_tell) 14 = .ok (.aload_n 0, 1) := by decide +kernel
theorem d_F_tell_15 : decode (z_c m_F_tell) 15 = .ok (.lload_n 1, 1) := by decide +kernel
theorem d_F_tell_16 : decode (z_c m_F_tell) 16 = .ok (.lload 5, 2) := by decide +kernel
theorem d_F_tell_18 : decode (z_c m_F_tell) 18 = .ok (.ldiv, 1) := by decide +kernel
theorem d_F_tell_19 : decode (z_c m_F_tell) 19 = .ok (.putfield 13, 3) := by decide +kernel
theorem d_F_tell_22 : decode (z_c m_F_tell) 22 = .ok (.aload_n 0, 1) := by decide +kernel
theorem d_F_tell_23 : decode (z_c m_F_tell) 23 = .ok (.lload_n 3, 1) := by decide +kernel
theorem d_F_tell_24 : decode (z_c m_F_tell) 24 = .ok (.lload 5, 2) := by decide +kernel
theorem d_F_tell_26 : decode (z_c m_F_tell) 26 = .ok (.ldiv, 1) := by decide +kernel
theorem d_F_tell_27 : decode (z_c m_F_tell) 27 = .ok (.putfield 17, 3) := by decide +kernel
theorem d_F_tell_30 : decode (z_c m_F_tell) 30 = .ok (.aload_n 0, 1) := by decide +kernel
theorem d_F_tell_31 : decode (z_c m_F_tell) 31 = .ok (.invokevirtual 109, 3) := by decide +kernel
theorem d_F_tell_34 : decode (z_c m_F_tell) 34 = .ok (.ireturn, 1) := by decide +kernel
set_option maxRecDepth 8000 in
theorem b_F_tell_0 {X : z_X} {N : Nat} {σ g : z_G} {Q : z_P} {a1 a3 : Int} (hx : z_lay X N σ 0 z_SF z_RF) (h : z_O X 1 m_F_divisorOf [(1, a1), (1, a3)] N σ g (fun r0 g0 => (((r0 ≤ 0) → Q 1 (z_up g0 0 0 0)) ∧ (¬ (r0 ≤ 0) → ((0 < r0) ∧ Q 1 (z_up (z_up (z_up g0 0 1 (Int.tdiv a1 r0)) 0 2 (Int.tdiv a3 r0)) 0 0 0)))))) : z_O X 2 m_F_tell [(2, 0), (1, a1), (1, a3)] N σ g Q := by
  refine z_Oenter mi_F_tell rfl (fun _ => ?_)
  show z_U X 2 m_F_tell 0 [(0, (2, 0)), (1, (1, a1)), (3, (1, a3))] [] N σ g Q
  refine z_lload_n (i := 1) 1 d_F_tell_0 rfl rfl ?_
  refine z_lload_n (i := 3) 2 d_F_tell_1 rfl rfl ?_
  refine z_cS (as := [(1, a1), (1, a3)]) (d' := 1) (st := []) d_F_tell_2 mi_F_divisorOf ml_F_436 ms_F_divisorOf rfl rfl rfl rfl rfl (z_Omono h (fun r0 g0 _ h hro => ?_))
  show z_U X 2 m_F_tell 5 [(0, (2, 0)), (1, (1, a1)), (3, (1, a3))] [(1, r0)] N σ g0 Q
  refine z_lstore (ls' := [(5, (1, r0)), (0, (2, 0)), (1, (1, a1)), (3, (1, a3))]) d_F_tell_5 rfl rfl ?_
  refine z_lload 0 d_F_tell_7 rfl ?_
  refine z_lconst (v := 0) d_F_tell_9 (by decide) (by decide) ?_
  refine z_lcmp_le (tgt := 30) d_F_tell_10 d_F_tell_11 (by decide) (fun c1 => ?_) (fun c1 => ?_)
  · have h := h.1 c1
    refine z_aload_n (i := 0) (c := 0) 1 d_F_tell_30 rfl rfl rfl ?_
    refine z_cV (c := 0) (as := []) (d' := 1) (st := []) d_F_tell_31 mi_F_accept ml_F_109 mv_F_accept se_F_accept rfl rfl rfl rfl (ks_F_0 hx) rfl rfl (kl_F_0 hx) rfl rfl (b_F_accept_0 hx ?_)
    intro _
    show z_U X 2 m_F_tell 34 [(5, (1, r0)), (0, (2, 0)), (1, (1, a1)), (3, (1, a3))] [(0, 1)] N σ (z_up g0 0 0 0) Q
    exact z_zret d_F_tell_34 rfl (by decide) (by decide) (by decide) ⟨rfl, rfl, h⟩
  · have h := h.2 c1
    refine z_aload_n (i := 0) (c := 0) 1 d_F_tell_14 rfl rfl rfl ?_
    refine z_lload_n (i := 1) 2 d_F_tell_15 rfl rfl ?_
    refine z_lload 0 d_F_tell_16 rfl ?_
    obtain ⟨c2, h⟩ := h
    refine z_ldiv d_F_tell_18 c2 ?_
    refine z_putl (c := 0) (kI := 1) d_F_tell_19 fd_F_toldTop fl_F_13 pf_F_toldTop rfl rfl rfl rfl (ks_F_0 hx) (kl_F_0 hx) ?_
    refine z_aload_n (i := 0) (c := 0) 1 d_F_tell_22 rfl rfl rfl ?_
    refine z_lload_n (i := 3) 3 d_F_tell_23 rfl rfl ?_
    refine z_lload 0 d_F_tell_24 rfl ?_
    refine z_ldiv d_F_tell_26 c2 ?_
    refine z_putl (c := 0) (kI := 2) d_F_tell_27 fd_F_toldBottom fl_F_17 pf_F_toldBottom rfl rfl rfl rfl (ks_F_0 hx) (kl_F_0 hx) ?_
    refine z_aload_n (i := 0) (c := 0) 1 d_F_tell_30 rfl rfl rfl ?_
    refine z_cV (c := 0) (as := []) (d' := 1) (st := []) d_F_tell_31 mi_F_accept ml_F_109 mv_F_accept se_F_accept rfl rfl rfl rfl (ks_F_0 hx) rfl rfl (kl_F_0 hx) rfl rfl (b_F_accept_0 hx ?_)
    intro _
    show z_U X 2 m_F_tell 34 [(5, (1, r0)), (0, (2, 0)), (1, (1, a1)), (3, (1, a3))] [(0, 1)] N σ (z_up (z_up (z_up g0 0 1 (Int.tdiv a1 r0)) 0 2 (Int.tdiv a3 r0)) 0 0 0) Q
    exact z_zret d_F_tell_34 rfl (by decide) (by decide) (by decide) ⟨rfl, rfl, h⟩
theorem d_Pi_add_0 : decode (z_c m_Pi_add) 0 = .ok (.aload_n 0, 1) := by decide +kernel
theorem d_Pi_add_1 : decode (z_c m_Pi_add) 1 = .ok (.iload_n 1, 1) := by decide +kernel
theorem d_Pi_add_2 : decode (z_c m_Pi_add) 2 = .ok (.iload_n 2, 1) := by decide +kernel
theorem d_Pi_add_3 : decode (z_c m_Pi_add) 3 = .ok (.invokevirtual 31, 3) := by decide +kernel
theorem d_Pi_add_6 : decode (z_c m_Pi_add) 6 = .ok (.istore 4, 2) := by decide +kernel
theorem d_Pi_add_8 : decode (z_c m_Pi_add) 8 = .ok (.iload 4, 2) := by decide +kernel
theorem d_Pi_add_10 : decode (z_c m_Pi_add) 10 = .ok (.ifCond .lt 22, 3) := by decide +kernel
theorem d_Pi_add_13 : decode (z_c m_Pi_add) 13 = .ok (.aload_n 0, 1) := by decide +kernel
theorem d_Pi_add_14 : decode (z_c m_Pi_add) 14 = .ok (.getfield 18, 3) := by decide +kernel
theorem d_Pi_add_17 : decode (z_c m_Pi_add) 17 = .ok (.iload 4, 2) := by decide +kernel
theorem d_Pi_add_19 : decode (z_c m_Pi_add) 19 = .ok (.dup2, 1) := by decide +kernel
theorem d_Pi_add_20 : decode (z_c m_Pi_add) 20 = .ok (.iaload, 1) := by decide +kernel
theorem d_Pi_add_21 : decode (z_c m_Pi_add) 21 = .ok (.iload_n 3, 1) := by decide +kernel
theorem d_Pi_add_22 : decode (z_c m_Pi_add) 22 = .ok (.iadd, 1) := by decide +kernel
theorem d_Pi_add_23 : decode (z_c m_Pi_add) 23 = .ok (.iastore, 1) := by decide +kernel
theorem d_Pi_add_24 : decode (z_c m_Pi_add) 24 = .ok (.aload_n 0, 1) := by decide +kernel
theorem d_Pi_add_25 : decode (z_c m_Pi_add) 25 = .ok (.getfield 18, 3) := by decide +kernel
theorem d_Pi_add_28 : decode (z_c m_Pi_add) 28 = .ok (.iload 4, 2) := by decide +kernel
theorem d_Pi_add_30 : decode (z_c m_Pi_add) 30 = .ok (.iaload, 1) := by decide +kernel
theorem d_Pi_add_31 : decode (z_c m_Pi_add) 31 = .ok (.ireturn, 1) := by decide +kernel
theorem d_Pi_add_32 : decode (z_c m_Pi_add) 32 = .ok (.aload_n 0, 1) := by decide +kernel
theorem d_Pi_add_33 : decode (z_c m_Pi_add) 33 = .ok (.getfield 27, 3) := by decide +kernel
theorem d_Pi_add_36 : decode (z_c m_Pi_add) 36 = .ok (.bipush 12, 2) := by decide +kernel
theorem d_Pi_add_38 : decode (z_c m_Pi_add) 38 = .ok (.if_icmp .ge 43, 3) := by decide +kernel
theorem d_Pi_add_41 : decode (z_c m_Pi_add) 41 = .ok (.aload_n 0, 1) := by decide +kernel
theorem d_Pi_add_42 : decode (z_c m_Pi_add) 42 = .ok (.getfield 9, 3) := by decide +kernel
theorem d_Pi_add_45 : decode (z_c m_Pi_add) 45 = .ok (.aload_n 0, 1) := by decide +kernel
theorem d_Pi_add_46 : decode (z_c m_Pi_add) 46 = .ok (.getfield 27, 3) := by decide +kernel
theorem d_Pi_add_49 : decode (z_c m_Pi_add) 49 = .ok (.iload_n 1, 1) := by decide +kernel
theorem d_Pi_add_50 : decode (z_c m_Pi_add) 50 = .ok (.iastore, 1) := by decide +kernel
theorem d_Pi_add_51 : decode (z_c m_Pi_add) 51 = .ok (.aload_n 0, 1) := by decide +kernel
theorem d_Pi_add_52 : decode (z_c m_Pi_add) 52 = .ok (.getfield 15, 3) := by decide +kernel
theorem d_Pi_add_55 : decode (z_c m_Pi_add) 55 = .ok (.aload_n 0, 1) := by decide +kernel
theorem d_Pi_add_56 : decode (z_c m_Pi_add) 56 = .ok (.getfield 27, 3) := by decide +kernel
theorem d_Pi_add_59 : decode (z_c m_Pi_add) 59 = .ok (.iload_n 2, 1) := by decide +kernel
theorem d_Pi_add_60 : decode (z_c m_Pi_add) 60 = .ok (.iastore, 1) := by decide +kernel
theorem d_Pi_add_61 : decode (z_c m_Pi_add) 61 = .ok (.aload_n 0, 1) := by decide +kernel
theorem d_Pi_add_62 : decode (z_c m_Pi_add) 62 = .ok (.getfield 18, 3) := by decide +kernel
theorem d_Pi_add_65 : decode (z_c m_Pi_add) 65 = .ok (.aload_n 0, 1) := by decide +kernel
theorem d_Pi_add_66 : decode (z_c m_Pi_add) 66 = .ok (.getfield 27, 3) := by decide +kernel
theorem d_Pi_add_69 : decode (z_c m_Pi_add) 69 = .ok (.iload_n 3, 1) := by decide +kernel
theorem d_Pi_add_70 : decode (z_c m_Pi_add) 70 = .ok (.iastore, 1) := by decide +kernel
theorem d_Pi_add_71 : decode (z_c m_Pi_add) 71 = .ok (.aload_n 0, 1) := by decide +kernel
theorem d_Pi_add_72 : decode (z_c m_Pi_add) 72 = .ok (.dup, 1) := by decide +kernel
theorem d_Pi_add_73 : decode (z_c m_Pi_add) 73 = .ok (.getfield 27, 3) := by decide +kernel
theorem d_Pi_add_76 : decode (z_c m_Pi_add) 76 = .ok (.iconst 1, 1) := by decide +kernel
theorem d_Pi_add_77 : decode (z_c m_Pi_add) 77 = .ok (.iadd, 1) := by decide +kernel
theorem d_Pi_add_78 : decode (z_c m_Pi_add) 78 = .ok (.putfield 27, 3) := by decide +kernel
theorem d_Pi_add_81 : decode (z_c m_Pi_add) 81 = .ok (.iload_n 3, 1) := by decide +kernel
theorem d_Pi_add_82 : decode (z_c m_Pi_add) 82 = .ok (.ireturn, 1) := by decide +kernel
set_option maxRecDepth 8000 in
theorem b_Pi_add_0 {X : z_X} {N : Nat} {σ g : z_G} {Q : z_P} {a1 a2 a3 : Int} {o : Nat} (ho : z_lay X N σ o z_SPi z_RPi) (h : z_O X 1 m_Pi_find [(2, ((o : Nat) : Int)), (0, a1), (0, a2)] N σ g (fun r0 g0 => (((r0 < 0) → (((12 ≤ (g0 o 3)) → Q a3 g0) ∧ (¬ (12 ≤ (g0 o 3)) → ((0 ≤ (g0 o 3) ∧ (g0 o 3) < 12) ∧ ((-2147483648 ≤ ((g0 o 3) + 1) ∧ ((g0 o 3) + 1) ≤ 2147483647) ∧ Q a3 (z_up (z_up (z_up (z_up g0 (o + 1) (g0 o 3) a1) (o + 2) (g0 o 3) a2) (o + 3) (g0 o 3) a3) o 3 ((g0 o 3) + 1))))))) ∧ (¬ (r0 < 0) → ((0 ≤ r0 ∧ r0 < 12) ∧ ((-2147483648 ≤ ((g0 (o + 3) r0) + a3) ∧ ((g0 (o + 3) r0) + a3) ≤ 2147483647) ∧ Q ((g0 (o + 3) r0) + a3) (z_up g0 (o + 3) r0 ((g0 (o + 3) r0) + a3)))))))) : z_O X 2 m_Pi_add [(2, ((o : Nat) : Int)), (0, a1), (0, a2), (0, a3)] N σ g Q := by
  refine z_Oenter mi_Pi_add rfl (fun _ => ?_)
  show z_U X 2 m_Pi_add 0 [(0, (2, ((o : Nat) : Int))), (1, (0, a1)), (2, (0, a2)), (3, (0, a3))] [] N σ g Q
  refine z_aload_n (i := 0) (c := o) 0 d_Pi_add_0 rfl rfl rfl ?_
  refine z_iload_n (i := 1) 1 d_Pi_add_1 rfl rfl ?_
  refine z_iload_n (i := 2) 2 d_Pi_add_2 rfl rfl ?_
  refine z_cV (c := o) (as := [(0, a1), (0, a2)]) (d' := 1) (st := []) d_Pi_add_3 mi_Pi_find ml_Pi_31 mv_Pi_find se_Pi_find rfl rfl rfl rfl (ks_Pi_0 ho) rfl rfl (kl_Pi_0 ho) rfl rfl (z_Omono h (fun r0 g0 _ h hro => ?_))
  show z_U X 2 m_Pi_add 6 [(0, (2, ((o : Nat) : Int))), (1, (0, a1)), (2, (0, a2)), (3, (0, a3))] [(0, r0)] N σ g0 Q
  refine z_istore (ls' := [(4, (0, r0)), (0, (2, ((o : Nat) : Int))), (1, (0, a1)), (2, (0, a2)), (3, (0, a3))]) d_Pi_add_6 rfl rfl ?_
  refine z_iload 0 d_Pi_add_8 rfl ?_
  refine z_if_lt (tgt := 32) d_Pi_add_10 (by decide) (fun c1 => ?_) (fun c1 => ?_)
  · have h := h.1 c1
    refine z_aload_n (i := 0) (c := o) 1 d_Pi_add_32 rfl rfl rfl ?_
    refine z_geti (c := o) (kI := 3) d_Pi_add_33 fd_Pi_many fl_Pi_27 (Or.inl rfl) rfl rfl (ks_Pi_0 ho) (kl_Pi_0 ho) ?_
    refine z_bipush (n := 12) d_Pi_add_36 (by decide) (by decide) ?_
    refine z_icmp_ge (tgt := 81) d_Pi_add_38 (by decide) (fun c2 => ?_) (fun c2 => ?_)
    · have h := h.1 c2
      refine z_iload_n (i := 3) 4 d_Pi_add_81 rfl rfl ?_
      exact z_iret d_Pi_add_82 rfl (by decide) (by decide) ⟨rfl, rfl, h⟩
    · have h := h.2 c2
      refine z_aload_n (i := 0) (c := o) 1 d_Pi_add_41 rfl rfl rfl ?_
      refine z_getr (c := o) (kI := 0) (r2 := ((o + 1 : Nat) : Int)) d_Pi_add_42 fd_Pi_tops fl_Pi_9 rfl rfl rfl (ks_Pi_0 ho) (kl_Pi_0 ho) (kr_Pi_0_0 ho) ?_
      refine z_aload_n (i := 0) (c := o) 1 d_Pi_add_45 rfl rfl rfl ?_
      refine z_geti (c := o) (kI := 3) d_Pi_add_46 fd_Pi_many fl_Pi_27 (Or.inl rfl) rfl rfl (ks_Pi_0 ho) (kl_Pi_0 ho) ?_
      refine z_iload_n (i := 1) 2 d_Pi_add_49 rfl rfl ?_
      obtain ⟨c3, h⟩ := h
      refine z_iast (c := (o + 1)) (m := 12) d_Pi_add_50 rfl (ks_Pi_1 ho) (kl_Pi_1 ho) rfl (by decide) c3 ?_
      refine z_aload_n (i := 0) (c := o) 1 d_Pi_add_51 rfl rfl rfl ?_
      refine z_getr (c := o) (kI := 1) (r2 := ((o + 2 : Nat) : Int)) d_Pi_add_52 fd_Pi_bottoms fl_Pi_15 rfl rfl rfl (ks_Pi_0 ho) (kl_Pi_0 ho) (kr_Pi_0_1 ho) ?_
      refine z_aload_n (i := 0) (c := o) 1 d_Pi_add_55 rfl rfl rfl ?_
      refine z_geti (c := o) (kI := 3) d_Pi_add_56 fd_Pi_many fl_Pi_27 (Or.inl rfl) rfl rfl (ks_Pi_0 ho) (kl_Pi_0 ho) ?_
      refine z_ti (b := g0 o 3) (by simp [z_up]) ?_
      refine z_iload_n (i := 2) 3 d_Pi_add_59 rfl rfl ?_
      refine z_iast (c := (o + 2)) (m := 12) d_Pi_add_60 rfl (ks_Pi_2 ho) (kl_Pi_2 ho) rfl (by decide) c3 ?_
      refine z_aload_n (i := 0) (c := o) 1 d_Pi_add_61 rfl rfl rfl ?_
      refine z_getr (c := o) (kI := 2) (r2 := ((o + 3 : Nat) : Int)) d_Pi_add_62 fd_Pi_weights fl_Pi_18 rfl rfl rfl (ks_Pi_0 ho) (kl_Pi_0 ho) (kr_Pi_0_2 ho) ?_
      refine z_aload_n (i := 0) (c := o) 1 d_Pi_add_65 rfl rfl rfl ?_
      refine z_geti (c := o) (kI := 3) d_Pi_add_66 fd_Pi_many fl_Pi_27 (Or.inl rfl) rfl rfl (ks_Pi_0 ho) (kl_Pi_0 ho) ?_
      refine z_ti (b := g0 o 3) (by simp [z_up]) ?_
      refine z_iload_n (i := 3) 4 d_Pi_add_69 rfl rfl ?_
      refine z_iast (c := (o + 3)) (m := 12) d_Pi_add_70 rfl (ks_Pi_3 ho) (kl_Pi_3 ho) rfl (by decide) c3 ?_
      refine z_aload_n (i := 0) (c := o) 1 d_Pi_add_71 rfl rfl rfl ?_
      refine z_dup d_Pi_add_72 rfl ?_
      refine z_geti (c := o) (kI := 3) d_Pi_add_73 fd_Pi_many fl_Pi_27 (Or.inl rfl) rfl rfl (ks_Pi_0 ho) (kl_Pi_0 ho) ?_
      refine z_ti (b := g0 o 3) (by simp [z_up]) ?_
      refine z_iconst (n := 1) d_Pi_add_76 (by decide) ?_
      obtain ⟨c4, h⟩ := h
      refine z_iadd d_Pi_add_77 c4 ?_
      refine z_puti (c := o) (kI := 3) d_Pi_add_78 fd_Pi_many fl_Pi_27 pf_Pi_many rfl rfl rfl rfl (ks_Pi_0 ho) (kl_Pi_0 ho) ?_
      refine z_iload_n (i := 3) 4 d_Pi_add_81 rfl rfl ?_
      exact z_iret d_Pi_add_82 rfl (by decide) (by decide) ⟨rfl, rfl, h⟩
  · have h := h.2 c1
    refine z_aload_n (i := 0) (c := o) 1 d_Pi_add_13 rfl rfl rfl ?_
    refine z_getr (c := o) (kI := 2) (r2 := ((o + 3 : Nat) : Int)) d_Pi_add_14 fd_Pi_weights fl_Pi_18 rfl rfl rfl (ks_Pi_0 ho) (kl_Pi_0 ho) (kr_Pi_0_2 ho) ?_
    refine z_iload 0 d_Pi_add_17 rfl ?_
    refine z_dup2 d_Pi_add_19 rfl rfl ?_
    obtain ⟨c5, h⟩ := h
    refine z_iald (c := (o + 3)) (m := 12) d_Pi_add_20 rfl (ks_Pi_3 ho) (kl_Pi_3 ho) rfl (by decide) c5 ?_
    refine z_iload_n (i := 3) 4 d_Pi_add_21 rfl rfl ?_
    obtain ⟨c6, h⟩ := h
    refine z_iadd d_Pi_add_22 c6 ?_
    refine z_iast (c := (o + 3)) (m := 12) d_Pi_add_23 rfl (ks_Pi_3 ho) (kl_Pi_3 ho) rfl (by decide) c5 ?_
    refine z_aload_n (i := 0) (c := o) 1 d_Pi_add_24 rfl rfl rfl ?_
    refine z_getr (c := o) (kI := 2) (r2 := ((o + 3 : Nat) : Int)) d_Pi_add_25 fd_Pi_weights fl_Pi_18 rfl rfl rfl (ks_Pi_0 ho) (kl_Pi_0 ho) (kr_Pi_0_2 ho) ?_
    refine z_iload 0 d_Pi_add_28 rfl ?_
    refine z_iald (c := (o + 3)) (m := 12) d_Pi_add_30 rfl (ks_Pi_3 ho) (kl_Pi_3 ho) rfl (by decide) c5 ?_
    refine z_ti (b := (g0 (o + 3) r0) + a3) (by simp [z_up]) ?_
    exact z_iret d_Pi_add_31 rfl (by decide) (by decide) ⟨rfl, rfl, h⟩
theorem d_Pi_isLess_0 : decode (z_c m_Pi_isLess) 0 = .ok (.aload_n 0, 1) := by decide +kernel
theorem d_Pi_isLess_1 : decode (z_c m_Pi_isLess) 1 = .ok (.getfield 9, 3) := by decide +kernel
theorem d_Pi_isLess_4 : decode (z_c m_Pi_isLess) 4 = .ok (.iload_n 1, 1) := by decide +kernel
theorem d_Pi_isLess_5 : decode (z_c m_Pi_isLess) 5 = .ok (.iaload, 1) := by decide +kernel
theorem d_Pi_isLess_6 : decode (z_c m_Pi_isLess) 6 = .ok (.aload_n 0, 1) := by decide +kernel
theorem d_Pi_isLess_7 : decode (z_c m_Pi_isLess) 7 = .ok (.getfield 15, 3) := by decide +kernel
theorem d_Pi_isLess_10 : decode (z_c m_Pi_isLess) 10 = .ok (.iload_n 1, 1) := by decide +kernel
theorem d_Pi_isLess_11 : decode (z_c m_Pi_isLess) 11 = .ok (.iaload, 1) := by decide +kernel
theorem d_Pi_isLess_12 : decode (z_c m_Pi_isLess) 12 = .ok (.aload_n 0, 1) := by decide +kernel
theorem d_Pi_isLess_13 : decode (z_c m_Pi_isLess) 13 = .ok (.getfield 9, 3) := by decide +kernel
theorem d_Pi_isLess_16 : decode (z_c m_Pi_isLess) 16 = .ok (.iload_n 2, 1) := by decide +kernel
theorem d_Pi_isLess_17 : decode (z_c m_Pi_isLess) 17 = .ok (.iaload, 1) := by decide +kernel
theorem d_Pi_isLess_18 : decode (z_c m_Pi_isLess) 18 = .ok (.aload_n 0, 1) := by decide +kernel
theorem d_Pi_isLess_19 : decode (z_c m_Pi_isLess) 19 = .ok (.getfield 15, 3) := by decide +kernel
theorem d_Pi_isLess_22 : decode (z_c m_Pi_isLess) 22 = .ok (.iload_n 2, 1) := by decide +kernel
theorem d_Pi_isLess_23 : decode (z_c m_Pi_isLess) 23 = .ok (.iaload, 1) := by decide +kernel
theorem d_Pi_isLess_24 : decode (z_c m_Pi_isLess) 24 = .ok (.invokestatic 38, 3) := by decide +kernel
theorem d_Pi_isLess_27 : decode (z_c m_Pi_isLess) 27 = .ok (.lconst 0, 1) := by decide +kernel
theorem d_Pi_isLess_28 : decode (z_c m_Pi_isLess) 28 = .ok (.lcmp, 1) := by decide +kernel
theorem d_Pi_isLess_29 : decode (z_c m_Pi_isLess) 29 = .ok (.ifCond .ge 7, 3) := by decide +kernel
theorem d_Pi_isLess_32 : decode (z_c m_Pi_isLess) 32 = .ok (.iconst 1, 1) := by decide +kernel
theorem d_Pi_isLess_33 : decode (z_c m_Pi_isLess) 33 = .ok (.goto 4, 3) := by decide +kernel
theorem d_Pi_isLess_36 : decode (z_c m_Pi_isLess) 36 = .ok (.iconst 0, 1) := by decide +kernel
theorem d_Pi_isLess_37 : decode (z_c m_Pi_isLess) 37 = .ok (.ireturn, 1) := by decide +kernel
set_option maxRecDepth 8000 in
theorem b_Pi_isLess_0 {X : z_X} {N : Nat} {σ g : z_G} {Q : z_P} {a1 a2 : Int} {o : Nat} (ho : z_lay X N σ o z_SPi z_RPi) (h : (0 ≤ a1 ∧ a1 < 12) ∧ ((0 ≤ a2 ∧ a2 < 12) ∧ ((-9223372036854775808 ≤ ((g (o + 1) a1) * (g (o + 2) a2)) ∧ ((g (o + 1) a1) * (g (o + 2) a2)) ≤ 9223372036854775807) ∧ ((-9223372036854775808 ≤ ((g (o + 1) a2) * (g (o + 2) a1)) ∧ ((g (o + 1) a2) * (g (o + 2) a1)) ≤ 9223372036854775807) ∧ ((-9223372036854775808 ≤ (((g (o + 1) a1) * (g (o + 2) a2)) - ((g (o + 1) a2) * (g (o + 2) a1))) ∧ (((g (o + 1) a1) * (g (o + 2) a2)) - ((g (o + 1) a2) * (g (o + 2) a1))) ≤ 9223372036854775807) ∧ (((0 ≤ (((g (o + 1) a1) * (g (o + 2) a2)) - ((g (o + 1) a2) * (g (o + 2) a1)))) → Q 0 g) ∧ (¬ (0 ≤ (((g (o + 1) a1) * (g (o + 2) a2)) - ((g (o + 1) a2) * (g (o + 2) a1)))) → Q 1 g))))))) : z_O X 2 m_Pi_isLess [(2, ((o : Nat) : Int)), (0, a1), (0, a2)] N σ g Q := by
  refine z_Oenter mi_Pi_isLess rfl (fun _ => ?_)
  show z_U X 2 m_Pi_isLess 0 [(0, (2, ((o : Nat) : Int))), (1, (0, a1)), (2, (0, a2))] [] N σ g Q
  refine z_aload_n (i := 0) (c := o) 0 d_Pi_isLess_0 rfl rfl rfl ?_
  refine z_getr (c := o) (kI := 0) (r2 := ((o + 1 : Nat) : Int)) d_Pi_isLess_1 fd_Pi_tops fl_Pi_9 rfl rfl rfl (ks_Pi_0 ho) (kl_Pi_0 ho) (kr_Pi_0_0 ho) ?_
  refine z_iload_n (i := 1) 1 d_Pi_isLess_4 rfl rfl ?_
  obtain ⟨c1, h⟩ := h
  refine z_iald (c := (o + 1)) (m := 12) d_Pi_isLess_5 rfl (ks_Pi_1 ho) (kl_Pi_1 ho) rfl (by decide) c1 ?_
  refine z_aload_n (i := 0) (c := o) 0 d_Pi_isLess_6 rfl rfl rfl ?_
  refine z_getr (c := o) (kI := 1) (r2 := ((o + 2 : Nat) : Int)) d_Pi_isLess_7 fd_Pi_bottoms fl_Pi_15 rfl rfl rfl (ks_Pi_0 ho) (kl_Pi_0 ho) (kr_Pi_0_1 ho) ?_
  refine z_iload_n (i := 1) 1 d_Pi_isLess_10 rfl rfl ?_
  refine z_iald (c := (o + 2)) (m := 12) d_Pi_isLess_11 rfl (ks_Pi_2 ho) (kl_Pi_2 ho) rfl (by decide) c1 ?_
  refine z_aload_n (i := 0) (c := o) 0 d_Pi_isLess_12 rfl rfl rfl ?_
  refine z_getr (c := o) (kI := 0) (r2 := ((o + 1 : Nat) : Int)) d_Pi_isLess_13 fd_Pi_tops fl_Pi_9 rfl rfl rfl (ks_Pi_0 ho) (kl_Pi_0 ho) (kr_Pi_0_0 ho) ?_
  refine z_iload_n (i := 2) 2 d_Pi_isLess_16 rfl rfl ?_
  obtain ⟨c2, h⟩ := h
  refine z_iald (c := (o + 1)) (m := 12) d_Pi_isLess_17 rfl (ks_Pi_1 ho) (kl_Pi_1 ho) rfl (by decide) c2 ?_
  refine z_aload_n (i := 0) (c := o) 0 d_Pi_isLess_18 rfl rfl rfl ?_
  refine z_getr (c := o) (kI := 1) (r2 := ((o + 2 : Nat) : Int)) d_Pi_isLess_19 fd_Pi_bottoms fl_Pi_15 rfl rfl rfl (ks_Pi_0 ho) (kl_Pi_0 ho) (kr_Pi_0_1 ho) ?_
  refine z_iload_n (i := 2) 2 d_Pi_isLess_22 rfl rfl ?_
  refine z_iald (c := (o + 2)) (m := 12) d_Pi_isLess_23 rfl (ks_Pi_2 ho) (kl_Pi_2 ho) rfl (by decide) c2 ?_
  refine z_cSN (as := [(0, g (o + 1) a1), (0, g (o + 2) a1), (0, g (o + 1) a2), (0, g (o + 2) a2)]) (d' := 1) (st := []) d_Pi_isLess_24 mi_F_cross nl_Pi_38 ms_F_cross rfl rfl rfl rfl rfl (b_F_cross_0  ?_)
  obtain ⟨c3, h⟩ := h
  refine ⟨c3, ?_⟩
  obtain ⟨c4, h⟩ := h
  refine ⟨c4, ?_⟩
  obtain ⟨c5, h⟩ := h
  refine ⟨c5, ?_⟩
  intro _
  show z_U X 2 m_Pi_isLess 27 [(0, (2, ((o : Nat) : Int))), (1, (0, a1)), (2, (0, a2))] [(1, ((g (o + 1) a1) * (g (o + 2) a2)) - ((g (o + 1) a2) * (g (o + 2) a1)))] N σ g Q
  refine z_lconst (v := 0) d_Pi_isLess_27 (by decide) (by decide) ?_
  refine z_lcmp_ge (tgt := 36) d_Pi_isLess_28 d_Pi_isLess_29 (by decide) (fun c6 => ?_) (fun c6 => ?_)
  · have h := h.1 c6
    refine z_iconst (n := 0) d_Pi_isLess_36 (by decide) ?_
    exact z_zret d_Pi_isLess_37 rfl (by decide) (by decide) (by decide) ⟨rfl, rfl, h⟩
  · have h := h.2 c6
    refine z_iconst (n := 1) d_Pi_isLess_32 (by decide) ?_
    refine z_goto (tgt := 37) d_Pi_isLess_33 (by decide) ?_
    exact z_zret d_Pi_isLess_37 rfl (by decide) (by decide) (by decide) ⟨rfl, rfl, h⟩
theorem d_Pi_weightUpTo_0 : decode (z_c m_Pi_weightUpTo) 0 = .ok (.iconst 0, 1) := by decide +kernel
theorem d_Pi_weightUpTo_1 : decode (z_c m_Pi_weightUpTo) 1 = .ok (.istore_n 3, 1) := by decide +kernel
theorem d_Pi_weightUpTo_2 : decode (z_c m_Pi_weightUpTo) 2 = .ok (.iconst 0, 1) := by decide +kernel
theorem d_Pi_weightUpTo_3 : decode (z_c m_Pi_weightUpTo) 3 = .ok (.istore 4, 2) := by decide +kernel
theorem d_Pi_weightUpTo_5 : decode (z_c m_Pi_weightUpTo) 5 = .ok (.iload 4, 2) := by decide +kernel
theorem d_Pi_weightUpTo_7 : decode (z_c m_Pi_weightUpTo) 7 = .ok (.aload_n 0, 1) := by decide +kernel
theorem d_Pi_weightUpTo_8 : decode (z_c m_Pi_weightUpTo) 8 = .ok (.getfield 27, 3) := by decide +kernel
theorem d_Pi_weightUpTo_11 : decode (z_c m_Pi_weightUpTo) 11 = .ok (.if_icmp .ge 43, 3) := by decide +kernel
theorem d_Pi_weightUpTo_14 : decode (z_c m_Pi_weightUpTo) 14 = .ok (.aload_n 0, 1) := by decide +kernel
theorem d_Pi_weightUpTo_15 : decode (z_c m_Pi_weightUpTo) 15 = .ok (.getfield 9, 3) := by decide +kernel
theorem d_Pi_weightUpTo_18 : decode (z_c m_Pi_weightUpTo) 18 = .ok (.iload 4, 2) := by decide +kernel
theorem d_Pi_weightUpTo_20 : decode (z_c m_Pi_weightUpTo) 20 = .ok (.iaload, 1) := by decide +kernel
theorem d_Pi_weightUpTo_21 : decode (z_c m_Pi_weightUpTo) 21 = .ok (.aload_n 0, 1) := by decide +kernel
theorem d_Pi_weightUpTo_22 : decode (z_c m_Pi_weightUpTo) 22 = .ok (.getfield 15, 3) := by decide +kernel
theorem d_Pi_weightUpTo_25 : decode (z_c m_Pi_weightUpTo) 25 = .ok (.iload 4, 2) := by decide +kernel
theorem d_Pi_weightUpTo_27 : decode (z_c m_Pi_weightUpTo) 27 = .ok (.iaload, 1) := by decide +kernel
theorem d_Pi_weightUpTo_28 : decode (z_c m_Pi_weightUpTo) 28 = .ok (.iload_n 1, 1) := by decide +kernel
theorem d_Pi_weightUpTo_29 : decode (z_c m_Pi_weightUpTo) 29 = .ok (.iload_n 2, 1) := by decide +kernel
theorem d_Pi_weightUpTo_30 : decode (z_c m_Pi_weightUpTo) 30 = .ok (.invokestatic 38, 3) := by decide +kernel
theorem d_Pi_weightUpTo_33 : decode (z_c m_Pi_weightUpTo) 33 = .ok (.lconst 0, 1) := by decide +kernel
theorem d_Pi_weightUpTo_34 : decode (z_c m_Pi_weightUpTo) 34 = .ok (.lcmp, 1) := by decide +kernel
theorem d_Pi_weightUpTo_35 : decode (z_c m_Pi_weightUpTo) 35 = .ok (.ifCond .gt 13, 3) := by decide +kernel
theorem d_Pi_weightUpTo_38 : decode (z_c m_Pi_weightUpTo) 38 = .ok (.iload_n 3, 1) := by decide +kernel
theorem d_Pi_weightUpTo_39 : decode (z_c m_Pi_weightUpTo) 39 = .ok (.aload_n 0, 1) := by decide +kernel
theorem d_Pi_weightUpTo_40 : decode (z_c m_Pi_weightUpTo) 40 = .ok (.getfield 18, 3) := by decide +kernel
theorem d_Pi_weightUpTo_43 : decode (z_c m_Pi_weightUpTo) 43 = .ok (.iload 4, 2) := by decide +kernel
theorem d_Pi_weightUpTo_45 : decode (z_c m_Pi_weightUpTo) 45 = .ok (.iaload, 1) := by decide +kernel
theorem d_Pi_weightUpTo_46 : decode (z_c m_Pi_weightUpTo) 46 = .ok (.iadd, 1) := by decide +kernel
theorem d_Pi_weightUpTo_47 : decode (z_c m_Pi_weightUpTo) 47 = .ok (.istore_n 3, 1) := by decide +kernel
theorem d_Pi_weightUpTo_48 : decode (z_c m_Pi_weightUpTo) 48 = .ok (.iinc 4 1, 3) := by decide +kernel
theorem d_Pi_weightUpTo_51 : decode (z_c m_Pi_weightUpTo) 51 = .ok (.goto (-46), 3) := by decide +kernel
theorem d_Pi_weightUpTo_54 : decode (z_c m_Pi_weightUpTo) 54 = .ok (.iload_n 3, 1) := by decide +kernel
theorem d_Pi_weightUpTo_55 : decode (z_c m_Pi_weightUpTo) 55 = .ok (.ireturn, 1) := by decide +kernel
abbrev L_Pi_weightUpTo_5 (X : z_X) (N : Nat) (σ : z_G) (x1 x2 x3 x4 : Int) (o : Nat) (g : z_G) (Q : z_P) : Prop := z_U X 2 m_Pi_weightUpTo 5 [(0, (2, ((o : Nat) : Int))), (1, (0, x1)), (2, (0, x2)), (3, (0, x3)), (4, (0, x4))] [] N σ g Q
set_option maxRecDepth 8000 in
theorem b_Pi_weightUpTo_0 {X : z_X} {N : Nat} {σ g : z_G} {Q : z_P} {a1 a2 : Int} {o : Nat} (ho : z_lay X N σ o z_SPi z_RPi) (h : L_Pi_weightUpTo_5 X N σ a1 a2 0 0 o g Q) : z_O X 2 m_Pi_weightUpTo [(2, ((o : Nat) : Int)), (0, a1), (0, a2)] N σ g Q := by
  refine z_Oenter mi_Pi_weightUpTo rfl (fun _ => ?_)
  show z_U X 2 m_Pi_weightUpTo 0 [(0, (2, ((o : Nat) : Int))), (1, (0, a1)), (2, (0, a2))] [] N σ g Q
  refine z_iconst (n := 0) d_Pi_weightUpTo_0 (by decide) ?_
  refine z_istore_n (i := 3) (ls' := [(3, (0, 0)), (0, (2, ((o : Nat) : Int))), (1, (0, a1)), (2, (0, a2))]) d_Pi_weightUpTo_1 rfl rfl rfl ?_
  refine z_iconst (n := 0) d_Pi_weightUpTo_2 (by decide) ?_
  refine z_istore (ls' := [(4, (0, 0)), (3, (0, 0)), (0, (2, ((o : Nat) : Int))), (1, (0, a1)), (2, (0, a2))]) d_Pi_weightUpTo_3 rfl rfl ?_
  refine z_sub (ls' := [(0, (2, ((o : Nat) : Int))), (1, (0, a1)), (2, (0, a2)), (3, (0, 0)), (4, (0, 0))]) [2, 3, 4, 1, 0] rfl ?_
  exact h
set_option maxRecDepth 8000 in
theorem b_Pi_weightUpTo_5 {X : z_X} {N : Nat} {σ g : z_G} {Q : z_P} {x1 x2 x3 x4 : Int} {o : Nat} (ho : z_lay X N σ o z_SPi z_RPi) (h : (((g o 3) ≤ x4) → Q x3 g) ∧ (¬ ((g o 3) ≤ x4) → ((0 ≤ x4 ∧ x4 < 12) ∧ ((-9223372036854775808 ≤ ((g (o + 1) x4) * x2) ∧ ((g (o + 1) x4) * x2) ≤ 9223372036854775807) ∧ ((-9223372036854775808 ≤ (x1 * (g (o + 2) x4)) ∧ (x1 * (g (o + 2) x4)) ≤ 9223372036854775807) ∧ ((-9223372036854775808 ≤ (((g (o + 1) x4) * x2) - (x1 * (g (o + 2) x4))) ∧ (((g (o + 1) x4) * x2) - (x1 * (g (o + 2) x4))) ≤ 9223372036854775807) ∧ (((0 < (((g (o + 1) x4) * x2) - (x1 * (g (o + 2) x4)))) → ((-2147483648 ≤ (x4 + 1) ∧ (x4 + 1) ≤ 2147483647) ∧ L_Pi_weightUpTo_5 X N σ x1 x2 x3 (x4 + 1) o g Q)) ∧ (¬ (0 < (((g (o + 1) x4) * x2) - (x1 * (g (o + 2) x4)))) → ((-2147483648 ≤ (x3 + (g (o + 3) x4)) ∧ (x3 + (g (o + 3) x4)) ≤ 2147483647) ∧ ((-2147483648 ≤ (x4 + 1) ∧ (x4 + 1) ≤ 2147483647) ∧ L_Pi_weightUpTo_5 X N σ x1 x2 (x3 + (g (o + 3) x4)) (x4 + 1) o g Q)))))))))) : L_Pi_weightUpTo_5 X N σ x1 x2 x3 x4 o g Q := by
  refine z_iload 4 d_Pi_weightUpTo_5 rfl ?_
  refine z_aload_n (i := 0) (c := o) 0 d_Pi_weightUpTo_7 rfl rfl rfl ?_
  refine z_geti (c := o) (kI := 3) d_Pi_weightUpTo_8 fd_Pi_many fl_Pi_27 (Or.inl rfl) rfl rfl (ks_Pi_0 ho) (kl_Pi_0 ho) ?_
  refine z_icmp_ge (tgt := 54) d_Pi_weightUpTo_11 (by decide) (fun c1 => ?_) (fun c1 => ?_)
  · have h := h.1 c1
    refine z_iload_n (i := 3) 3 d_Pi_weightUpTo_54 rfl rfl ?_
    exact z_iret d_Pi_weightUpTo_55 rfl (by decide) (by decide) ⟨rfl, rfl, h⟩
  · have h := h.2 c1
    refine z_aload_n (i := 0) (c := o) 0 d_Pi_weightUpTo_14 rfl rfl rfl ?_
    refine z_getr (c := o) (kI := 0) (r2 := ((o + 1 : Nat) : Int)) d_Pi_weightUpTo_15 fd_Pi_tops fl_Pi_9 rfl rfl rfl (ks_Pi_0 ho) (kl_Pi_0 ho) (kr_Pi_0_0 ho) ?_
    refine z_iload 4 d_Pi_weightUpTo_18 rfl ?_
    obtain ⟨c2, h⟩ := h
    refine z_iald (c := (o + 1)) (m := 12) d_Pi_weightUpTo_20 rfl (ks_Pi_1 ho) (kl_Pi_1 ho) rfl (by decide) c2 ?_
    refine z_aload_n (i := 0) (c := o) 0 d_Pi_weightUpTo_21 rfl rfl rfl ?_
    refine z_getr (c := o) (kI := 1) (r2 := ((o + 2 : Nat) : Int)) d_Pi_weightUpTo_22 fd_Pi_bottoms fl_Pi_15 rfl rfl rfl (ks_Pi_0 ho) (kl_Pi_0 ho) (kr_Pi_0_1 ho) ?_
    refine z_iload 4 d_Pi_weightUpTo_25 rfl ?_
    refine z_iald (c := (o + 2)) (m := 12) d_Pi_weightUpTo_27 rfl (ks_Pi_2 ho) (kl_Pi_2 ho) rfl (by decide) c2 ?_
    refine z_iload_n (i := 1) 1 d_Pi_weightUpTo_28 rfl rfl ?_
    refine z_iload_n (i := 2) 2 d_Pi_weightUpTo_29 rfl rfl ?_
    refine z_cSN (as := [(0, g (o + 1) x4), (0, g (o + 2) x4), (0, x1), (0, x2)]) (d' := 1) (st := []) d_Pi_weightUpTo_30 mi_F_cross nl_Pi_38 ms_F_cross rfl rfl rfl rfl rfl (b_F_cross_0  ?_)
    obtain ⟨c3, h⟩ := h
    refine ⟨c3, ?_⟩
    obtain ⟨c4, h⟩ := h
    refine ⟨c4, ?_⟩
    obtain ⟨c5, h⟩ := h
    refine ⟨c5, ?_⟩
    intro _
    show z_U X 2 m_Pi_weightUpTo 33 [(0, (2, ((o : Nat) : Int))), (1, (0, x1)), (2, (0, x2)), (3, (0, x3)), (4, (0, x4))] [(1, ((g (o + 1) x4) * x2) - (x1 * (g (o + 2) x4)))] N σ g Q
    refine z_lconst (v := 0) d_Pi_weightUpTo_33 (by decide) (by decide) ?_
    refine z_lcmp_gt (tgt := 48) d_Pi_weightUpTo_34 d_Pi_weightUpTo_35 (by decide) (fun c6 => ?_) (fun c6 => ?_)
    · have h := h.1 c6
      obtain ⟨c7, h⟩ := h
      refine z_iinc (n := 1) (ls' := [(4, (0, x4 + 1)), (0, (2, ((o : Nat) : Int))), (1, (0, x1)), (2, (0, x2)), (3, (0, x3))]) 4 d_Pi_weightUpTo_48 rfl c7 rfl rfl ?_
      refine z_goto (tgt := 5) d_Pi_weightUpTo_51 (by decide) ?_
      refine z_sub (ls' := [(0, (2, ((o : Nat) : Int))), (1, (0, x1)), (2, (0, x2)), (3, (0, x3)), (4, (0, x4 + 1))]) [1, 2, 3, 4, 0] rfl ?_
      exact h
    · have h := h.2 c6
      refine z_iload_n (i := 3) 3 d_Pi_weightUpTo_38 rfl rfl ?_
      refine z_aload_n (i := 0) (c := o) 0 d_Pi_weightUpTo_39 rfl rfl rfl ?_
      refine z_getr (c := o) (kI := 2) (r2 := ((o + 3 : Nat) : Int)) d_Pi_weightUpTo_40 fd_Pi_weights fl_Pi_18 rfl rfl rfl (ks_Pi_0 ho) (kl_Pi_0 ho) (kr_Pi_0_2 ho) ?_
      refine z_iload 4 d_Pi_weightUpTo_43 rfl ?_
      refine z_iald (c := (o + 3)) (m := 12) d_Pi_weightUpTo_45 rfl (ks_Pi_3 ho) (kl_Pi_3 ho) rfl (by decide) c2 ?_
      obtain ⟨c8, h⟩ := h
      refine z_iadd d_Pi_weightUpTo_46 c8 ?_
      refine z_istore_n (i := 3) (ls' := [(3, (0, x3 + (g (o + 3) x4))), (0, (2, ((o : Nat) : Int))), (1, (0, x1)), (2, (0, x2)), (4, (0, x4))]) d_Pi_weightUpTo_47 rfl rfl rfl ?_
      obtain ⟨c9, h⟩ := h
      refine z_iinc (n := 1) (ls' := [(4, (0, x4 + 1)), (3, (0, x3 + (g (o + 3) x4))), (0, (2, ((o : Nat) : Int))), (1, (0, x1)), (2, (0, x2))]) 4 d_Pi_weightUpTo_48 rfl c9 rfl rfl ?_
      refine z_goto (tgt := 5) d_Pi_weightUpTo_51 (by decide) ?_
      refine z_sub (ls' := [(0, (2, ((o : Nat) : Int))), (1, (0, x1)), (2, (0, x2)), (3, (0, x3 + (g (o + 3) x4))), (4, (0, x4 + 1))]) [2, 3, 4, 1, 0] rfl ?_
      exact h
theorem d_Pi_whyNotMore_0 : decode (z_c m_Pi_whyNotMore) 0 = .ok (.aload_n 0, 1) := by decide +kernel
theorem d_Pi_whyNotMore_1 : decode (z_c m_Pi_whyNotMore) 1 = .ok (.iload_n 1, 1) := by decide +kernel
theorem d_Pi_whyNotMore_2 : decode (z_c m_Pi_whyNotMore) 2 = .ok (.iload_n 2, 1) := by decide +kernel
theorem d_Pi_whyNotMore_3 : decode (z_c m_Pi_whyNotMore) 3 = .ok (.invokevirtual 31, 3) := by decide +kernel
theorem d_Pi_whyNotMore_6 : decode (z_c m_Pi_whyNotMore) 6 = .ok (.istore 4, 2) := by decide +kernel
theorem d_Pi_whyNotMore_8 : decode (z_c m_Pi_whyNotMore) 8 = .ok (.iload 4, 2) := by decide +kernel
theorem d_Pi_whyNotMore_10 : decode (z_c m_Pi_whyNotMore) 10 = .ok (.ifCond .ge 18, 3) := by decide +kernel
theorem d_Pi_whyNotMore_13 : decode (z_c m_Pi_whyNotMore) 13 = .ok (.aload_n 0, 1) := by decide +kernel
theorem d_Pi_whyNotMore_14 : decode (z_c m_Pi_whyNotMore) 14 = .ok (.getfield 27, 3) := by decide +kernel
theorem d_Pi_whyNotMore_17 : decode (z_c m_Pi_whyNotMore) 17 = .ok (.bipush 12, 2) := by decide +kernel
theorem d_Pi_whyNotMore_19 : decode (z_c m_Pi_whyNotMore) 19 = .ok (.if_icmp .lt 7, 3) := by decide +kernel
theorem d_Pi_whyNotMore_22 : decode (z_c m_Pi_whyNotMore) 22 = .ok (.iconst 4, 1) := by decide +kernel
theorem d_Pi_whyNotMore_23 : decode (z_c m_Pi_whyNotMore) 23 = .ok (.goto 4, 3) := by decide +kernel
theorem d_Pi_whyNotMore_26 : decode (z_c m_Pi_whyNotMore) 26 = .ok (.iconst 0, 1) := by decide +kernel
theorem d_Pi_whyNotMore_27 : decode (z_c m_Pi_whyNotMore) 27 = .ok (.ireturn, 1) := by decide +kernel
theorem d_Pi_whyNotMore_28 : decode (z_c m_Pi_whyNotMore) 28 = .ok (.aload_n 0, 1) := by decide +kernel
theorem d_Pi_whyNotMore_29 : decode (z_c m_Pi_whyNotMore) 29 = .ok (.getfield 18, 3) := by decide +kernel
theorem d_Pi_whyNotMore_32 : decode (z_c m_Pi_whyNotMore) 32 = .ok (.iload 4, 2) := by decide +kernel
theorem d_Pi_whyNotMore_34 : decode (z_c m_Pi_whyNotMore) 34 = .ok (.iaload, 1) := by decide +kernel
theorem d_Pi_whyNotMore_35 : decode (z_c m_Pi_whyNotMore) 35 = .ok (.iload_n 3, 1) := by decide +kernel
theorem d_Pi_whyNotMore_36 : decode (z_c m_Pi_whyNotMore) 36 = .ok (.iadd, 1) := by decide +kernel
theorem d_Pi_whyNotMore_37 : decode (z_c m_Pi_whyNotMore) 37 = .ok (.sipush 999, 3) := by decide +kernel
theorem d_Pi_whyNotMore_40 : decode (z_c m_Pi_whyNotMore) 40 = .ok (.if_icmp .le 8, 3) := by decide +kernel
theorem d_Pi_whyNotMore_43 : decode (z_c m_Pi_whyNotMore) 43 = .ok (.bipush 7, 2) := by decide +kernel
theorem d_Pi_whyNotMore_45 : decode (z_c m_Pi_whyNotMore) 45 = .ok (.goto 4, 3) := by decide +kernel
theorem d_Pi_whyNotMore_48 : decode (z_c m_Pi_whyNotMore) 48 = .ok (.iconst 0, 1) := by decide +kernel
theorem d_Pi_whyNotMore_49 : decode (z_c m_Pi_whyNotMore) 49 = .ok (.ireturn, 1) := by decide +kernel
set_option maxRecDepth 8000 in
theorem b_Pi_whyNotMore_0 {X : z_X} {N : Nat} {σ g : z_G} {Q : z_P} {a1 a2 a3 : Int} {o : Nat} (ho : z_lay X N σ o z_SPi z_RPi) (h : z_O X 1 m_Pi_find [(2, ((o : Nat) : Int)), (0, a1), (0, a2)] N σ g (fun r0 g0 => (((0 ≤ r0) → ((0 ≤ r0 ∧ r0 < 12) ∧ ((-2147483648 ≤ ((g0 (o + 3) r0) + a3) ∧ ((g0 (o + 3) r0) + a3) ≤ 2147483647) ∧ (((((g0 (o + 3) r0) + a3) ≤ 999) → Q 0 g0) ∧ (¬ (((g0 (o + 3) r0) + a3) ≤ 999) → Q 7 g0))))) ∧ (¬ (0 ≤ r0) → ((((g0 o 3) < 12) → Q 0 g0) ∧ (¬ ((g0 o 3) < 12) → Q 4 g0)))))) : z_O X 2 m_Pi_whyNotMore [(2, ((o : Nat) : Int)), (0, a1), (0, a2), (0, a3)] N σ g Q := by
  refine z_Oenter mi_Pi_whyNotMore rfl (fun _ => ?_)
  show z_U X 2 m_Pi_whyNotMore 0 [(0, (2, ((o : Nat) : Int))), (1, (0, a1)), (2, (0, a2)), (3, (0, a3))] [] N σ g Q
  refine z_aload_n (i := 0) (c := o) 0 d_Pi_whyNotMore_0 rfl rfl rfl ?_
  refine z_iload_n (i := 1) 1 d_Pi_whyNotMore_1 rfl rfl ?_
  refine z_iload_n (i := 2) 2 d_Pi_whyNotMore_2 rfl rfl ?_
  refine z_cV (c := o) (as := [(0, a1), (0, a2)]) (d' := 1) (st := []) d_Pi_whyNotMore_3 mi_Pi_find ml_Pi_31 mv_Pi_find se_Pi_find rfl rfl rfl rfl (ks_Pi_0 ho) rfl rfl (kl_Pi_0 ho) rfl rfl (z_Omono h (fun r0 g0 _ h hro => ?_))
  show z_U X 2 m_Pi_whyNotMore 6 [(0, (2, ((o : Nat) : Int))), (1, (0, a1)), (2, (0, a2)), (3, (0, a3))] [(0, r0)] N σ g0 Q
  refine z_istore (ls' := [(4, (0, r0)), (0, (2, ((o : Nat) : Int))), (1, (0, a1)), (2, (0, a2)), (3, (0, a3))]) d_Pi_whyNotMore_6 rfl rfl ?_
  refine z_iload 0 d_Pi_whyNotMore_8 rfl ?_
  refine z_if_ge (tgt := 28) d_Pi_whyNotMore_10 (by decide) (fun c1 => ?_) (fun c1 => ?_)
  · have h := h.1 c1
    refine z_aload_n (i := 0) (c := o) 1 d_Pi_whyNotMore_28 rfl rfl rfl ?_
    refine z_getr (c := o) (kI := 2) (r2 := ((o + 3 : Nat) : Int)) d_Pi_whyNotMore_29 fd_Pi_weights fl_Pi_18 rfl rfl rfl (ks_Pi_0 ho) (kl_Pi_0 ho) (kr_Pi_0_2 ho) ?_
    refine z_iload 0 d_Pi_whyNotMore_32 rfl ?_
    obtain ⟨c2, h⟩ := h
    refine z_iald (c := (o + 3)) (m := 12) d_Pi_whyNotMore_34 rfl (ks_Pi_3 ho) (kl_Pi_3 ho) rfl (by decide) c2 ?_
    refine z_iload_n (i := 3) 4 d_Pi_whyNotMore_35 rfl rfl ?_
    obtain ⟨c3, h⟩ := h
    refine z_iadd d_Pi_whyNotMore_36 c3 ?_
    refine z_sipush (n := 999) d_Pi_whyNotMore_37 (by decide) (by decide) ?_
    refine z_icmp_le (tgt := 48) d_Pi_whyNotMore_40 (by decide) (fun c4 => ?_) (fun c4 => ?_)
    · have h := h.1 c4
      refine z_iconst (n := 0) d_Pi_whyNotMore_48 (by decide) ?_
      exact z_iret d_Pi_whyNotMore_49 rfl (by decide) (by decide) ⟨rfl, rfl, h⟩
    · have h := h.2 c4
      refine z_bipush (n := 7) d_Pi_whyNotMore_43 (by decide) (by decide) ?_
      refine z_goto (tgt := 49) d_Pi_whyNotMore_45 (by decide) ?_
      exact z_iret d_Pi_whyNotMore_49 rfl (by decide) (by decide) ⟨rfl, rfl, h⟩
  · have h := h.2 c1
    refine z_aload_n (i := 0) (c := o) 1 d_Pi_whyNotMore_13 rfl rfl rfl ?_
    refine z_geti (c := o) (kI := 3) d_Pi_whyNotMore_14 fd_Pi_many fl_Pi_27 (Or.inl rfl) rfl rfl (ks_Pi_0 ho) (kl_Pi_0 ho) ?_
    refine z_bipush (n := 12) d_Pi_whyNotMore_17 (by decide) (by decide) ?_
    refine z_icmp_lt (tgt := 26) d_Pi_whyNotMore_19 (by decide) (fun c5 => ?_) (fun c5 => ?_)
    · have h := h.1 c5
      refine z_iconst (n := 0) d_Pi_whyNotMore_26 (by decide) ?_
      exact z_iret d_Pi_whyNotMore_27 rfl (by decide) (by decide) ⟨rfl, rfl, h⟩
    · have h := h.2 c5
      refine z_iconst (n := 4) d_Pi_whyNotMore_22 (by decide) ?_
      refine z_goto (tgt := 27) d_Pi_whyNotMore_23 (by decide) ?_
      exact z_iret d_Pi_whyNotMore_27 rfl (by decide) (by decide) ⟨rfl, rfl, h⟩
theorem d_Rw_pinch_0 : decode (z_c m_Rw_pinch) 0 = .ok (.aload_n 0, 1) := by decide +kernel
theorem d_Rw_pinch_1 : decode (z_c m_Rw_pinch) 1 = .ok (.iconst 0, 1) := by decide +kernel
theorem d_Rw_pinch_2 : decode (z_c m_Rw_pinch) 2 = .ok (.putfield 27, 3) := by decide +kernel
theorem d_Rw_pinch_5 : decode (z_c m_Rw_pinch) 5 = .ok (.aload_n 0, 1) := by decide +kernel
theorem d_Rw_pinch_6 : decode (z_c m_Rw_pinch) 6 = .ok (.iconst 1, 1) := by decide +kernel
theorem d_Rw_pinch_7 : decode (z_c m_Rw_pinch) 7 = .ok (.putfield 31, 3) := by decide +kernel
theorem d_Rw_pinch_10 : decode (z_c m_Rw_pinch) 10 = .ok (.aload_n 0, 1) := by decide +kernel
theorem d_Rw_pinch_11 : decode (z_c m_Rw_pinch) 11 = .ok (.iconst 1, 1) := by decide +kernel
theorem d_Rw_pinch_12 : decode (z_c m_Rw_pinch) 12 = .ok (.putfield 34, 3) := by decide +kernel
theorem d_Rw_pinch_15 : decode (z_c m_Rw_pinch) 15 = .ok (.aload_n 0, 1) := by decide +kernel
theorem d_Rw_pinch_16 : decode (z_c m_Rw_pinch) 16 = .ok (.iconst 1, 1) := by decide +kernel
theorem d_Rw_pinch_17 : decode (z_c m_Rw_pinch) 17 = .ok (.putfield 37, 3) := by decide +kernel
theorem d_Rw_pinch_20 : decode (z_c m_Rw_pinch) 20 = .ok (.iconst 0, 1) := by decide +kernel
theorem d_Rw_pinch_21 : decode (z_c m_Rw_pinch) 21 = .ok (.istore 5, 2) := by decide +kernel
theorem d_Rw_pinch_23 : decode (z_c m_Rw_pinch) 23 = .ok (.iload 5, 2) := by decide +kernel
theorem d_Rw_pinch_25 : decode (z_c m_Rw_pinch) 25 = .ok (.iload_n 1, 1) := by decide +kernel
theorem d_Rw_pinch_26 : decode (z_c m_Rw_pinch) 26 = .ok (.if_icmp .ge 101, 3) := by decide +kernel
theorem d_Rw_pinch_29 : decode (z_c m_Rw_pinch) 29 = .ok (.aload_n 0, 1) := by decide +kernel
theorem d_Rw_pinch_30 : decode (z_c m_Rw_pinch) 30 = .ok (.getfield 31, 3) := by decide +kernel
theorem d_Rw_pinch_33 : decode (z_c m_Rw_pinch) 33 = .ok (.aload_n 0, 1) := by decide +kernel
theorem d_Rw_pinch_34 : decode (z_c m_Rw_pinch) 34 = .ok (.getfield 37, 3) := by decide +kernel
theorem d_Rw_pinch_37 : decode (z_c m_Rw_pinch) 37 = .ok (.iadd, 1) := by decide +kernel
theorem d_Rw_pinch_38 : decode (z_c m_Rw_pinch) 38 = .ok (.iload_n 1, 1) := by decide +kernel
theorem d_Rw_pinch_39 : decode (z_c m_Rw_pinch) 39 = .ok (.if_icmp .gt 88, 3) := by decide +kernel
theorem d_Rw_pinch_42 : decode (z_c m_Rw_pinch) 42 = .ok (.aload_n 0, 1) := by decide +kernel
theorem d_Rw_pinch_43 : decode (z_c m_Rw_pinch) 43 = .ok (.getfield 27, 3) := by decide +kernel
theorem d_Rw_pinch_46 : decode (z_c m_Rw_pinch) 46 = .ok (.aload_n 0, 1) := by decide +kernel
theorem d_Rw_pinch_47 : decode (z_c m_Rw_pinch) 47 = .ok (.getfield 34, 3) := by decide +kernel
theorem d_Rw_pinch_50 : decode (z_c m_Rw_pinch) 50 = .ok (.iadd, 1) := by decide +kernel
theorem d_Rw_pinch_51 : decode (z_c m_Rw_pinch) 51 = .ok (.istore 6, 2) := by decide +kernel
theorem d_Rw_pinch_53 : decode (z_c m_Rw_pinch) 53 = .ok (.aload_n 0, 1) := by decide +kernel
theorem d_Rw_pinch_54 : decode (z_c m_Rw_pinch) 54 = .ok (.getfield 31, 3) := by decide +kernel
theorem d_Rw_pinch_57 : decode (z_c m_Rw_pinch) 57 = .ok (.aload_n 0, 1) := by decide +kernel
theorem d_Rw_pinch_58 : decode (z_c m_Rw_pinch) 58 = .ok (.getfield 37, 3) := by decide +kernel
theorem d_Rw_pinch_61 : decode (z_c m_Rw_pinch) 61 = .ok (.iadd, 1) := by decide +kernel
theorem d_Rw_pinch_62 : decode (z_c m_Rw_pinch) 62 = .ok (.istore 7, 2) := by decide +kernel
theorem d_Rw_pinch_64 : decode (z_c m_Rw_pinch) 64 = .ok (.iload 6, 2) := by decide +kernel
theorem d_Rw_pinch_66 : decode (z_c m_Rw_pinch) 66 = .ok (.iload 7, 2) := by decide +kernel
theorem d_Rw_pinch_68 : decode (z_c m_Rw_pinch) 68 = .ok (.iload_n 2, 1) := by decide +kernel
theorem d_Rw_pinch_69 : decode (z_c m_Rw_pinch) 69 = .ok (.iload_n 3, 1) := by decide +kernel
theorem d_Rw_pinch_70 : decode (z_c m_Rw_pinch) 70 = .ok (.invokestatic 40, 3) := by decide +kernel
theorem d_Rw_pinch_73 : decode (z_c m_Rw_pinch) 73 = .ok (.lstore 8, 2) := by decide +kernel
theorem d_Rw_pinch_75 : decode (z_c m_Rw_pinch) 75 = .ok (.lload 8, 2) := by decide +kernel
theorem d_Rw_pinch_77 : decode (z_c m_Rw_pinch) 77 = .ok (.lconst 0, 1) := by decide +kernel
theorem d_Rw_pinch_78 : decode (z_c m_Rw_pinch) 78 = .ok (.lcmp, 1) := by decide +kernel
theorem d_Rw_pinch_79 : decode (z_c m_Rw_pinch) 79 = .ok (.ifCond .lt 15, 3) := by decide +kernel
theorem d_Rw_pinch_82 : decode (z_c m_Rw_pinch) 82 = .ok (.lload 8, 2) := by decide +kernel
theorem d_Rw_pinch_84 : decode (z_c m_Rw_pinch) 84 = .ok (.lconst 0, 1) := by decide +kernel
theorem d_Rw_pinch_85 : decode (z_c m_Rw_pinch) 85 = .ok (.lcmp, 1) := by decide +kernel
theorem d_Rw_pinch_86 : decode (z_c m_Rw_pinch) 86 = .ok (.ifCond .ne 23, 3) := by decide +kernel
theorem d_Rw_pinch_89 : decode (z_c m_Rw_pinch) 89 = .ok (.iload 4, 2) := by decide +kernel
theorem d_Rw_pinch_91 : decode (z_c m_Rw_pinch) 91 = .ok (.ifCond .eq 18, 3) := by decide +kernel
theorem d_Rw_pinch_94 : decode (z_c m_Rw_pinch) 94 = .ok (.aload_n 0, 1) := by decide +kernel
theorem d_Rw_pinch_95 : decode (z_c m_Rw_pinch) 95 = .ok (.iload 6, 2) := by decide +kernel
theorem d_Rw_pinch_97 : decode (z_c m_Rw_pinch) 97 = .ok (.putfield 27, 3) := by decide +kernel
theorem d_Rw_pinch_100 : decode (z_c m_Rw_pinch) 100 = .ok (.aload_n 0, 1) := by decide +kernel
theorem d_Rw_pinch_101 : decode (z_c m_Rw_pinch) 101 = .ok (.iload 7, 2) := by decide +kernel
theorem d_Rw_pinch_103 : decode (z_c m_Rw_pinch) 103 = .ok (.putfield 31, 3) := by decide +kernel
theorem d_Rw_pinch_106 : decode (z_c m_Rw_pinch) 106 = .ok (.goto 15, 3) := by decide +kernel
theorem d_Rw_pinch_109 : decode (z_c m_Rw_pinch) 109 = .ok (.aload_n 0, 1) := by decide +kernel
theorem d_Rw_pinch_110 : decode (z_c m_Rw_pinch) 110 = .ok (.iload 6, 2) := by decide +kernel
theorem d_Rw_pinch_112 : decode (z_c m_Rw_pinch) 112 = .ok (.putfield 34, 3) := by decide +kernel
theorem d_Rw_pinch_115 : decode (z_c m_Rw_pinch) 115 = .ok (.aload_n 0, 1) := by decide +kernel
theorem d_Rw_pinch_116 : decode (z_c m_Rw_pinch) 116 = .ok (.iload 7, 2) := by decide +kernel
theorem d_Rw_pinch_118 : decode (z_c m_Rw_pinch) 118 = .ok (.putfield 37, 3) := by decide +kernel
theorem d_Rw_pinch_121 : decode (z_c m_Rw_pinch) 121 = .ok (.iinc 5 1, 3) := by decide +kernel
theorem d_Rw_pinch_124 : decode (z_c m_Rw_pinch) 124 = .ok (.goto (-101), 3) := by decide +kernel
theorem d_Rw_pinch_127 : decode (z_c m_Rw_pinch) 127 = .ok (.return_, 1) := by decide +kernel
abbrev L_Rw_pinch_23 (X : z_X) (N : Nat) (σ : z_G) (x1 x2 x3 x4 x5 : Int) (g : z_G) (Q : z_P) : Prop := z_U X 2 m_Rw_pinch 23 [(0, (2, 15)), (1, (0, x1)), (2, (0, x2)), (3, (0, x3)), (4, (0, x4)), (5, (0, x5))] [] N σ g Q
set_option maxRecDepth 8000 in
theorem b_Rw_pinch_0 {X : z_X} {N : Nat} {σ g : z_G} {Q : z_P} {a1 a2 a3 a4 : Int} (hx : z_lay X N σ 0 z_SF z_RF) (h : L_Rw_pinch_23 X N σ a1 a2 a3 a4 0 (z_up (z_up (z_up (z_up g 15 2 0) 15 3 1) 15 4 1) 15 5 1) Q) : z_O X 2 m_Rw_pinch [(2, 15), (0, a1), (0, a2), (0, a3), (0, a4)] N σ g Q := by
  refine z_Oenter mi_Rw_pinch rfl (fun _ => ?_)
  show z_U X 2 m_Rw_pinch 0 [(0, (2, 15)), (1, (0, a1)), (2, (0, a2)), (3, (0, a3)), (4, (0, a4))] [] N σ g Q
  refine z_aload_n (i := 0) (c := 15) 0 d_Rw_pinch_0 rfl rfl rfl ?_
  refine z_iconst (n := 0) d_Rw_pinch_1 (by decide) ?_
  refine z_puti (c := 15) (kI := 2) d_Rw_pinch_2 fd_Rw_lowTop fl_Rw_27 pf_Rw_lowTop rfl rfl rfl rfl (ks_F_15 hx) (kl_F_15 hx) ?_
  refine z_aload_n (i := 0) (c := 15) 0 d_Rw_pinch_5 rfl rfl rfl ?_
  refine z_iconst (n := 1) d_Rw_pinch_6 (by decide) ?_
  refine z_puti (c := 15) (kI := 3) d_Rw_pinch_7 fd_Rw_lowBottom fl_Rw_31 pf_Rw_lowBottom rfl rfl rfl rfl (ks_F_15 hx) (kl_F_15 hx) ?_
  refine z_aload_n (i := 0) (c := 15) 0 d_Rw_pinch_10 rfl rfl rfl ?_
  refine z_iconst (n := 1) d_Rw_pinch_11 (by decide) ?_
  refine z_puti (c := 15) (kI := 4) d_Rw_pinch_12 fd_Rw_highTop fl_Rw_34 pf_Rw_highTop rfl rfl rfl rfl (ks_F_15 hx) (kl_F_15 hx) ?_
  refine z_aload_n (i := 0) (c := 15) 0 d_Rw_pinch_15 rfl rfl rfl ?_
  refine z_iconst (n := 1) d_Rw_pinch_16 (by decide) ?_
  refine z_puti (c := 15) (kI := 5) d_Rw_pinch_17 fd_Rw_highBottom fl_Rw_37 pf_Rw_highBottom rfl rfl rfl rfl (ks_F_15 hx) (kl_F_15 hx) ?_
  refine z_iconst (n := 0) d_Rw_pinch_20 (by decide) ?_
  refine z_istore (ls' := [(5, (0, 0)), (0, (2, 15)), (1, (0, a1)), (2, (0, a2)), (3, (0, a3)), (4, (0, a4))]) d_Rw_pinch_21 rfl rfl ?_
  refine z_sub (ls' := [(0, (2, 15)), (1, (0, a1)), (2, (0, a2)), (3, (0, a3)), (4, (0, a4)), (5, (0, 0))]) [1, 2, 3, 4, 5, 0] rfl ?_
  exact h
set_option maxRecDepth 8000 in
theorem b_Rw_pinch_23 {X : z_X} {N : Nat} {σ g : z_G} {Q : z_P} {x1 x2 x3 x4 x5 : Int} (hx : z_lay X N σ 0 z_SF z_RF) (h : ((x1 ≤ x5) → Q 0 g) ∧ (¬ (x1 ≤ x5) → ((-2147483648 ≤ ((g 15 3) + (g 15 5)) ∧ ((g 15 3) + (g 15 5)) ≤ 2147483647) ∧ (((x1 < ((g 15 3) + (g 15 5))) → Q 0 g) ∧ (¬ (x1 < ((g 15 3) + (g 15 5))) → ((-2147483648 ≤ ((g 15 2) + (g 15 4)) ∧ ((g 15 2) + (g 15 4)) ≤ 2147483647) ∧ ((-9223372036854775808 ≤ (((g 15 2) + (g 15 4)) * x3) ∧ (((g 15 2) + (g 15 4)) * x3) ≤ 9223372036854775807) ∧ ((-9223372036854775808 ≤ (x2 * ((g 15 3) + (g 15 5))) ∧ (x2 * ((g 15 3) + (g 15 5))) ≤ 9223372036854775807) ∧ ((-9223372036854775808 ≤ ((((g 15 2) + (g 15 4)) * x3) - (x2 * ((g 15 3) + (g 15 5)))) ∧ ((((g 15 2) + (g 15 4)) * x3) - (x2 * ((g 15 3) + (g 15 5)))) ≤ 9223372036854775807) ∧ (((((((g 15 2) + (g 15 4)) * x3) - (x2 * ((g 15 3) + (g 15 5)))) < 0) → ((-2147483648 ≤ (x5 + 1) ∧ (x5 + 1) ≤ 2147483647) ∧ L_Rw_pinch_23 X N σ x1 x2 x3 x4 (x5 + 1) (z_up (z_up g 15 2 ((g 15 2) + (g 15 4))) 15 3 ((g 15 3) + (g 15 5))) Q)) ∧ (¬ (((((g 15 2) + (g 15 4)) * x3) - (x2 * ((g 15 3) + (g 15 5)))) < 0) → (((((((g 15 2) + (g 15 4)) * x3) - (x2 * ((g 15 3) + (g 15 5)))) = 0) → (((x4 = 0) → ((-2147483648 ≤ (x5 + 1) ∧ (x5 + 1) ≤ 2147483647) ∧ L_Rw_pinch_23 X N σ x1 x2 x3 x4 (x5 + 1) (z_up (z_up g 15 4 ((g 15 2) + (g 15 4))) 15 5 ((g 15 3) + (g 15 5))) Q)) ∧ (¬ (x4 = 0) → ((-2147483648 ≤ (x5 + 1) ∧ (x5 + 1) ≤ 2147483647) ∧ L_Rw_pinch_23 X N σ x1 x2 x3 x4 (x5 + 1) (z_up (z_up g 15 2 ((g 15 2) + (g 15 4))) 15 3 ((g 15 3) + (g 15 5))) Q)))) ∧ (¬ (((((g 15 2) + (g 15 4)) * x3) - (x2 * ((g 15 3) + (g 15 5)))) = 0) → ((-2147483648 ≤ (x5 + 1) ∧ (x5 + 1) ≤ 2147483647) ∧ L_Rw_pinch_23 X N σ x1 x2 x3 x4 (x5 + 1) (z_up (z_up g 15 4 ((g 15 2) + (g 15 4))) 15 5 ((g 15 3) + (g 15 5))) Q)))))))))))))) : L_Rw_pinch_23 X N σ x1 x2 x3 x4 x5 g Q := by
  refine z_iload 5 d_Rw_pinch_23 rfl ?_
  refine z_iload_n (i := 1) 1 d_Rw_pinch_25 rfl rfl ?_
  refine z_icmp_ge (tgt := 127) d_Rw_pinch_26 (by decide) (fun c1 => ?_) (fun c1 => ?_)
  · have h := h.1 c1
    exact z_vret d_Rw_pinch_127 rfl (by decide) (by decide) ⟨rfl, rfl, h⟩
  · have h := h.2 c1
    refine z_aload_n (i := 0) (c := 15) 0 d_Rw_pinch_29 rfl rfl rfl ?_
    refine z_geti (c := 15) (kI := 3) d_Rw_pinch_30 fd_Rw_lowBottom fl_Rw_31 (Or.inl rfl) rfl rfl (ks_F_15 hx) (kl_F_15 hx) ?_
    refine z_aload_n (i := 0) (c := 15) 0 d_Rw_pinch_33 rfl rfl rfl ?_
    refine z_geti (c := 15) (kI := 5) d_Rw_pinch_34 fd_Rw_highBottom fl_Rw_37 (Or.inl rfl) rfl rfl (ks_F_15 hx) (kl_F_15 hx) ?_
    obtain ⟨c2, h⟩ := h
    refine z_iadd d_Rw_pinch_37 c2 ?_
    refine z_iload_n (i := 1) 1 d_Rw_pinch_38 rfl rfl ?_
    refine z_icmp_gt (tgt := 127) d_Rw_pinch_39 (by decide) (fun c3 => ?_) (fun c3 => ?_)
    · have h := h.1 c3
      exact z_vret d_Rw_pinch_127 rfl (by decide) (by decide) ⟨rfl, rfl, h⟩
    · have h := h.2 c3
      refine z_aload_n (i := 0) (c := 15) 0 d_Rw_pinch_42 rfl rfl rfl ?_
      refine z_geti (c := 15) (kI := 2) d_Rw_pinch_43 fd_Rw_lowTop fl_Rw_27 (Or.inl rfl) rfl rfl (ks_F_15 hx) (kl_F_15 hx) ?_
      refine z_aload_n (i := 0) (c := 15) 0 d_Rw_pinch_46 rfl rfl rfl ?_
      refine z_geti (c := 15) (kI := 4) d_Rw_pinch_47 fd_Rw_highTop fl_Rw_34 (Or.inl rfl) rfl rfl (ks_F_15 hx) (kl_F_15 hx) ?_
      obtain ⟨c4, h⟩ := h
      refine z_iadd d_Rw_pinch_50 c4 ?_
      refine z_istore (ls' := [(6, (0, (g 15 2) + (g 15 4))), (0, (2, 15)), (1, (0, x1)), (2, (0, x2)), (3, (0, x3)), (4, (0, x4)), (5, (0, x5))]) d_Rw_pinch_51 rfl rfl ?_
      refine z_aload_n (i := 0) (c := 15) 1 d_Rw_pinch_53 rfl rfl rfl ?_
      refine z_geti (c := 15) (kI := 3) d_Rw_pinch_54 fd_Rw_lowBottom fl_Rw_31 (Or.inl rfl) rfl rfl (ks_F_15 hx) (kl_F_15 hx) ?_
      refine z_aload_n (i := 0) (c := 15) 1 d_Rw_pinch_57 rfl rfl rfl ?_
      refine z_geti (c := 15) (kI := 5) d_Rw_pinch_58 fd_Rw_highBottom fl_Rw_37 (Or.inl rfl) rfl rfl (ks_F_15 hx) (kl_F_15 hx) ?_
      refine z_iadd d_Rw_pinch_61 c2 ?_
      refine z_istore (ls' := [(7, (0, (g 15 3) + (g 15 5))), (6, (0, (g 15 2) + (g 15 4))), (0, (2, 15)), (1, (0, x1)), (2, (0, x2)), (3, (0, x3)), (4, (0, x4)), (5, (0, x5))]) d_Rw_pinch_62 rfl rfl ?_
      refine z_iload 1 d_Rw_pinch_64 rfl ?_
      refine z_iload 0 d_Rw_pinch_66 rfl ?_
      refine z_iload_n (i := 2) 4 d_Rw_pinch_68 rfl rfl ?_
      refine z_iload_n (i := 3) 5 d_Rw_pinch_69 rfl rfl ?_
      refine z_cSN (as := [(0, (g 15 2) + (g 15 4)), (0, (g 15 3) + (g 15 5)), (0, x2), (0, x3)]) (d' := 1) (st := []) d_Rw_pinch_70 mi_F_cross nl_Rw_40 ms_F_cross rfl rfl rfl rfl rfl (b_F_cross_0  ?_)
      obtain ⟨c5, h⟩ := h
      refine ⟨c5, ?_⟩
      obtain ⟨c6, h⟩ := h
      refine ⟨c6, ?_⟩
      obtain ⟨c7, h⟩ := h
      refine ⟨c7, ?_⟩
      intro _
      show z_U X 2 m_Rw_pinch 73 [(7, (0, (g 15 3) + (g 15 5))), (6, (0, (g 15 2) + (g 15 4))), (0, (2, 15)), (1, (0, x1)), (2, (0, x2)), (3, (0, x3)), (4, (0, x4)), (5, (0, x5))] [(1, (((g 15 2) + (g 15 4)) * x3) - (x2 * ((g 15 3) + (g 15 5))))] N σ g Q
      refine z_lstore (ls' := [(8, (1, (((g 15 2) + (g 15 4)) * x3) - (x2 * ((g 15 3) + (g 15 5))))), (7, (0, (g 15 3) + (g 15 5))), (6, (0, (g 15 2) + (g 15 4))), (0, (2, 15)), (1, (0, x1)), (2, (0, x2)), (3, (0, x3)), (4, (0, x4)), (5, (0, x5))]) d_Rw_pinch_73 rfl rfl ?_
      refine z_lload 0 d_Rw_pinch_75 rfl ?_
      refine z_lconst (v := 0) d_Rw_pinch_77 (by decide) (by decide) ?_
      refine z_lcmp_lt (tgt := 94) d_Rw_pinch_78 d_Rw_pinch_79 (by decide) (fun c8 => ?_) (fun c8 => ?_)
      · have h := h.1 c8
        refine z_aload_n (i := 0) (c := 15) 3 d_Rw_pinch_94 rfl rfl rfl ?_
        refine z_iload 2 d_Rw_pinch_95 rfl ?_
        refine z_puti (c := 15) (kI := 2) d_Rw_pinch_97 fd_Rw_lowTop fl_Rw_27 pf_Rw_lowTop rfl rfl rfl rfl (ks_F_15 hx) (kl_F_15 hx) ?_
        refine z_aload_n (i := 0) (c := 15) 3 d_Rw_pinch_100 rfl rfl rfl ?_
        refine z_iload 1 d_Rw_pinch_101 rfl ?_
        refine z_puti (c := 15) (kI := 3) d_Rw_pinch_103 fd_Rw_lowBottom fl_Rw_31 pf_Rw_lowBottom rfl rfl rfl rfl (ks_F_15 hx) (kl_F_15 hx) ?_
        refine z_goto (tgt := 121) d_Rw_pinch_106 (by decide) ?_
        obtain ⟨c9, h⟩ := h
        refine z_iinc (n := 1) (ls' := [(5, (0, x5 + 1)), (8, (1, (((g 15 2) + (g 15 4)) * x3) - (x2 * ((g 15 3) + (g 15 5))))), (7, (0, (g 15 3) + (g 15 5))), (6, (0, (g 15 2) + (g 15 4))), (0, (2, 15)), (1, (0, x1)), (2, (0, x2)), (3, (0, x3)), (4, (0, x4))]) 8 d_Rw_pinch_121 rfl c9 rfl rfl ?_
        refine z_goto (tgt := 23) d_Rw_pinch_124 (by decide) ?_
        refine z_sub (ls' := [(0, (2, 15)), (1, (0, x1)), (2, (0, x2)), (3, (0, x3)), (4, (0, x4)), (5, (0, x5 + 1))]) [4, 5, 6, 7, 8, 0] rfl ?_
        exact h
      · have h := h.2 c8
        refine z_lload 0 d_Rw_pinch_82 rfl ?_
        refine z_lconst (v := 0) d_Rw_pinch_84 (by decide) (by decide) ?_
        refine z_lcmp_ne (tgt := 109) d_Rw_pinch_85 d_Rw_pinch_86 (by decide) (fun c10 => ?_) (fun c10 => ?_)
        · have h := h.2 c10
          refine z_aload_n (i := 0) (c := 15) 3 d_Rw_pinch_109 rfl rfl rfl ?_
          refine z_iload 2 d_Rw_pinch_110 rfl ?_
          refine z_puti (c := 15) (kI := 4) d_Rw_pinch_112 fd_Rw_highTop fl_Rw_34 pf_Rw_highTop rfl rfl rfl rfl (ks_F_15 hx) (kl_F_15 hx) ?_
          refine z_aload_n (i := 0) (c := 15) 3 d_Rw_pinch_115 rfl rfl rfl ?_
          refine z_iload 1 d_Rw_pinch_116 rfl ?_
          refine z_puti (c := 15) (kI := 5) d_Rw_pinch_118 fd_Rw_highBottom fl_Rw_37 pf_Rw_highBottom rfl rfl rfl rfl (ks_F_15 hx) (kl_F_15 hx) ?_
          obtain ⟨c11, h⟩ := h
          refine z_iinc (n := 1) (ls' := [(5, (0, x5 + 1)), (8, (1, (((g 15 2) + (g 15 4)) * x3) - (x2 * ((g 15 3) + (g 15 5))))), (7, (0, (g 15 3) + (g 15 5))), (6, (0, (g 15 2) + (g 15 4))), (0, (2, 15)), (1, (0, x1)), (2, (0, x2)), (3, (0, x3)), (4, (0, x4))]) 8 d_Rw_pinch_121 rfl c11 rfl rfl ?_
          refine z_goto (tgt := 23) d_Rw_pinch_124 (by decide) ?_
          refine z_sub (ls' := [(0, (2, 15)), (1, (0, x1)), (2, (0, x2)), (3, (0, x3)), (4, (0, x4)), (5, (0, x5 + 1))]) [4, 5, 6, 7, 8, 0] rfl ?_
          exact h
        · have h := h.1 c10
          refine z_iload 7 d_Rw_pinch_89 rfl ?_
          refine z_if_eq (tgt := 109) d_Rw_pinch_91 (by decide) (fun c12 => ?_) (fun c12 => ?_)
          · have h := h.1 c12
            refine z_aload_n (i := 0) (c := 15) 3 d_Rw_pinch_109 rfl rfl rfl ?_
            refine z_iload 2 d_Rw_pinch_110 rfl ?_
            refine z_puti (c := 15) (kI := 4) d_Rw_pinch_112 fd_Rw_highTop fl_Rw_34 pf_Rw_highTop rfl rfl rfl rfl (ks_F_15 hx) (kl_F_15 hx) ?_
            refine z_aload_n (i := 0) (c := 15) 3 d_Rw_pinch_115 rfl rfl rfl ?_
            refine z_iload 1 d_Rw_pinch_116 rfl ?_
            refine z_puti (c := 15) (kI := 5) d_Rw_pinch_118 fd_Rw_highBottom fl_Rw_37 pf_Rw_highBottom rfl rfl rfl rfl (ks_F_15 hx) (kl_F_15 hx) ?_
            obtain ⟨c13, h⟩ := h
            refine z_iinc (n := 1) (ls' := [(5, (0, x5 + 1)), (8, (1, (((g 15 2) + (g 15 4)) * x3) - (x2 * ((g 15 3) + (g 15 5))))), (7, (0, (g 15 3) + (g 15 5))), (6, (0, (g 15 2) + (g 15 4))), (0, (2, 15)), (1, (0, x1)), (2, (0, x2)), (3, (0, x3)), (4, (0, x4))]) 8 d_Rw_pinch_121 rfl c13 rfl rfl ?_
            refine z_goto (tgt := 23) d_Rw_pinch_124 (by decide) ?_
            refine z_sub (ls' := [(0, (2, 15)), (1, (0, x1)), (2, (0, x2)), (3, (0, x3)), (4, (0, x4)), (5, (0, x5 + 1))]) [4, 5, 6, 7, 8, 0] rfl ?_
            exact h
          · have h := h.2 c12
            refine z_aload_n (i := 0) (c := 15) 3 d_Rw_pinch_94 rfl rfl rfl ?_
            refine z_iload 2 d_Rw_pinch_95 rfl ?_
            refine z_puti (c := 15) (kI := 2) d_Rw_pinch_97 fd_Rw_lowTop fl_Rw_27 pf_Rw_lowTop rfl rfl rfl rfl (ks_F_15 hx) (kl_F_15 hx) ?_
            refine z_aload_n (i := 0) (c := 15) 3 d_Rw_pinch_100 rfl rfl rfl ?_
            refine z_iload 1 d_Rw_pinch_101 rfl ?_
            refine z_puti (c := 15) (kI := 3) d_Rw_pinch_103 fd_Rw_lowBottom fl_Rw_31 pf_Rw_lowBottom rfl rfl rfl rfl (ks_F_15 hx) (kl_F_15 hx) ?_
            refine z_goto (tgt := 121) d_Rw_pinch_106 (by decide) ?_
            obtain ⟨c14, h⟩ := h
            refine z_iinc (n := 1) (ls' := [(5, (0, x5 + 1)), (8, (1, (((g 15 2) + (g 15 4)) * x3) - (x2 * ((g 15 3) + (g 15 5))))), (7, (0, (g 15 3) + (g 15 5))), (6, (0, (g 15 2) + (g 15 4))), (0, (2, 15)), (1, (0, x1)), (2, (0, x2)), (3, (0, x3)), (4, (0, x4))]) 8 d_Rw_pinch_121 rfl c14 rfl rfl ?_
            refine z_goto (tgt := 23) d_Rw_pinch_124 (by decide) ?_
            refine z_sub (ls' := [(0, (2, 15)), (1, (0, x1)), (2, (0, x2)), (3, (0, x3)), (4, (0, x4)), (5, (0, x5 + 1))]) [4, 5, 6, 7, 8, 0] rfl ?_
            exact h
theorem d_Rw_sliceOf_0 : decode (z_c m_Rw_sliceOf) 0 = .ok (.iconst 0, 1) := by decide +kernel
theorem d_Rw_sliceOf_1 : decode (z_c m_Rw_sliceOf) 1 = .ok (.istore_n 3, 1) := by decide +kernel
theorem d_Rw_sliceOf_2 : decode (z_c m_Rw_sliceOf) 2 = .ok (.iload_n 1, 1) := by decide +kernel
theorem d_Rw_sliceOf_3 : decode (z_c m_Rw_sliceOf) 3 = .ok (.istore 4, 2) := by decide +kernel
theorem d_Rw_sliceOf_5 : decode (z_c m_Rw_sliceOf) 5 = .ok (.iconst 0, 1) := by decide +kernel
theorem d_Rw_sliceOf_6 : decode (z_c m_Rw_sliceOf) 6 = .ok (.istore 5, 2) := by decide +kernel
theorem d_Rw_sliceOf_8 : decode (z_c m_Rw_sliceOf) 8 = .ok (.iload 5, 2) := by decide +kernel
theorem d_Rw_sliceOf_10 : decode (z_c m_Rw_sliceOf) 10 = .ok (.bipush 32, 2) := by decide +kernel
theorem d_Rw_sliceOf_12 : decode (z_c m_Rw_sliceOf) 12 = .ok (.if_icmp .ge 51, 3) := by decide +kernel
theorem d_Rw_sliceOf_15 : decode (z_c m_Rw_sliceOf) 15 = .ok (.iload_n 3, 1) := by decide +kernel
theorem d_Rw_sliceOf_16 : decode (z_c m_Rw_sliceOf) 16 = .ok (.iload 4, 2) := by decide +kernel
theorem d_Rw_sliceOf_18 : decode (z_c m_Rw_sliceOf) 18 = .ok (.if_icmp .ge 45, 3) := by decide +kernel
theorem d_Rw_sliceOf_21 : decode (z_c m_Rw_sliceOf) 21 = .ok (.iload_n 3, 1) := by decide +kernel
theorem d_Rw_sliceOf_22 : decode (z_c m_Rw_sliceOf) 22 = .ok (.iload 4, 2) := by decide +kernel
theorem d_Rw_sliceOf_24 : decode (z_c m_Rw_sliceOf) 24 = .ok (.iadd, 1) := by decide +kernel
theorem d_Rw_sliceOf_25 : decode (z_c m_Rw_sliceOf) 25 = .ok (.iconst 1, 1) := by decide +kernel
theorem d_Rw_sliceOf_26 : decode (z_c m_Rw_sliceOf) 26 = .ok (.iadd, 1) := by decide +kernel
theorem d_Rw_sliceOf_27 : decode (z_c m_Rw_sliceOf) 27 = .ok (.iconst 2, 1) := by decide +kernel
theorem d_Rw_sliceOf_28 : decode (z_c m_Rw_sliceOf) 28 = .ok (.idiv, 1) := by decide +kernel
theorem d_Rw_sliceOf_29 : decode (z_c m_Rw_sliceOf) 29 = .ok (.istore 6, 2) := by decide +kernel
theorem d_Rw_sliceOf_31 : decode (z_c m_Rw_sliceOf) 31 = .ok (.aload_n 0, 1) := by decide +kernel
theorem d_Rw_sliceOf_32 : decode (z_c m_Rw_sliceOf) 32 = .ok (.iload_n 1, 1) := by decide +kernel
theorem d_Rw_sliceOf_33 : decode (z_c m_Rw_sliceOf) 33 = .ok (.iload 6, 2) := by decide +kernel
theorem d_Rw_sliceOf_35 : decode (z_c m_Rw_sliceOf) 35 = .ok (.i2l, 1) := by decide +kernel
theorem d_Rw_sliceOf_36 : decode (z_c m_Rw_sliceOf) 36 = .ok (.iload_n 1, 1) := by decide +kernel
theorem d_Rw_sliceOf_37 : decode (z_c m_Rw_sliceOf) 37 = .ok (.i2l, 1) := by decide +kernel
theorem d_Rw_sliceOf_38 : decode (z_c m_Rw_sliceOf) 38 = .ok (.invokevirtual 51, 3) := by decide +kernel
theorem d_Rw_sliceOf_41 : decode (z_c m_Rw_sliceOf) 41 = .ok (.iload_n 2, 1) := by decide +kernel
theorem d_Rw_sliceOf_42 : decode (z_c m_Rw_sliceOf) 42 = .ok (.if_icmp .gt 9, 3) := by decide +kernel
theorem d_Rw_sliceOf_45 : decode (z_c m_Rw_sliceOf) 45 = .ok (.iload 6, 2) := by decide +kernel
theorem d_Rw_sliceOf_47 : decode (z_c m_Rw_sliceOf) 47 = .ok (.istore_n 3, 1) := by decide +kernel
theorem d_Rw_sliceOf_48 : decode (z_c m_Rw_sliceOf) 48 = .ok (.goto 9, 3) := by decide +kernel
theorem d_Rw_sliceOf_51 : decode (z_c m_Rw_sliceOf) 51 = .ok (.iload 6, 2) := by decide +kernel
theorem d_Rw_sliceOf_53 : decode (z_c m_Rw_sliceOf) 53 = .ok (.iconst 1, 1) := by decide +kernel
theorem d_Rw_sliceOf_54 : decode (z_c m_Rw_sliceOf) 54 = .ok (.isub, 1) := by decide +kernel
theorem d_Rw_sliceOf_55 : decode (z_c m_Rw_sliceOf) 55 = .ok (.istore 4, 2) := by decide +kernel
theorem d_Rw_sliceOf_57 : decode (z_c m_Rw_sliceOf) 57 = .ok (.iinc 5 1, 3) := by decide +kernel
theorem d_Rw_sliceOf_60 : decode (z_c m_Rw_sliceOf) 60 = .ok (.goto (-52), 3) := by decide +kernel
theorem d_Rw_sliceOf_63 : decode (z_c m_Rw_sliceOf) 63 = .ok (.iload_n 3, 1) := by decide +kernel
theorem d_Rw_sliceOf_64 : decode (z_c m_Rw_sliceOf) 64 = .ok (.ireturn, 1) := by decide +kernel
abbrev L_Rw_sliceOf_8 (X : z_X) (N : Nat) (σ : z_G) (x1 x2 x3 x4 x5 : Int) (g : z_G) (Q : z_P) : Prop := z_U X 2 m_Rw_sliceOf 8 [(0, (2, 15)), (1, (0, x1)), (2, (0, x2)), (3, (0, x3)), (4, (0, x4)), (5, (0, x5))] [] N σ g Q
set_option maxRecDepth 8000 in
theorem b_Rw_sliceOf_0 {X : z_X} {N : Nat} {σ g : z_G} {Q : z_P} {a1 a2 : Int} (hx : z_lay X N σ 0 z_SF z_RF) (h : L_Rw_sliceOf_8 X N σ a1 a2 0 a1 0 g Q) : z_O X 2 m_Rw_sliceOf [(2, 15), (0, a1), (0, a2)] N σ g Q := by
  refine z_Oenter mi_Rw_sliceOf rfl (fun _ => ?_)
  show z_U X 2 m_Rw_sliceOf 0 [(0, (2, 15)), (1, (0, a1)), (2, (0, a2))] [] N σ g Q
  refine z_iconst (n := 0) d_Rw_sliceOf_0 (by decide) ?_
  refine z_istore_n (i := 3) (ls' := [(3, (0, 0)), (0, (2, 15)), (1, (0, a1)), (2, (0, a2))]) d_Rw_sliceOf_1 rfl rfl rfl ?_
  refine z_iload_n (i := 1) 2 d_Rw_sliceOf_2 rfl rfl ?_
  refine z_istore (ls' := [(4, (0, a1)), (3, (0, 0)), (0, (2, 15)), (1, (0, a1)), (2, (0, a2))]) d_Rw_sliceOf_3 rfl rfl ?_
  refine z_iconst (n := 0) d_Rw_sliceOf_5 (by decide) ?_
  refine z_istore (ls' := [(5, (0, 0)), (4, (0, a1)), (3, (0, 0)), (0, (2, 15)), (1, (0, a1)), (2, (0, a2))]) d_Rw_sliceOf_6 rfl rfl ?_
  refine z_sub (ls' := [(0, (2, 15)), (1, (0, a1)), (2, (0, a2)), (3, (0, 0)), (4, (0, a1)), (5, (0, 0))]) [3, 4, 5, 2, 1, 0] rfl ?_
  exact h
set_option maxRecDepth 8000 in
theorem b_Rw_sliceOf_8 {X : z_X} {N : Nat} {σ g : z_G} {Q : z_P} {x1 x2 x3 x4 x5 : Int} (hx : z_lay X N σ 0 z_SF z_RF) (h : ((32 ≤ x5) → Q x3 g) ∧ (¬ (32 ≤ x5) → (((x4 ≤ x3) → Q x3 g) ∧ (¬ (x4 ≤ x3) → ((-2147483648 ≤ (x3 + x4) ∧ (x3 + x4) ≤ 2147483647) ∧ ((-2147483648 ≤ ((x3 + x4) + 1) ∧ ((x3 + x4) + 1) ≤ 2147483647) ∧ (z_O X 1 m_Rw_countUnder [(2, 15), (0, x1), (1, Int.tdiv ((x3 + x4) + 1) 2), (1, x1)] N σ g (fun r0 g0 => (((x2 < r0) → ((-2147483648 ≤ ((Int.tdiv ((x3 + x4) + 1) 2) - 1) ∧ ((Int.tdiv ((x3 + x4) + 1) 2) - 1) ≤ 2147483647) ∧ ((-2147483648 ≤ (x5 + 1) ∧ (x5 + 1) ≤ 2147483647) ∧ L_Rw_sliceOf_8 X N σ x1 x2 x3 ((Int.tdiv ((x3 + x4) + 1) 2) - 1) (x5 + 1) g0 Q))) ∧ (¬ (x2 < r0) → ((-2147483648 ≤ (x5 + 1) ∧ (x5 + 1) ≤ 2147483647) ∧ L_Rw_sliceOf_8 X N σ x1 x2 (Int.tdiv ((x3 + x4) + 1) 2) x4 (x5 + 1) g0 Q))))))))))) : L_Rw_sliceOf_8 X N σ x1 x2 x3 x4 x5 g Q := by
  refine z_iload 5 d_Rw_sliceOf_8 rfl ?_
  refine z_bipush (n := 32) d_Rw_sliceOf_10 (by decide) (by decide) ?_
  refine z_icmp_ge (tgt := 63) d_Rw_sliceOf_12 (by decide) (fun c1 => ?_) (fun c1 => ?_)
  · have h := h.1 c1
    refine z_iload_n (i := 3) 3 d_Rw_sliceOf_63 rfl rfl ?_
    exact z_iret d_Rw_sliceOf_64 rfl (by decide) (by decide) ⟨rfl, rfl, h⟩
  · have h := h.2 c1
    refine z_iload_n (i := 3) 3 d_Rw_sliceOf_15 rfl rfl ?_
    refine z_iload 4 d_Rw_sliceOf_16 rfl ?_
    refine z_icmp_ge (tgt := 63) d_Rw_sliceOf_18 (by decide) (fun c2 => ?_) (fun c2 => ?_)
    · have h := h.1 c2
      refine z_iload_n (i := 3) 3 d_Rw_sliceOf_63 rfl rfl ?_
      exact z_iret d_Rw_sliceOf_64 rfl (by decide) (by decide) ⟨rfl, rfl, h⟩
    · have h := h.2 c2
      refine z_iload_n (i := 3) 3 d_Rw_sliceOf_21 rfl rfl ?_
      refine z_iload 4 d_Rw_sliceOf_22 rfl ?_
      obtain ⟨c3, h⟩ := h
      refine z_iadd d_Rw_sliceOf_24 c3 ?_
      refine z_iconst (n := 1) d_Rw_sliceOf_25 (by decide) ?_
      obtain ⟨c4, h⟩ := h
      refine z_iadd d_Rw_sliceOf_26 c4 ?_
      refine z_iconst (n := 2) d_Rw_sliceOf_27 (by decide) ?_
      refine z_idiv d_Rw_sliceOf_28 (by decide) ?_
      refine z_istore (ls' := [(6, (0, Int.tdiv ((x3 + x4) + 1) 2)), (0, (2, 15)), (1, (0, x1)), (2, (0, x2)), (3, (0, x3)), (4, (0, x4)), (5, (0, x5))]) d_Rw_sliceOf_29 rfl rfl ?_
      refine z_aload_n (i := 0) (c := 15) 1 d_Rw_sliceOf_31 rfl rfl rfl ?_
      refine z_iload_n (i := 1) 2 d_Rw_sliceOf_32 rfl rfl ?_
      refine z_iload 0 d_Rw_sliceOf_33 rfl ?_
      refine z_i2l d_Rw_sliceOf_35 ?_
      refine z_iload_n (i := 1) 2 d_Rw_sliceOf_36 rfl rfl ?_
      refine z_i2l d_Rw_sliceOf_37 ?_
      refine z_cV (c := 15) (as := [(0, x1), (1, Int.tdiv ((x3 + x4) + 1) 2), (1, x1)]) (d' := 1) (st := []) d_Rw_sliceOf_38 mi_Rw_countUnder ml_Rw_51 mv_Rw_countUnder se_Rw_countUnder rfl rfl rfl rfl (ks_F_15 hx) rfl rfl (kl_F_15 hx) rfl rfl (z_Omono h (fun r0 g0 _ h hro => ?_))
      show z_U X 2 m_Rw_sliceOf 41 [(6, (0, Int.tdiv ((x3 + x4) + 1) 2)), (0, (2, 15)), (1, (0, x1)), (2, (0, x2)), (3, (0, x3)), (4, (0, x4)), (5, (0, x5))] [(0, r0)] N σ g0 Q
      refine z_iload_n (i := 2) 3 d_Rw_sliceOf_41 rfl rfl ?_
      refine z_icmp_gt (tgt := 51) d_Rw_sliceOf_42 (by decide) (fun c5 => ?_) (fun c5 => ?_)
      · have h := h.1 c5
        refine z_iload 0 d_Rw_sliceOf_51 rfl ?_
        refine z_iconst (n := 1) d_Rw_sliceOf_53 (by decide) ?_
        obtain ⟨c6, h⟩ := h
        refine z_isub d_Rw_sliceOf_54 c6 ?_
        refine z_istore (ls' := [(4, (0, (Int.tdiv ((x3 + x4) + 1) 2) - 1)), (6, (0, Int.tdiv ((x3 + x4) + 1) 2)), (0, (2, 15)), (1, (0, x1)), (2, (0, x2)), (3, (0, x3)), (5, (0, x5))]) d_Rw_sliceOf_55 rfl rfl ?_
        obtain ⟨c7, h⟩ := h
        refine z_iinc (n := 1) (ls' := [(5, (0, x5 + 1)), (4, (0, (Int.tdiv ((x3 + x4) + 1) 2) - 1)), (6, (0, Int.tdiv ((x3 + x4) + 1) 2)), (0, (2, 15)), (1, (0, x1)), (2, (0, x2)), (3, (0, x3))]) 6 d_Rw_sliceOf_57 rfl c7 rfl rfl ?_
        refine z_goto (tgt := 8) d_Rw_sliceOf_60 (by decide) ?_
        refine z_sub (ls' := [(0, (2, 15)), (1, (0, x1)), (2, (0, x2)), (3, (0, x3)), (4, (0, (Int.tdiv ((x3 + x4) + 1) 2) - 1)), (5, (0, x5 + 1))]) [3, 4, 5, 6, 1, 0] rfl ?_
        exact h
      · have h := h.2 c5
        refine z_iload 0 d_Rw_sliceOf_45 rfl ?_
        refine z_istore_n (i := 3) (ls' := [(3, (0, Int.tdiv ((x3 + x4) + 1) 2)), (6, (0, Int.tdiv ((x3 + x4) + 1) 2)), (0, (2, 15)), (1, (0, x1)), (2, (0, x2)), (4, (0, x4)), (5, (0, x5))]) d_Rw_sliceOf_47 rfl rfl rfl ?_
        refine z_goto (tgt := 57) d_Rw_sliceOf_48 (by decide) ?_
        obtain ⟨c8, h⟩ := h
        refine z_iinc (n := 1) (ls' := [(5, (0, x5 + 1)), (3, (0, Int.tdiv ((x3 + x4) + 1) 2)), (6, (0, Int.tdiv ((x3 + x4) + 1) 2)), (0, (2, 15)), (1, (0, x1)), (2, (0, x2)), (4, (0, x4))]) 6 d_Rw_sliceOf_57 rfl c8 rfl rfl ?_
        refine z_goto (tgt := 8) d_Rw_sliceOf_60 (by decide) ?_
        refine z_sub (ls' := [(0, (2, 15)), (1, (0, x1)), (2, (0, x2)), (3, (0, Int.tdiv ((x3 + x4) + 1) 2)), (4, (0, x4)), (5, (0, x5 + 1))]) [3, 4, 5, 1, 6, 0] rfl ?_
        exact h
theorem d_Rw_valuesOf_0 : decode (z_c m_Rw_valuesOf) 0 = .ok (.iconst 1, 1) := by decide +kernel
theorem d_Rw_valuesOf_1 : decode (z_c m_Rw_valuesOf) 1 = .ok (.aload_n 0, 1) := by decide +kernel
theorem d_Rw_valuesOf_2 : decode (z_c m_Rw_valuesOf) 2 = .ok (.iload_n 1, 1) := by decide +kernel
theorem d_Rw_valuesOf_3 : decode (z_c m_Rw_valuesOf) 3 = .ok (.iload_n 1, 1) := by decide +kernel
theorem d_Rw_valuesOf_4 : decode (z_c m_Rw_valuesOf) 4 = .ok (.invokevirtual 18, 3) := by decide +kernel
theorem d_Rw_valuesOf_7 : decode (z_c m_Rw_valuesOf) 7 = .ok (.iconst 1, 1) := by decide +kernel
theorem d_Rw_valuesOf_8 : decode (z_c m_Rw_valuesOf) 8 = .ok (.iadd, 1) := by decide +kernel
theorem d_Rw_valuesOf_9 : decode (z_c m_Rw_valuesOf) 9 = .ok (.iconst 2, 1) := by decide +kernel
theorem d_Rw_valuesOf_10 : decode (z_c m_Rw_valuesOf) 10 = .ok (.idiv, 1) := by decide +kernel
theorem d_Rw_valuesOf_11 : decode (z_c m_Rw_valuesOf) 11 = .ok (.iadd, 1) := by decide +kernel
theorem d_Rw_valuesOf_12 : decode (z_c m_Rw_valuesOf) 12 = .ok (.ireturn, 1) := by decide +kernel
set_option maxRecDepth 8000 in
theorem b_Rw_valuesOf_0 {X : z_X} {N : Nat} {σ g : z_G} {Q : z_P} {a1 : Int} (hx : z_lay X N σ 0 z_SF z_RF) (h : z_O X 1 m_Rw_pairs [(2, 15), (0, a1), (0, a1)] N σ g (fun r0 g0 => ((-2147483648 ≤ (r0 + 1) ∧ (r0 + 1) ≤ 2147483647) ∧ ((-2147483648 ≤ (1 + (Int.tdiv (r0 + 1) 2)) ∧ (1 + (Int.tdiv (r0 + 1) 2)) ≤ 2147483647) ∧ Q (1 + (Int.tdiv (r0 + 1) 2)) g0)))) : z_O X 2 m_Rw_valuesOf [(2, 15), (0, a1)] N σ g Q := by
  refine z_Oenter mi_Rw_valuesOf rfl (fun _ => ?_)
  show z_U X 2 m_Rw_valuesOf 0 [(0, (2, 15)), (1, (0, a1))] [] N σ g Q
  refine z_iconst (n := 1) d_Rw_valuesOf_0 (by decide) ?_
  refine z_aload_n (i := 0) (c := 15) 0 d_Rw_valuesOf_1 rfl rfl rfl ?_
  refine z_iload_n (i := 1) 1 d_Rw_valuesOf_2 rfl rfl ?_
  refine z_iload_n (i := 1) 1 d_Rw_valuesOf_3 rfl rfl ?_
  refine z_cV (c := 15) (as := [(0, a1), (0, a1)]) (d' := 1) (st := [(0, 1)]) d_Rw_valuesOf_4 mi_Rw_pairs ml_Rw_18 mv_Rw_pairs se_Rw_pairs rfl rfl rfl rfl (ks_F_15 hx) rfl rfl (kl_F_15 hx) rfl rfl (z_Omono h (fun r0 g0 _ h hro => ?_))
  show z_U X 2 m_Rw_valuesOf 7 [(0, (2, 15)), (1, (0, a1))] [(0, r0), (0, 1)] N σ g0 Q
  refine z_iconst (n := 1) d_Rw_valuesOf_7 (by decide) ?_
  obtain ⟨c1, h⟩ := h
  refine z_iadd d_Rw_valuesOf_8 c1 ?_
  refine z_iconst (n := 2) d_Rw_valuesOf_9 (by decide) ?_
  refine z_idiv d_Rw_valuesOf_10 (by decide) ?_
  obtain ⟨c2, h⟩ := h
  refine z_iadd d_Rw_valuesOf_11 c2 ?_
  exact z_iret d_Rw_valuesOf_12 rfl (by decide) (by decide) ⟨rfl, rfl, h⟩
theorem d_Sp_bottomBehind_0 : decode (z_c m_Sp_bottomBehind) 0 = .ok (.aload_n 0, 1) := by decide +kernel
theorem d_Sp_bottomBehind_1 : decode (z_c m_Sp_bottomBehind) 1 = .ok (.invokevirtual 52, 3) := by decide +kernel
theorem d_Sp_bottomBehind_4 : decode (z_c m_Sp_bottomBehind) 4 = .ok (.iload_n 1, 1) := by decide +kernel
theorem d_Sp_bottomBehind_5 : decode (z_c m_Sp_bottomBehind) 5 = .ok (.ifCond .ne 10, 3) := by decide +kernel
theorem d_Sp_bottomBehind_8 : decode (z_c m_Sp_bottomBehind) 8 = .ok (.aload_n 0, 1) := by decide +kernel
theorem d_Sp_bottomBehind_9 : decode (z_c m_Sp_bottomBehind) 9 = .ok (.getfield 18, 3) := by decide +kernel
theorem d_Sp_bottomBehind_12 : decode (z_c m_Sp_bottomBehind) 12 = .ok (.goto 7, 3) := by decide +kernel
theorem d_Sp_bottomBehind_15 : decode (z_c m_Sp_bottomBehind) 15 = .ok (.aload_n 0, 1) := by decide +kernel
theorem d_Sp_bottomBehind_16 : decode (z_c m_Sp_bottomBehind) 16 = .ok (.getfield 24, 3) := by decide +kernel
theorem d_Sp_bottomBehind_19 : decode (z_c m_Sp_bottomBehind) 19 = .ok (.iadd, 1) := by decide +kernel
theorem d_Sp_bottomBehind_20 : decode (z_c m_Sp_bottomBehind) 20 = .ok (.ireturn, 1) := by decide +kernel
set_option maxRecDepth 8000 in
theorem b_Sp_bottomBehind_0 {X : z_X} {N : Nat} {σ g : z_G} {Q : z_P} {a1 : Int} {o : Nat} (ho : z_lay X N σ o z_SSp z_RSp) (h : (-2147483648 ≤ ((g o 1) + (g o 3)) ∧ ((g o 1) + (g o 3)) ≤ 2147483647) ∧ (((a1 = 0) → ((-2147483648 ≤ (((g o 1) + (g o 3)) + (g o 1)) ∧ (((g o 1) + (g o 3)) + (g o 1)) ≤ 2147483647) ∧ Q (((g o 1) + (g o 3)) + (g o 1)) g)) ∧ (¬ (a1 = 0) → ((-2147483648 ≤ (((g o 1) + (g o 3)) + (g o 3)) ∧ (((g o 1) + (g o 3)) + (g o 3)) ≤ 2147483647) ∧ Q (((g o 1) + (g o 3)) + (g o 3)) g)))) : z_O X 2 m_Sp_bottomBehind [(2, ((o : Nat) : Int)), (0, a1)] N σ g Q := by
  refine z_Oenter mi_Sp_bottomBehind rfl (fun _ => ?_)
  show z_U X 2 m_Sp_bottomBehind 0 [(0, (2, ((o : Nat) : Int))), (1, (0, a1))] [] N σ g Q
  refine z_aload_n (i := 0) (c := o) 0 d_Sp_bottomBehind_0 rfl rfl rfl ?_
  refine z_cV (c := o) (as := []) (d' := 1) (st := []) d_Sp_bottomBehind_1 mi_Sp_ownBottom ml_Sp_52 mv_Sp_ownBottom se_Sp_ownBottom rfl rfl rfl rfl (ks_Sp_0 ho) rfl rfl (kl_Sp_0 ho) rfl rfl (b_Sp_ownBottom_0 ho ?_)
  obtain ⟨c1, h⟩ := h
  refine ⟨c1, ?_⟩
  intro _
  show z_U X 2 m_Sp_bottomBehind 4 [(0, (2, ((o : Nat) : Int))), (1, (0, a1))] [(0, (g o 1) + (g o 3))] N σ g Q
  refine z_iload_n (i := 1) 1 d_Sp_bottomBehind_4 rfl rfl ?_
  refine z_if_ne (tgt := 15) d_Sp_bottomBehind_5 (by decide) (fun c2 => ?_) (fun c2 => ?_)
  · have h := h.2 c2
    refine z_aload_n (i := 0) (c := o) 0 d_Sp_bottomBehind_15 rfl rfl rfl ?_
    refine z_geti (c := o) (kI := 3) d_Sp_bottomBehind_16 fd_Sp_highBottom fl_Sp_24 (Or.inl rfl) rfl rfl (ks_Sp_0 ho) (kl_Sp_0 ho) ?_
    obtain ⟨c3, h⟩ := h
    refine z_iadd d_Sp_bottomBehind_19 c3 ?_
    exact z_iret d_Sp_bottomBehind_20 rfl (by decide) (by decide) ⟨rfl, rfl, h⟩
  · have h := h.1 c2
    refine z_aload_n (i := 0) (c := o) 0 d_Sp_bottomBehind_8 rfl rfl rfl ?_
    refine z_geti (c := o) (kI := 1) d_Sp_bottomBehind_9 fd_Sp_lowBottom fl_Sp_18 (Or.inl rfl) rfl rfl (ks_Sp_0 ho) (kl_Sp_0 ho) ?_
    refine z_goto (tgt := 19) d_Sp_bottomBehind_12 (by decide) ?_
    obtain ⟨c4, h⟩ := h
    refine z_iadd d_Sp_bottomBehind_19 c4 ?_
    exact z_iret d_Sp_bottomBehind_20 rfl (by decide) (by decide) ⟨rfl, rfl, h⟩
theorem d_Sp_descend_0 : decode (z_c m_Sp_descend) 0 = .ok (.aload_n 0, 1) := by decide +kernel
theorem d_Sp_descend_1 : decode (z_c m_Sp_descend) 1 = .ok (.invokevirtual 55, 3) := by decide +kernel
theorem d_Sp_descend_4 : decode (z_c m_Sp_descend) 4 = .ok (.istore_n 2, 1) := by decide +kernel
theorem d_Sp_descend_5 : decode (z_c m_Sp_descend) 5 = .ok (.aload_n 0, 1) := by decide +kernel
theorem d_Sp_descend_6 : decode (z_c m_Sp_descend) 6 = .ok (.invokevirtual 52, 3) := by decide +kernel
theorem d_Sp_descend_9 : decode (z_c m_Sp_descend) 9 = .ok (.istore_n 3, 1) := by decide +kernel
theorem d_Sp_descend_10 : decode (z_c m_Sp_descend) 10 = .ok (.iload_n 1, 1) := by decide +kernel
theorem d_Sp_descend_11 : decode (z_c m_Sp_descend) 11 = .ok (.ifCond .ne 16, 3) := by decide +kernel
theorem d_Sp_descend_14 : decode (z_c m_Sp_descend) 14 = .ok (.aload_n 0, 1) := by decide +kernel
theorem d_Sp_descend_15 : decode (z_c m_Sp_descend) 15 = .ok (.iload_n 2, 1) := by decide +kernel
theorem d_Sp_descend_16 : decode (z_c m_Sp_descend) 16 = .ok (.putfield 21, 3) := by decide +kernel
theorem d_Sp_descend_19 : decode (z_c m_Sp_descend) 19 = .ok (.aload_n 0, 1) := by decide +kernel
theorem d_Sp_descend_20 : decode (z_c m_Sp_descend) 20 = .ok (.iload_n 3, 1) := by decide +kernel
theorem d_Sp_descend_21 : decode (z_c m_Sp_descend) 21 = .ok (.putfield 24, 3) := by decide +kernel
theorem d_Sp_descend_24 : decode (z_c m_Sp_descend) 24 = .ok (.goto 13, 3) := by decide +kernel
theorem d_Sp_descend_27 : decode (z_c m_Sp_descend) 27 = .ok (.aload_n 0, 1) := by decide +kernel
theorem d_Sp_descend_28 : decode (z_c m_Sp_descend) 28 = .ok (.iload_n 2, 1) := by decide +kernel
theorem d_Sp_descend_29 : decode (z_c m_Sp_descend) 29 = .ok (.putfield 14, 3) := by decide +kernel
theorem d_Sp_descend_32 : decode (z_c m_Sp_descend) 32 = .ok (.aload_n 0, 1) := by decide +kernel
theorem d_Sp_descend_33 : decode (z_c m_Sp_descend) 33 = .ok (.iload_n 3, 1) := by decide +kernel
theorem d_Sp_descend_34 : decode (z_c m_Sp_descend) 34 = .ok (.putfield 18, 3) := by decide +kernel
theorem d_Sp_descend_37 : decode (z_c m_Sp_descend) 37 = .ok (.aload_n 0, 1) := by decide +kernel
theorem d_Sp_descend_38 : decode (z_c m_Sp_descend) 38 = .ok (.dup, 1) := by decide +kernel
theorem d_Sp_descend_39 : decode (z_c m_Sp_descend) 39 = .ok (.getfield 27, 3) := by decide +kernel
theorem d_Sp_descend_42 : decode (z_c m_Sp_descend) 42 = .ok (.iconst 1, 1) := by decide +kernel
theorem d_Sp_descend_43 : decode (z_c m_Sp_descend) 43 = .ok (.iadd, 1) := by decide +kernel
theorem d_Sp_descend_44 : decode (z_c m_Sp_descend) 44 = .ok (.putfield 27, 3) := by decide +kernel
theorem d_Sp_descend_47 : decode (z_c m_Sp_descend) 47 = .ok (.return_, 1) := by decide +kernel
set_option maxRecDepth 8000 in
theorem b_Sp_descend_0 {X : z_X} {N : Nat} {σ g : z_G} {Q : z_P} {a1 : Int} {o : Nat} (ho : z_lay X N σ o z_SSp z_RSp) (h : (-2147483648 ≤ ((g o 0) + (g o 2)) ∧ ((g o 0) + (g o 2)) ≤ 2147483647) ∧ ((-2147483648 ≤ ((g o 1) + (g o 3)) ∧ ((g o 1) + (g o 3)) ≤ 2147483647) ∧ (((a1 = 0) → ((-2147483648 ≤ ((g o 4) + 1) ∧ ((g o 4) + 1) ≤ 2147483647) ∧ Q 0 (z_up (z_up (z_up g o 2 ((g o 0) + (g o 2))) o 3 ((g o 1) + (g o 3))) o 4 ((g o 4) + 1)))) ∧ (¬ (a1 = 0) → ((-2147483648 ≤ ((g o 4) + 1) ∧ ((g o 4) + 1) ≤ 2147483647) ∧ Q 0 (z_up (z_up (z_up g o 0 ((g o 0) + (g o 2))) o 1 ((g o 1) + (g o 3))) o 4 ((g o 4) + 1))))))) : z_O X 2 m_Sp_descend [(2, ((o : Nat) : Int)), (0, a1)] N σ g Q := by
  refine z_Oenter mi_Sp_descend rfl (fun _ => ?_)
  show z_U X 2 m_Sp_descend 0 [(0, (2, ((o : Nat) : Int))), (1, (0, a1))] [] N σ g Q
  refine z_aload_n (i := 0) (c := o) 0 d_Sp_descend_0 rfl rfl rfl ?_
  refine z_cV (c := o) (as := []) (d' := 1) (st := []) d_Sp_descend_1 mi_Sp_ownTop ml_Sp_55 mv_Sp_ownTop se_Sp_ownTop rfl rfl rfl rfl (ks_Sp_0 ho) rfl rfl (kl_Sp_0 ho) rfl rfl (b_Sp_ownTop_0 ho ?_)
  obtain ⟨c1, h⟩ := h
  refine ⟨c1, ?_⟩
  intro _
  show z_U X 2 m_Sp_descend 4 [(0, (2, ((o : Nat) : Int))), (1, (0, a1))] [(0, (g o 0) + (g o 2))] N σ g Q
  refine z_istore_n (i := 2) (ls' := [(2, (0, (g o 0) + (g o 2))), (0, (2, ((o : Nat) : Int))), (1, (0, a1))]) d_Sp_descend_4 rfl rfl rfl ?_
  refine z_aload_n (i := 0) (c := o) 1 d_Sp_descend_5 rfl rfl rfl ?_
  refine z_cV (c := o) (as := []) (d' := 1) (st := []) d_Sp_descend_6 mi_Sp_ownBottom ml_Sp_52 mv_Sp_ownBottom se_Sp_ownBottom rfl rfl rfl rfl (ks_Sp_0 ho) rfl rfl (kl_Sp_0 ho) rfl rfl (b_Sp_ownBottom_0 ho ?_)
  obtain ⟨c2, h⟩ := h
  refine ⟨c2, ?_⟩
  intro _
  show z_U X 2 m_Sp_descend 9 [(2, (0, (g o 0) + (g o 2))), (0, (2, ((o : Nat) : Int))), (1, (0, a1))] [(0, (g o 1) + (g o 3))] N σ g Q
  refine z_istore_n (i := 3) (ls' := [(3, (0, (g o 1) + (g o 3))), (2, (0, (g o 0) + (g o 2))), (0, (2, ((o : Nat) : Int))), (1, (0, a1))]) d_Sp_descend_9 rfl rfl rfl ?_
  refine z_iload_n (i := 1) 3 d_Sp_descend_10 rfl rfl ?_
  refine z_if_ne (tgt := 27) d_Sp_descend_11 (by decide) (fun c3 => ?_) (fun c3 => ?_)
  · have h := h.2 c3
    refine z_aload_n (i := 0) (c := o) 2 d_Sp_descend_27 rfl rfl rfl ?_
    refine z_iload_n (i := 2) 1 d_Sp_descend_28 rfl rfl ?_
    refine z_puti (c := o) (kI := 0) d_Sp_descend_29 fd_Sp_lowTop fl_Sp_14 pf_Sp_lowTop rfl rfl rfl rfl (ks_Sp_0 ho) (kl_Sp_0 ho) ?_
    refine z_aload_n (i := 0) (c := o) 2 d_Sp_descend_32 rfl rfl rfl ?_
    refine z_iload_n (i := 3) 0 d_Sp_descend_33 rfl rfl ?_
    refine z_puti (c := o) (kI := 1) d_Sp_descend_34 fd_Sp_lowBottom fl_Sp_18 pf_Sp_lowBottom rfl rfl rfl rfl (ks_Sp_0 ho) (kl_Sp_0 ho) ?_
    refine z_aload_n (i := 0) (c := o) 2 d_Sp_descend_37 rfl rfl rfl ?_
    refine z_dup d_Sp_descend_38 rfl ?_
    refine z_geti (c := o) (kI := 4) d_Sp_descend_39 fd_Sp_deep fl_Sp_27 (Or.inl rfl) rfl rfl (ks_Sp_0 ho) (kl_Sp_0 ho) ?_
    refine z_ti (b := g o 4) (by simp [z_up]) ?_
    refine z_iconst (n := 1) d_Sp_descend_42 (by decide) ?_
    obtain ⟨c4, h⟩ := h
    refine z_iadd d_Sp_descend_43 c4 ?_
    refine z_puti (c := o) (kI := 4) d_Sp_descend_44 fd_Sp_deep fl_Sp_27 pf_Sp_deep rfl rfl rfl rfl (ks_Sp_0 ho) (kl_Sp_0 ho) ?_
    exact z_vret d_Sp_descend_47 rfl (by decide) (by decide) ⟨rfl, rfl, h⟩
  · have h := h.1 c3
    refine z_aload_n (i := 0) (c := o) 2 d_Sp_descend_14 rfl rfl rfl ?_
    refine z_iload_n (i := 2) 1 d_Sp_descend_15 rfl rfl ?_
    refine z_puti (c := o) (kI := 2) d_Sp_descend_16 fd_Sp_highTop fl_Sp_21 pf_Sp_highTop rfl rfl rfl rfl (ks_Sp_0 ho) (kl_Sp_0 ho) ?_
    refine z_aload_n (i := 0) (c := o) 2 d_Sp_descend_19 rfl rfl rfl ?_
    refine z_iload_n (i := 3) 0 d_Sp_descend_20 rfl rfl ?_
    refine z_puti (c := o) (kI := 3) d_Sp_descend_21 fd_Sp_highBottom fl_Sp_24 pf_Sp_highBottom rfl rfl rfl rfl (ks_Sp_0 ho) (kl_Sp_0 ho) ?_
    refine z_goto (tgt := 37) d_Sp_descend_24 (by decide) ?_
    refine z_aload_n (i := 0) (c := o) 2 d_Sp_descend_37 rfl rfl rfl ?_
    refine z_dup d_Sp_descend_38 rfl ?_
    refine z_geti (c := o) (kI := 4) d_Sp_descend_39 fd_Sp_deep fl_Sp_27 (Or.inl rfl) rfl rfl (ks_Sp_0 ho) (kl_Sp_0 ho) ?_
    refine z_ti (b := g o 4) (by simp [z_up]) ?_
    refine z_iconst (n := 1) d_Sp_descend_42 (by decide) ?_
    obtain ⟨c5, h⟩ := h
    refine z_iadd d_Sp_descend_43 c5 ?_
    refine z_puti (c := o) (kI := 4) d_Sp_descend_44 fd_Sp_deep fl_Sp_27 pf_Sp_deep rfl rfl rfl rfl (ks_Sp_0 ho) (kl_Sp_0 ho) ?_
    exact z_vret d_Sp_descend_47 rfl (by decide) (by decide) ⟨rfl, rfl, h⟩
theorem d_Sp_squeeze_0 : decode (z_c m_Sp_squeeze) 0 = .ok (.aload_n 0, 1) := by decide +kernel
theorem d_Sp_squeeze_1 : decode (z_c m_Sp_squeeze) 1 = .ok (.invokevirtual 9, 3) := by decide +kernel
theorem d_Sp_squeeze_4 : decode (z_c m_Sp_squeeze) 4 = .ok (.iconst 0, 1) := by decide +kernel
theorem d_Sp_squeeze_5 : decode (z_c m_Sp_squeeze) 5 = .ok (.istore_n 3, 1) := by decide +kernel
theorem d_Sp_squeeze_6 : decode (z_c m_Sp_squeeze) 6 = .ok (.iload_n 3, 1) := by decide +kernel
theorem d_Sp_squeeze_7 : decode (z_c m_Sp_squeeze) 7 = .ok (.bipush 100, 2) := by decide +kernel
theorem d_Sp_squeeze_9 : decode (z_c m_Sp_squeeze) 9 = .ok (.if_icmp .ge 237, 3) := by decide +kernel
theorem d_Sp_squeeze_12 : decode (z_c m_Sp_squeeze) 12 = .ok (.aload_n 1, 1) := by decide +kernel
theorem d_Sp_squeeze_13 : decode (z_c m_Sp_squeeze) 13 = .ok (.getfield 30, 3) := by decide +kernel
theorem d_Sp_squeeze_16 : decode (z_c m_Sp_squeeze) 16 = .ok (.aload_n 1, 1) := by decide +kernel
theorem d_Sp_squeeze_17 : decode (z_c m_Sp_squeeze) 17 = .ok (.getfield 38, 3) := by decide +kernel
theorem d_Sp_squeeze_20 : decode (z_c m_Sp_squeeze) 20 = .ok (.aload_n 0, 1) := by decide +kernel
theorem d_Sp_squeeze_21 : decode (z_c m_Sp_squeeze) 21 = .ok (.getfield 14, 3) := by decide +kernel
theorem d_Sp_squeeze_24 : decode (z_c m_Sp_squeeze) 24 = .ok (.aload_n 0, 1) := by decide +kernel
theorem d_Sp_squeeze_25 : decode (z_c m_Sp_squeeze) 25 = .ok (.getfield 18, 3) := by decide +kernel
theorem d_Sp_squeeze_28 : decode (z_c m_Sp_squeeze) 28 = .ok (.invokestatic 44, 3) := by decide +kernel
theorem d_Sp_squeeze_31 : decode (z_c m_Sp_squeeze) 31 = .ok (.lstore 4, 2) := by decide +kernel
theorem d_Sp_squeeze_33 : decode (z_c m_Sp_squeeze) 33 = .ok (.aload_n 0, 1) := by decide +kernel
theorem d_Sp_squeeze_34 : decode (z_c m_Sp_squeeze) 34 = .ok (.getfield 21, 3) := by decide +kernel
theorem d_Sp_squeeze_37 : decode (z_c m_Sp_squeeze) 37 = .ok (.aload_n 0, 1) := by decide +kernel
theorem d_Sp_squeeze_38 : decode (z_c m_Sp_squeeze) 38 = .ok (.getfield 24, 3) := by decide +kernel
theorem d_Sp_squeeze_41 : decode (z_c m_Sp_squeeze) 41 = .ok (.aload_n 1, 1) := by decide +kernel
theorem d_Sp_squeeze_42 : decode (z_c m_Sp_squeeze) 42 = .ok (.getfield 30, 3) := by decide +kernel
theorem d_Sp_squeeze_45 : decode (z_c m_Sp_squeeze) 45 = .ok (.aload_n 1, 1) := by decide +kernel
theorem d_Sp_squeeze_46 : decode (z_c m_Sp_squeeze) 46 = .ok (.getfield 38, 3) := by decide +kernel
theorem d_Sp_squeeze_49 : decode (z_c m_Sp_squeeze) 49 = .ok (.invokestatic 44, 3) := by decide +kernel
theorem d_Sp_squeeze_52 : decode (z_c m_Sp_squeeze) 52 = .ok (.lstore 6, 2) := by decide +kernel
theorem d_Sp_squeeze_54 : decode (z_c m_Sp_squeeze) 54 = .ok (.lload 6, 2) := by decide +kernel
theorem d_Sp_squeeze_56 : decode (z_c m_Sp_squeeze) 56 = .ok (.lconst 0, 1) := by decide +kernel
theorem d_Sp_squeeze_57 : decode (z_c m_Sp_squeeze) 57 = .ok (.lcmp, 1) := by decide +kernel
theorem d_Sp_squeeze_58 : decode (z_c m_Sp_squeeze) 58 = .ok (.ifCond .le 43, 3) := by decide +kernel
theorem d_Sp_squeeze_61 : decode (z_c m_Sp_squeeze) 61 = .ok (.lload 4, 2) := by decide +kernel
theorem d_Sp_squeeze_63 : decode (z_c m_Sp_squeeze) 63 = .ok (.lload 6, 2) := by decide +kernel
theorem d_Sp_squeeze_65 : decode (z_c m_Sp_squeeze) 65 = .ok (.ldiv, 1) := by decide +kernel
theorem d_Sp_squeeze_66 : decode (z_c m_Sp_squeeze) 66 = .ok (.l2i, 1) := by decide +kernel
theorem d_Sp_squeeze_67 : decode (z_c m_Sp_squeeze) 67 = .ok (.istore 8, 2) := by decide +kernel
theorem d_Sp_squeeze_69 : decode (z_c m_Sp_squeeze) 69 = .ok (.aload_n 0, 1) := by decide +kernel
theorem d_Sp_squeeze_70 : decode (z_c m_Sp_squeeze) 70 = .ok (.dup, 1) := by decide +kernel
theorem d_Sp_squeeze_71 : decode (z_c m_Sp_squeeze) 71 = .ok (.getfield 14, 3) := by decide +kernel
theorem d_Sp_squeeze_74 : decode (z_c m_Sp_squeeze) 74 = .ok (.iload 8, 2) := by decide +kernel
theorem d_Sp_squeeze_76 : decode (z_c m_Sp_squeeze) 76 = .ok (.aload_n 0, 1) := by decide +kernel
theorem d_Sp_squeeze_77 : decode (z_c m_Sp_squeeze) 77 = .ok (.getfield 21, 3) := by decide +kernel
theorem d_Sp_squeeze_80 : decode (z_c m_Sp_squeeze) 80 = .ok (.imul, 1) := by decide +kernel
theorem d_Sp_squeeze_81 : decode (z_c m_Sp_squeeze) 81 = .ok (.iadd, 1) := by decide +kernel
theorem d_Sp_squeeze_82 : decode (z_c m_Sp_squeeze) 82 = .ok (.putfield 14, 3) := by decide +kernel
theorem d_Sp_squeeze_85 : decode (z_c m_Sp_squeeze) 85 = .ok (.aload_n 0, 1) := by decide +kernel
theorem d_Sp_squeeze_86 : decode (z_c m_Sp_squeeze) 86 = .ok (.dup, 1) := by decide +kernel
theorem d_Sp_squeeze_87 : decode (z_c m_Sp_squeeze) 87 = .ok (.getfield 18, 3) := by decide +kernel
theorem d_Sp_squeeze_90 : decode (z_c m_Sp_squeeze) 90 = .ok (.iload 8, 2) := by decide +kernel
theorem d_Sp_squeeze_92 : decode (z_c m_Sp_squeeze) 92 = .ok (.aload_n 0, 1) := by decide +kernel
theorem d_Sp_squeeze_93 : decode (z_c m_Sp_squeeze) 93 = .ok (.getfield 24, 3) := by decide +kernel
theorem d_Sp_squeeze_96 : decode (z_c m_Sp_squeeze) 96 = .ok (.imul, 1) := by decide +kernel
theorem d_Sp_squeeze_97 : decode (z_c m_Sp_squeeze) 97 = .ok (.iadd, 1) := by decide +kernel
theorem d_Sp_squeeze_98 : decode (z_c m_Sp_squeeze) 98 = .ok (.putfield 18, 3) := by decide +kernel
theorem d_Sp_squeeze_101 : decode (z_c m_Sp_squeeze) 101 = .ok (.aload_n 0, 1) := by decide +kernel
theorem d_Sp_squeeze_102 : decode (z_c m_Sp_squeeze) 102 = .ok (.invokevirtual 55, 3) := by decide +kernel
theorem d_Sp_squeeze_105 : decode (z_c m_Sp_squeeze) 105 = .ok (.aload_n 0, 1) := by decide +kernel
theorem d_Sp_squeeze_106 : decode (z_c m_Sp_squeeze) 106 = .ok (.invokevirtual 52, 3) := by decide +kernel
theorem d_Sp_squeeze_109 : decode (z_c m_Sp_squeeze) 109 = .ok (.aload_n 2, 1) := by decide +kernel
theorem d_Sp_squeeze_110 : decode (z_c m_Sp_squeeze) 110 = .ok (.getfield 30, 3) := by decide +kernel
theorem d_Sp_squeeze_113 : decode (z_c m_Sp_squeeze) 113 = .ok (.aload_n 2, 1) := by decide +kernel
theorem d_Sp_squeeze_114 : decode (z_c m_Sp_squeeze) 114 = .ok (.getfield 38, 3) := by decide +kernel
theorem d_Sp_squeeze_117 : decode (z_c m_Sp_squeeze) 117 = .ok (.invokestatic 44, 3) := by decide +kernel
theorem d_Sp_squeeze_120 : decode (z_c m_Sp_squeeze) 120 = .ok (.lconst 0, 1) := by decide +kernel
theorem d_Sp_squeeze_121 : decode (z_c m_Sp_squeeze) 121 = .ok (.lcmp, 1) := by decide +kernel
theorem d_Sp_squeeze_122 : decode (z_c m_Sp_squeeze) 122 = .ok (.ifCond .ge 4, 3) := by decide +kernel
theorem d_Sp_squeeze_125 : decode (z_c m_Sp_squeeze) 125 = .ok (.return_, 1) := by decide +kernel
theorem d_Sp_squeeze_126 : decode (z_c m_Sp_squeeze) 126 = .ok (.aload_n 0, 1) := by decide +kernel
theorem d_Sp_squeeze_127 : decode (z_c m_Sp_squeeze) 127 = .ok (.getfield 21, 3) := by decide +kernel
theorem d_Sp_squeeze_130 : decode (z_c m_Sp_squeeze) 130 = .ok (.aload_n 0, 1) := by decide +kernel
theorem d_Sp_squeeze_131 : decode (z_c m_Sp_squeeze) 131 = .ok (.getfield 24, 3) := by decide +kernel
theorem d_Sp_squeeze_134 : decode (z_c m_Sp_squeeze) 134 = .ok (.aload_n 2, 1) := by decide +kernel
theorem d_Sp_squeeze_135 : decode (z_c m_Sp_squeeze) 135 = .ok (.getfield 30, 3) := by decide +kernel
theorem d_Sp_squeeze_138 : decode (z_c m_Sp_squeeze) 138 = .ok (.aload_n 2, 1) := by decide +kernel
theorem d_Sp_squeeze_139 : decode (z_c m_Sp_squeeze) 139 = .ok (.getfield 38, 3) := by decide +kernel
theorem d_Sp_squeeze_142 : decode (z_c m_Sp_squeeze) 142 = .ok (.invokestatic 44, 3) := by decide +kernel
theorem d_Sp_squeeze_145 : decode (z_c m_Sp_squeeze) 145 = .ok (.lstore 8, 2) := by decide +kernel
theorem d_Sp_squeeze_147 : decode (z_c m_Sp_squeeze) 147 = .ok (.aload_n 2, 1) := by decide +kernel
theorem d_Sp_squeeze_148 : decode (z_c m_Sp_squeeze) 148 = .ok (.getfield 30, 3) := by decide +kernel
theorem d_Sp_squeeze_151 : decode (z_c m_Sp_squeeze) 151 = .ok (.aload_n 2, 1) := by decide +kernel
theorem d_Sp_squeeze_152 : decode (z_c m_Sp_squeeze) 152 = .ok (.getfield 38, 3) := by decide +kernel
theorem d_Sp_squeeze_155 : decode (z_c m_Sp_squeeze) 155 = .ok (.aload_n 0, 1) := by decide +kernel
theorem d_Sp_squeeze_156 : decode (z_c m_Sp_squeeze) 156 = .ok (.getfield 14, 3) := by decide +kernel
theorem d_Sp_squeeze_159 : decode (z_c m_Sp_squeeze) 159 = .ok (.aload_n 0, 1) := by decide +kernel
theorem d_Sp_squeeze_160 : decode (z_c m_Sp_squeeze) 160 = .ok (.getfield 18, 3) := by decide +kernel
theorem d_Sp_squeeze_163 : decode (z_c m_Sp_squeeze) 163 = .ok (.invokestatic 44, 3) := by decide +kernel
theorem d_Sp_squeeze_166 : decode (z_c m_Sp_squeeze) 166 = .ok (.lstore 10, 2) := by decide +kernel
theorem d_Sp_squeeze_168 : decode (z_c m_Sp_squeeze) 168 = .ok (.lload 10, 2) := by decide +kernel
theorem d_Sp_squeeze_170 : decode (z_c m_Sp_squeeze) 170 = .ok (.lconst 0, 1) := by decide +kernel
theorem d_Sp_squeeze_171 : decode (z_c m_Sp_squeeze) 171 = .ok (.lcmp, 1) := by decide +kernel
theorem d_Sp_squeeze_172 : decode (z_c m_Sp_squeeze) 172 = .ok (.ifCond .le 43, 3) := by decide +kernel
theorem d_Sp_squeeze_175 : decode (z_c m_Sp_squeeze) 175 = .ok (.lload 8, 2) := by decide +kernel
theorem d_Sp_squeeze_177 : decode (z_c m_Sp_squeeze) 177 = .ok (.lload 10, 2) := by decide +kernel
theorem d_Sp_squeeze_179 : decode (z_c m_Sp_squeeze) 179 = .ok (.ldiv, 1) := by decide +kernel
theorem d_Sp_squeeze_180 : decode (z_c m_Sp_squeeze) 180 = .ok (.l2i, 1) := by decide +kernel
theorem d_Sp_squeeze_181 : decode (z_c m_Sp_squeeze) 181 = .ok (.istore 12, 2) := by decide +kernel
theorem d_Sp_squeeze_183 : decode (z_c m_Sp_squeeze) 183 = .ok (.aload_n 0, 1) := by decide +kernel
theorem d_Sp_squeeze_184 : decode (z_c m_Sp_squeeze) 184 = .ok (.dup, 1) := by decide +kernel
theorem d_Sp_squeeze_185 : decode (z_c m_Sp_squeeze) 185 = .ok (.getfield 21, 3) := by decide +kernel
theorem d_Sp_squeeze_188 : decode (z_c m_Sp_squeeze) 188 = .ok (.iload 12, 2) := by decide +kernel
theorem d_Sp_squeeze_190 : decode (z_c m_Sp_squeeze) 190 = .ok (.aload_n 0, 1) := by decide +kernel
theorem d_Sp_squeeze_191 : decode (z_c m_Sp_squeeze) 191 = .ok (.getfield 14, 3) := by decide +kernel
theorem d_Sp_squeeze_194 : decode (z_c m_Sp_squeeze) 194 = .ok (.imul, 1) := by decide +kernel
theorem d_Sp_squeeze_195 : decode (z_c m_Sp_squeeze) 195 = .ok (.iadd, 1) := by decide +kernel
theorem d_Sp_squeeze_196 : decode (z_c m_Sp_squeeze) 196 = .ok (.putfield 21, 3) := by decide +kernel
theorem d_Sp_squeeze_199 : decode (z_c m_Sp_squeeze) 199 = .ok (.aload_n 0, 1) := by decide +kernel
theorem d_Sp_squeeze_200 : decode (z_c m_Sp_squeeze) 200 = .ok (.dup, 1) := by decide +kernel
theorem d_Sp_squeeze_201 : decode (z_c m_Sp_squeeze) 201 = .ok (.getfield 24, 3) := by decide +kernel
theorem d_Sp_squeeze_204 : decode (z_c m_Sp_squeeze) 204 = .ok (.iload 12, 2) := by decide +kernel
theorem d_Sp_squeeze_206 : decode (z_c m_Sp_squeeze) 206 = .ok (.aload_n 0, 1) := by decide +kernel
theorem d_Sp_squeeze_207 : decode (z_c m_Sp_squeeze) 207 = .ok (.getfield 18, 3) := by decide +kernel
theorem d_Sp_squeeze_210 : decode (z_c m_Sp_squeeze) 210 = .ok (.imul, 1) := by decide +kernel
theorem d_Sp_squeeze_211 : decode (z_c m_Sp_squeeze) 211 = .ok (.iadd, 1) := by decide +kernel
theorem d_Sp_squeeze_212 : decode (z_c m_Sp_squeeze) 212 = .ok (.putfield 24, 3) := by decide +kernel
theorem d_Sp_squeeze_215 : decode (z_c m_Sp_squeeze) 215 = .ok (.aload_n 0, 1) := by decide +kernel
theorem d_Sp_squeeze_216 : decode (z_c m_Sp_squeeze) 216 = .ok (.invokevirtual 55, 3) := by decide +kernel
theorem d_Sp_squeeze_219 : decode (z_c m_Sp_squeeze) 219 = .ok (.aload_n 0, 1) := by decide +kernel
theorem d_Sp_squeeze_220 : decode (z_c m_Sp_squeeze) 220 = .ok (.invokevirtual 52, 3) := by decide +kernel
theorem d_Sp_squeeze_223 : decode (z_c m_Sp_squeeze) 223 = .ok (.aload_n 1, 1) := by decide +kernel
theorem d_Sp_squeeze_224 : decode (z_c m_Sp_squeeze) 224 = .ok (.getfield 30, 3) := by decide +kernel
theorem d_Sp_squeeze_227 : decode (z_c m_Sp_squeeze) 227 = .ok (.aload_n 1, 1) := by decide +kernel
theorem d_Sp_squeeze_228 : decode (z_c m_Sp_squeeze) 228 = .ok (.getfield 38, 3) := by decide +kernel
theorem d_Sp_squeeze_231 : decode (z_c m_Sp_squeeze) 231 = .ok (.invokestatic 44, 3) := by decide +kernel
theorem d_Sp_squeeze_234 : decode (z_c m_Sp_squeeze) 234 = .ok (.lconst 0, 1) := by decide +kernel
theorem d_Sp_squeeze_235 : decode (z_c m_Sp_squeeze) 235 = .ok (.lcmp, 1) := by decide +kernel
theorem d_Sp_squeeze_236 : decode (z_c m_Sp_squeeze) 236 = .ok (.ifCond .le 4, 3) := by decide +kernel
theorem d_Sp_squeeze_239 : decode (z_c m_Sp_squeeze) 239 = .ok (.return_, 1) := by decide +kernel
theorem d_Sp_squeeze_240 : decode (z_c m_Sp_squeeze) 240 = .ok (.iinc 3 1, 3) := by decide +kernel
theorem d_Sp_squeeze_243 : decode (z_c m_Sp_squeeze) 243 = .ok (.goto (-237), 3) := by decide +kernel
theorem d_Sp_squeeze_246 : decode (z_c m_Sp_squeeze) 246 = .ok (.return_, 1) := by decide +kernel
abbrev L_Sp_squeeze_6 (X : z_X) (N : Nat) (σ : z_G) (x3 : Int) (o p1 p2 : Nat) (g : z_G) (Q : z_P) : Prop := z_U X 2 m_Sp_squeeze 6 [(0, (2, ((o : Nat) : Int))), (1, (2, ((p1 : Nat) : Int))), (2, (2, ((p2 : Nat) : Int))), (3, (0, x3))] [] N σ g Q
set_option maxRecDepth 8000 in
theorem b_Sp_squeeze_0 {X : z_X} {N : Nat} {σ g : z_G} {Q : z_P} {o p1 p2 : Nat} (ho : z_lay X N σ o z_SSp z_RSp) (hp1 : z_lay X N σ p1 z_SCh z_RCh) (hp2 : z_lay X N σ p2 z_SCh z_RCh) (h : z_O X 1 m_Sp_toRoot [(2, ((o : Nat) : Int))] N σ g (fun r0 g0 => L_Sp_squeeze_6 X N σ 0 o p1 p2 g0 Q)) : z_O X 2 m_Sp_squeeze [(2, ((o : Nat) : Int)), (2, ((p1 : Nat) : Int)), (2, ((p2 : Nat) : Int))] N σ g Q := by
  refine z_Oenter mi_Sp_squeeze rfl (fun _ => ?_)
  show z_U X 2 m_Sp_squeeze 0 [(0, (2, ((o : Nat) : Int))), (1, (2, ((p1 : Nat) : Int))), (2, (2, ((p2 : Nat) : Int)))] [] N σ g Q
  refine z_aload_n (i := 0) (c := o) 0 d_Sp_squeeze_0 rfl rfl rfl ?_
  refine z_cV (c := o) (as := []) (d' := 1) (st := []) d_Sp_squeeze_1 mi_Sp_toRoot ml_Sp_9 mv_Sp_toRoot se_Sp_toRoot rfl rfl rfl rfl (ks_Sp_0 ho) rfl rfl (kl_Sp_0 ho) rfl rfl (z_Omono h (fun r0 g0 _ h hro => ?_))
  show z_U X 2 m_Sp_squeeze 4 [(0, (2, ((o : Nat) : Int))), (1, (2, ((p1 : Nat) : Int))), (2, (2, ((p2 : Nat) : Int)))] [] N σ g0 Q
  refine z_iconst (n := 0) d_Sp_squeeze_4 (by decide) ?_
  refine z_istore_n (i := 3) (ls' := [(3, (0, 0)), (0, (2, ((o : Nat) : Int))), (1, (2, ((p1 : Nat) : Int))), (2, (2, ((p2 : Nat) : Int)))]) d_Sp_squeeze_5 rfl rfl rfl ?_
  refine z_sub (ls' := [(0, (2, ((o : Nat) : Int))), (1, (2, ((p1 : Nat) : Int))), (2, (2, ((p2 : Nat) : Int))), (3, (0, 0))]) [1, 2, 3, 0] rfl ?_
  exact h
set_option maxRecDepth 8000 in
theorem b_Sp_squeeze_6 {X : z_X} {N : Nat} {σ g : z_G} {Q : z_P} {x3 : Int} {o p1 p2 : Nat} (ho : z_lay X N σ o z_SSp z_RSp) (hp1 : z_lay X N σ p1 z_SCh z_RCh) (hp2 : z_lay X N σ p2 z_SCh z_RCh) (h : ((100 ≤ x3) → Q 0 g) ∧ (¬ (100 ≤ x3) → ((-9223372036854775808 ≤ ((g p1 3) * (g o 1)) ∧ ((g p1 3) * (g o 1)) ≤ 9223372036854775807) ∧ ((-9223372036854775808 ≤ ((g o 0) * (g p1 4)) ∧ ((g o 0) * (g p1 4)) ≤ 9223372036854775807) ∧ ((-9223372036854775808 ≤ (((g p1 3) * (g o 1)) - ((g o 0) * (g p1 4))) ∧ (((g p1 3) * (g o 1)) - ((g o 0) * (g p1 4))) ≤ 9223372036854775807) ∧ ((-9223372036854775808 ≤ ((g o 2) * (g p1 4)) ∧ ((g o 2) * (g p1 4)) ≤ 9223372036854775807) ∧ ((-9223372036854775808 ≤ ((g p1 3) * (g o 3)) ∧ ((g p1 3) * (g o 3)) ≤ 9223372036854775807) ∧ ((-9223372036854775808 ≤ (((g o 2) * (g p1 4)) - ((g p1 3) * (g o 3))) ∧ (((g o 2) * (g p1 4)) - ((g p1 3) * (g o 3))) ≤ 9223372036854775807) ∧ ((((((g o 2) * (g p1 4)) - ((g p1 3) * (g o 3))) ≤ 0) → ((-2147483648 ≤ ((g o 0) + (g o 2)) ∧ ((g o 0) + (g o 2)) ≤ 2147483647) ∧ ((-2147483648 ≤ ((g o 1) + (g o 3)) ∧ ((g o 1) + (g o 3)) ≤ 2147483647) ∧ ((-9223372036854775808 ≤ (((g o 0) + (g o 2)) * (g p2 4)) ∧ (((g o 0) + (g o 2)) * (g p2 4)) ≤ 9223372036854775807) ∧ ((-9223372036854775808 ≤ ((g p2 3) * ((g o 1) + (g o 3))) ∧ ((g p2 3) * ((g o 1) + (g o 3))) ≤ 9223372036854775807) ∧ ((-9223372036854775808 ≤ ((((g o 0) + (g o 2)) * (g p2 4)) - ((g p2 3) * ((g o 1) + (g o 3)))) ∧ ((((g o 0) + (g o 2)) * (g p2 4)) - ((g p2 3) * ((g o 1) + (g o 3)))) ≤ 9223372036854775807) ∧ (((0 ≤ ((((g o 0) + (g o 2)) * (g p2 4)) - ((g p2 3) * ((g o 1) + (g o 3))))) → ((-9223372036854775808 ≤ ((g o 2) * (g p2 4)) ∧ ((g o 2) * (g p2 4)) ≤ 9223372036854775807) ∧ ((-9223372036854775808 ≤ ((g p2 3) * (g o 3)) ∧ ((g p2 3) * (g o 3)) ≤ 9223372036854775807) ∧ ((-9223372036854775808 ≤ (((g o 2) * (g p2 4)) - ((g p2 3) * (g o 3))) ∧ (((g o 2) * (g p2 4)) - ((g p2 3) * (g o 3))) ≤ 9223372036854775807) ∧ ((-9223372036854775808 ≤ ((g p2 3) * (g o 1)) ∧ ((g p2 3) * (g o 1)) ≤ 9223372036854775807) ∧ ((-9223372036854775808 ≤ ((g o 0) * (g p2 4)) ∧ ((g o 0) * (g p2 4)) ≤ 9223372036854775807) ∧ ((-9223372036854775808 ≤ (((g p2 3) * (g o 1)) - ((g o 0) * (g p2 4))) ∧ (((g p2 3) * (g o 1)) - ((g o 0) * (g p2 4))) ≤ 9223372036854775807) ∧ ((((((g p2 3) * (g o 1)) - ((g o 0) * (g p2 4))) ≤ 0) → ((-9223372036854775808 ≤ (((g o 0) + (g o 2)) * (g p1 4)) ∧ (((g o 0) + (g o 2)) * (g p1 4)) ≤ 9223372036854775807) ∧ ((-9223372036854775808 ≤ ((g p1 3) * ((g o 1) + (g o 3))) ∧ ((g p1 3) * ((g o 1) + (g o 3))) ≤ 9223372036854775807) ∧ ((-9223372036854775808 ≤ ((((g o 0) + (g o 2)) * (g p1 4)) - ((g p1 3) * ((g o 1) + (g o 3)))) ∧ ((((g o 0) + (g o 2)) * (g p1 4)) - ((g p1 3) * ((g o 1) + (g o 3)))) ≤ 9223372036854775807) ∧ (((((((g o 0) + (g o 2)) * (g p1 4)) - ((g p1 3) * ((g o 1) + (g o 3)))) ≤ 0) → ((-2147483648 ≤ (x3 + 1) ∧ (x3 + 1) ≤ 2147483647) ∧ L_Sp_squeeze_6 X N σ (x3 + 1) o p1 p2 g Q)) ∧ (¬ (((((g o 0) + (g o 2)) * (g p1 4)) - ((g p1 3) * ((g o 1) + (g o 3)))) ≤ 0) → Q 0 g)))))) ∧ (¬ ((((g p2 3) * (g o 1)) - ((g o 0) * (g p2 4))) ≤ 0) → ((0 < (((g p2 3) * (g o 1)) - ((g o 0) * (g p2 4)))) ∧ ((-2147483648 ≤ (Int.tdiv (((g o 2) * (g p2 4)) - ((g p2 3) * (g o 3))) (((g p2 3) * (g o 1)) - ((g o 0) * (g p2 4)))) ∧ (Int.tdiv (((g o 2) * (g p2 4)) - ((g p2 3) * (g o 3))) (((g p2 3) * (g o 1)) - ((g o 0) * (g p2 4)))) ≤ 2147483647) ∧ ((-2147483648 ≤ ((Int.tdiv (((g o 2) * (g p2 4)) - ((g p2 3) * (g o 3))) (((g p2 3) * (g o 1)) - ((g o 0) * (g p2 4)))) * (g o 0)) ∧ ((Int.tdiv (((g o 2) * (g p2 4)) - ((g p2 3) * (g o 3))) (((g p2 3) * (g o 1)) - ((g o 0) * (g p2 4)))) * (g o 0)) ≤ 2147483647) ∧ ((-2147483648 ≤ ((g o 2) + ((Int.tdiv (((g o 2) * (g p2 4)) - ((g p2 3) * (g o 3))) (((g p2 3) * (g o 1)) - ((g o 0) * (g p2 4)))) * (g o 0))) ∧ ((g o 2) + ((Int.tdiv (((g o 2) * (g p2 4)) - ((g p2 3) * (g o 3))) (((g p2 3) * (g o 1)) - ((g o 0) * (g p2 4)))) * (g o 0))) ≤ 2147483647) ∧ ((-2147483648 ≤ ((Int.tdiv (((g o 2) * (g p2 4)) - ((g p2 3) * (g o 3))) (((g p2 3) * (g o 1)) - ((g o 0) * (g p2 4)))) * (g o 1)) ∧ ((Int.tdiv (((g o 2) * (g p2 4)) - ((g p2 3) * (g o 3))) (((g p2 3) * (g o 1)) - ((g o 0) * (g p2 4)))) * (g o 1)) ≤ 2147483647) ∧ ((-2147483648 ≤ ((g o 3) + ((Int.tdiv (((g o 2) * (g p2 4)) - ((g p2 3) * (g o 3))) (((g p2 3) * (g o 1)) - ((g o 0) * (g p2 4)))) * (g o 1))) ∧ ((g o 3) + ((Int.tdiv (((g o 2) * (g p2 4)) - ((g p2 3) * (g o 3))) (((g p2 3) * (g o 1)) - ((g o 0) * (g p2 4)))) * (g o 1))) ≤ 2147483647) ∧ ((-2147483648 ≤ (((z_up (z_up g o 2 ((g o 2) + ((Int.tdiv (((g o 2) * (g p2 4)) - ((g p2 3) * (g o 3))) (((g p2 3) * (g o 1)) - ((g o 0) * (g p2 4)))) * (g o 0)))) o 3 ((g o 3) + ((Int.tdiv (((g o 2) * (g p2 4)) - ((g p2 3) * (g o 3))) (((g p2 3) * (g o 1)) - ((g o 0) * (g p2 4)))) * (g o 1)))) o 0) + ((z_up (z_up g o 2 ((g o 2) + ((Int.tdiv (((g o 2) * (g p2 4)) - ((g p2 3) * (g o 3))) (((g p2 3) * (g o 1)) - ((g o 0) * (g p2 4)))) * (g o 0)))) o 3 ((g o 3) + ((Int.tdiv (((g o 2) * (g p2 4)) - ((g p2 3) * (g o 3))) (((g p2 3) * (g o 1)) - ((g o 0) * (g p2 4)))) * (g o 1)))) o 2)) ∧ (((z_up (z_up g o 2 ((g o 2) + ((Int.tdiv (((g o 2) * (g p2 4)) - ((g p2 3) * (g o 3))) (((g p2 3) * (g o 1)) - ((g o 0) * (g p2 4)))) * (g o 0)))) o 3 ((g o 3) + ((Int.tdiv (((g o 2) * (g p2 4)) - ((g p2 3) * (g o 3))) (((g p2 3) * (g o 1)) - ((g o 0) * (g p2 4)))) * (g o 1)))) o 0) + ((z_up (z_up g o 2 ((g o 2) + ((Int.tdiv (((g o 2) * (g p2 4)) - ((g p2 3) * (g o 3))) (((g p2 3) * (g o 1)) - ((g o 0) * (g p2 4)))) * (g o 0)))) o 3 ((g o 3) + ((Int.tdiv (((g o 2) * (g p2 4)) - ((g p2 3) * (g o 3))) (((g p2 3) * (g o 1)) - ((g o 0) * (g p2 4)))) * (g o 1)))) o 2)) ≤ 2147483647) ∧ ((-2147483648 ≤ (((z_up (z_up g o 2 ((g o 2) + ((Int.tdiv (((g o 2) * (g p2 4)) - ((g p2 3) * (g o 3))) (((g p2 3) * (g o 1)) - ((g o 0) * (g p2 4)))) * (g o 0)))) o 3 ((g o 3) + ((Int.tdiv (((g o 2) * (g p2 4)) - ((g p2 3) * (g o 3))) (((g p2 3) * (g o 1)) - ((g o 0) * (g p2 4)))) * (g o 1)))) o 1) + ((z_up (z_up g o 2 ((g o 2) + ((Int.tdiv (((g o 2) * (g p2 4)) - ((g p2 3) * (g o 3))) (((g p2 3) * (g o 1)) - ((g o 0) * (g p2 4)))) * (g o 0)))) o 3 ((g o 3) + ((Int.tdiv (((g o 2) * (g p2 4)) - ((g p2 3) * (g o 3))) (((g p2 3) * (g o 1)) - ((g o 0) * (g p2 4)))) * (g o 1)))) o 3)) ∧ (((z_up (z_up g o 2 ((g o 2) + ((Int.tdiv (((g o 2) * (g p2 4)) - ((g p2 3) * (g o 3))) (((g p2 3) * (g o 1)) - ((g o 0) * (g p2 4)))) * (g o 0)))) o 3 ((g o 3) + ((Int.tdiv (((g o 2) * (g p2 4)) - ((g p2 3) * (g o 3))) (((g p2 3) * (g o 1)) - ((g o 0) * (g p2 4)))) * (g o 1)))) o 1) + ((z_up (z_up g o 2 ((g o 2) + ((Int.tdiv (((g o 2) * (g p2 4)) - ((g p2 3) * (g o 3))) (((g p2 3) * (g o 1)) - ((g o 0) * (g p2 4)))) * (g o 0)))) o 3 ((g o 3) + ((Int.tdiv (((g o 2) * (g p2 4)) - ((g p2 3) * (g o 3))) (((g p2 3) * (g o 1)) - ((g o 0) * (g p2 4)))) * (g o 1)))) o 3)) ≤ 2147483647) ∧ ((-9223372036854775808 ≤ ((((z_up (z_up g o 2 ((g o 2) + ((Int.tdiv (((g o 2) * (g p2 4)) - ((g p2 3) * (g o 3))) (((g p2 3) * (g o 1)) - ((g o 0) * (g p2 4)))) * (g o 0)))) o 3 ((g o 3) + ((Int.tdiv (((g o 2) * (g p2 4)) - ((g p2 3) * (g o 3))) (((g p2 3) * (g o 1)) - ((g o 0) * (g p2 4)))) * (g o 1)))) o 0) + ((z_up (z_up g o 2 ((g o 2) + ((Int.tdiv (((g o 2) * (g p2 4)) - ((g p2 3) * (g o 3))) (((g p2 3) * (g o 1)) - ((g o 0) * (g p2 4)))) * (g o 0)))) o 3 ((g o 3) + ((Int.tdiv (((g o 2) * (g p2 4)) - ((g p2 3) * (g o 3))) (((g p2 3) * (g o 1)) - ((g o 0) * (g p2 4)))) * (g o 1)))) o 2)) * ((z_up (z_up g o 2 ((g o 2) + ((Int.tdiv (((g o 2) * (g p2 4)) - ((g p2 3) * (g o 3))) (((g p2 3) * (g o 1)) - ((g o 0) * (g p2 4)))) * (g o 0)))) o 3 ((g o 3) + ((Int.tdiv (((g o 2) * (g p2 4)) - ((g p2 3) * (g o 3))) (((g p2 3) * (g o 1)) - ((g o 0) * (g p2 4)))) * (g o 1)))) p1 4)) ∧ ((((z_up (z_up g o 2 ((g o 2) + ((Int.tdiv (((g o 2) * (g p2 4)) - ((g p2 3) * (g o 3))) (((g p2 3) * (g o 1)) - ((g o 0) * (g p2 4)))) * (g o 0)))) o 3 ((g o 3) + ((Int.tdiv (((g o 2) * (g p2 4)) - ((g p2 3) * (g o 3))) (((g p2 3) * (g o 1)) - ((g o 0) * (g p2 4)))) * (g o 1)))) o 0) + ((z_up (z_up g o 2 ((g o 2) + ((Int.tdiv (((g o 2) * (g p2 4)) - ((g p2 3) * (g o 3))) (((g p2 3) * (g o 1)) - ((g o 0) * (g p2 4)))) * (g o 0)))) o 3 ((g o 3) + ((Int.tdiv (((g o 2) * (g p2 4)) - ((g p2 3) * (g o 3))) (((g p2 3) * (g o 1)) - ((g o 0) * (g p2 4)))) * (g o 1)))) o 2)) * ((z_up (z_up g o 2 ((g o 2) + ((Int.tdiv (((g o 2) * (g p2 4)) - ((g p2 3) * (g o 3))) (((g p2 3) * (g o 1)) - ((g o 0) * (g p2 4)))) * (g o 0)))) o 3 ((g o 3) + ((Int.tdiv (((g o 2) * (g p2 4)) - ((g p2 3) * (g o 3))) (((g p2 3) * (g o 1)) - ((g o 0) * (g p2 4)))) * (g o 1)))) p1 4)) ≤ 9223372036854775807) ∧ ((-9223372036854775808 ≤ (((z_up (z_up g o 2 ((g o 2) + ((Int.tdiv (((g o 2) * (g p2 4)) - ((g p2 3) * (g o 3))) (((g p2 3) * (g o 1)) - ((g o 0) * (g p2 4)))) * (g o 0)))) o 3 ((g o 3) + ((Int.tdiv (((g o 2) * (g p2 4)) - ((g p2 3) * (g o 3))) (((g p2 3) * (g o 1)) - ((g o 0) * (g p2 4)))) * (g o 1)))) p1 3) * (((z_up (z_up g o 2 ((g o 2) + ((Int.tdiv (((g o 2) * (g p2 4)) - ((g p2 3) * (g o 3))) (((g p2 3) * (g o 1)) - ((g o 0) * (g p2 4)))) * (g o 0)))) o 3 ((g o 3) + ((Int.tdiv (((g o 2) * (g p2 4)) - ((g p2 3) * (g o 3))) (((g p2 3) * (g o 1)) - ((g o 0) * (g p2 4)))) * (g o 1)))) o 1) + ((z_up (z_up g o 2 ((g o 2) + ((Int.tdiv (((g o 2) * (g p2 4)) - ((g p2 3) * (g o 3))) (((g p2 3) * (g o 1)) - ((g o 0) * (g p2 4)))) * (g o 0)))) o 3 ((g o 3) + ((Int.tdiv (((g o 2) * (g p2 4)) - ((g p2 3) * (g o 3))) (((g p2 3) * (g o 1)) - ((g o 0) * (g p2 4)))) * (g o 1)))) o 3))) ∧ (((z_up (z_up g o 2 ((g o 2) + ((Int.tdiv (((g o 2) * (g p2 4)) - ((g p2 3) * (g o 3))) (((g p2 3) * (g o 1)) - ((g o 0) * (g p2 4)))) * (g o 0)))) o 3 ((g o 3) + ((Int.tdiv (((g o 2) * (g p2 4)) - ((g p2 3) * (g o 3))) (((g p2 3) * (g o 1)) - ((g o 0) * (g p2 4)))) * (g o 1)))) p1 3) * (((z_up (z_up g o 2 ((g o 2) + ((Int.tdiv (((g o 2) * (g p2 4)) - ((g p2 3) * (g o 3))) (((g p2 3) * (g o 1)) - ((g o 0) * (g p2 4)))) * (g o 0)))) o 3 ((g o 3) + ((Int.tdiv (((g o 2) * (g p2 4)) - ((g p2 3) * (g o 3))) (((g p2 3) * (g o 1)) - ((g o 0) * (g p2 4)))) * (g o 1)))) o 1) + ((z_up (z_up g o 2 ((g o 2) + ((Int.tdiv (((g o 2) * (g p2 4)) - ((g p2 3) * (g o 3))) (((g p2 3) * (g o 1)) - ((g o 0) * (g p2 4)))) * (g o 0)))) o 3 ((g o 3) + ((Int.tdiv (((g o 2) * (g p2 4)) - ((g p2 3) * (g o 3))) (((g p2 3) * (g o 1)) - ((g o 0) * (g p2 4)))) * (g o 1)))) o 3))) ≤ 9223372036854775807) ∧ ((-9223372036854775808 ≤ (((((z_up (z_up g o 2 ((g o 2) + ((Int.tdiv (((g o 2) * (g p2 4)) - ((g p2 3) * (g o 3))) (((g p2 3) * (g o 1)) - ((g o 0) * (g p2 4)))) * (g o 0)))) o 3 ((g o 3) + ((Int.tdiv (((g o 2) * (g p2 4)) - ((g p2 3) * (g o 3))) (((g p2 3) * (g o 1)) - ((g o 0) * (g p2 4)))) * (g o 1)))) o 0) + ((z_up (z_up g o 2 ((g o 2) + ((Int.tdiv (((g o 2) * (g p2 4)) - ((g p2 3) * (g o 3))) (((g p2 3) * (g o 1)) - ((g o 0) * (g p2 4)))) * (g o 0)))) o 3 ((g o 3) + ((Int.tdiv (((g o 2) * (g p2 4)) - ((g p2 3) * (g o 3))) (((g p2 3) * (g o 1)) - ((g o 0) * (g p2 4)))) * (g o 1)))) o 2)) * ((z_up (z_up g o 2 ((g o 2) + ((Int.tdiv (((g o 2) * (g p2 4)) - ((g p2 3) * (g o 3))) (((g p2 3) * (g o 1)) - ((g o 0) * (g p2 4)))) * (g o 0)))) o 3 ((g o 3) + ((Int.tdiv (((g o 2) * (g p2 4)) - ((g p2 3) * (g o 3))) (((g p2 3) * (g o 1)) - ((g o 0) * (g p2 4)))) * (g o 1)))) p1 4)) - (((z_up (z_up g o 2 ((g o 2) + ((Int.tdiv (((g o 2) * (g p2 4)) - ((g p2 3) * (g o 3))) (((g p2 3) * (g o 1)) - ((g o 0) * (g p2 4)))) * (g o 0)))) o 3 ((g o 3) + ((Int.tdiv (((g o 2) * (g p2 4)) - ((g p2 3) * (g o 3))) (((g p2 3) * (g o 1)) - ((g o 0) * (g p2 4)))) * (g o 1)))) p1 3) * (((z_up (z_up g o 2 ((g o 2) + ((Int.tdiv (((g o 2) * (g p2 4)) - ((g p2 3) * (g o 3))) (((g p2 3) * (g o 1)) - ((g o 0) * (g p2 4)))) * (g o 0)))) o 3 ((g o 3) + ((Int.tdiv (((g o 2) * (g p2 4)) - ((g p2 3) * (g o 3))) (((g p2 3) * (g o 1)) - ((g o 0) * (g p2 4)))) * (g o 1)))) o 1) + ((z_up (z_up g o 2 ((g o 2) + ((Int.tdiv (((g o 2) * (g p2 4)) - ((g p2 3) * (g o 3))) (((g p2 3) * (g o 1)) - ((g o 0) * (g p2 4)))) * (g o 0)))) o 3 ((g o 3) + ((Int.tdiv (((g o 2) * (g p2 4)) - ((g p2 3) * (g o 3))) (((g p2 3) * (g o 1)) - ((g o 0) * (g p2 4)))) * (g o 1)))) o 3)))) ∧ (((((z_up (z_up g o 2 ((g o 2) + ((Int.tdiv (((g o 2) * (g p2 4)) - ((g p2 3) * (g o 3))) (((g p2 3) * (g o 1)) - ((g o 0) * (g p2 4)))) * (g o 0)))) o 3 ((g o 3) + ((Int.tdiv (((g o 2) * (g p2 4)) - ((g p2 3) * (g o 3))) (((g p2 3) * (g o 1)) - ((g o 0) * (g p2 4)))) * (g o 1)))) o 0) + ((z_up (z_up g o 2 ((g o 2) + ((Int.tdiv (((g o 2) * (g p2 4)) - ((g p2 3) * (g o 3))) (((g p2 3) * (g o 1)) - ((g o 0) * (g p2 4)))) * (g o 0)))) o 3 ((g o 3) + ((Int.tdiv (((g o 2) * (g p2 4)) - ((g p2 3) * (g o 3))) (((g p2 3) * (g o 1)) - ((g o 0) * (g p2 4)))) * (g o 1)))) o 2)) * ((z_up (z_up g o 2 ((g o 2) + ((Int.tdiv (((g o 2) * (g p2 4)) - ((g p2 3) * (g o 3))) (((g p2 3) * (g o 1)) - ((g o 0) * (g p2 4)))) * (g o 0)))) o 3 ((g o 3) + ((Int.tdiv (((g o 2) * (g p2 4)) - ((g p2 3) * (g o 3))) (((g p2 3) * (g o 1)) - ((g o 0) * (g p2 4)))) * (g o 1)))) p1 4)) - (((z_up (z_up g o 2 ((g o 2) + ((Int.tdiv (((g o 2) * (g p2 4)) - ((g p2 3) * (g o 3))) (((g p2 3) * (g o 1)) - ((g o 0) * (g p2 4)))) * (g o 0)))) o 3 ((g o 3) + ((Int.tdiv (((g o 2) * (g p2 4)) - ((g p2 3) * (g o 3))) (((g p2 3) * (g o 1)) - ((g o 0) * (g p2 4)))) * (g o 1)))) p1 3) * (((z_up (z_up g o 2 ((g o 2) + ((Int.tdiv (((g o 2) * (g p2 4)) - ((g p2 3) * (g o 3))) (((g p2 3) * (g o 1)) - ((g o 0) * (g p2 4)))) * (g o 0)))) o 3 ((g o 3) + ((Int.tdiv (((g o 2) * (g p2 4)) - ((g p2 3) * (g o 3))) (((g p2 3) * (g o 1)) - ((g o 0) * (g p2 4)))) * (g o 1)))) o 1) + ((z_up (z_up g o 2 ((g o 2) + ((Int.tdiv (((g o 2) * (g p2 4)) - ((g p2 3) * (g o 3))) (((g p2 3) * (g o 1)) - ((g o 0) * (g p2 4)))) * (g o 0)))) o 3 ((g o 3) + ((Int.tdiv (((g o 2) * (g p2 4)) - ((g p2 3) * (g o 3))) (((g p2 3) * (g o 1)) - ((g o 0) * (g p2 4)))) * (g o 1)))) o 3)))) ≤ 9223372036854775807) ∧ ((((((((z_up (z_up g o 2 ((g o 2) + ((Int.tdiv (((g o 2) * (g p2 4)) - ((g p2 3) * (g o 3))) (((g p2 3) * (g o 1)) - ((g o 0) * (g p2 4)))) * (g o 0)))) o 3 ((g o 3) + ((Int.tdiv (((g o 2) * (g p2 4)) - ((g p2 3) * (g o 3))) (((g p2 3) * (g o 1)) - ((g o 0) * (g p2 4)))) * (g o 1)))) o 0) + ((z_up (z_up g o 2 ((g o 2) + ((Int.tdiv (((g o 2) * (g p2 4)) - ((g p2 3) * (g o 3))) (((g p2 3) * (g o 1)) - ((g o 0) * (g p2 4)))) * (g o 0)))) o 3 ((g o 3) + ((Int.tdiv (((g o 2) * (g p2 4)) - ((g p2 3) * (g o 3))) (((g p2 3) * (g o 1)) - ((g o 0) * (g p2 4)))) * (g o 1)))) o 2)) * ((z_up (z_up g o 2 ((g o 2) + ((Int.tdiv (((g o 2) * (g p2 4)) - ((g p2 3) * (g o 3))) (((g p2 3) * (g o 1)) - ((g o 0) * (g p2 4)))) * (g o 0)))) o 3 ((g o 3) + ((Int.tdiv (((g o 2) * (g p2 4)) - ((g p2 3) * (g o 3))) (((g p2 3) * (g o 1)) - ((g o 0) * (g p2 4)))) * (g o 1)))) p1 4)) - (((z_up (z_up g o 2 ((g o 2) + ((Int.tdiv (((g o 2) * (g p2 4)) - ((g p2 3) * (g o 3))) (((g p2 3) * (g o 1)) - ((g o 0) * (g p2 4)))) * (g o 0)))) o 3 ((g o 3) + ((Int.tdiv (((g o 2) * (g p2 4)) - ((g p2 3) * (g o 3))) (((g p2 3) * (g o 1)) - ((g o 0) * (g p2 4)))) * (g o 1)))) p1 3) * (((z_up (z_up g o 2 ((g o 2) + ((Int.tdiv (((g o 2) * (g p2 4)) - ((g p2 3) * (g o 3))) (((g p2 3) * (g o 1)) - ((g o 0) * (g p2 4)))) * (g o 0)))) o 3 ((g o 3) + ((Int.tdiv (((g o 2) * (g p2 4)) - ((g p2 3) * (g o 3))) (((g p2 3) * (g o 1)) - ((g o 0) * (g p2 4)))) * (g o 1)))) o 1) + ((z_up (z_up g o 2 ((g o 2) + ((Int.tdiv (((g o 2) * (g p2 4)) - ((g p2 3) * (g o 3))) (((g p2 3) * (g o 1)) - ((g o 0) * (g p2 4)))) * (g o 0)))) o 3 ((g o 3) + ((Int.tdiv (((g o 2) * (g p2 4)) - ((g p2 3) * (g o 3))) (((g p2 3) * (g o 1)) - ((g o 0) * (g p2 4)))) * (g o 1)))) o 3)))) ≤ 0) → ((-2147483648 ≤ (x3 + 1) ∧ (x3 + 1) ≤ 2147483647) ∧ L_Sp_squeeze_6 X N σ (x3 + 1) o p1 p2 (z_up (z_up g o 2 ((g o 2) + ((Int.tdiv (((g o 2) * (g p2 4)) - ((g p2 3) * (g o 3))) (((g p2 3) * (g o 1)) - ((g o 0) * (g p2 4)))) * (g o 0)))) o 3 ((g o 3) + ((Int.tdiv (((g o 2) * (g p2 4)) - ((g p2 3) * (g o 3))) (((g p2 3) * (g o 1)) - ((g o 0) * (g p2 4)))) * (g o 1)))) Q)) ∧ (¬ ((((((z_up (z_up g o 2 ((g o 2) + ((Int.tdiv (((g o 2) * (g p2 4)) - ((g p2 3) * (g o 3))) (((g p2 3) * (g o 1)) - ((g o 0) * (g p2 4)))) * (g o 0)))) o 3 ((g o 3) + ((Int.tdiv (((g o 2) * (g p2 4)) - ((g p2 3) * (g o 3))) (((g p2 3) * (g o 1)) - ((g o 0) * (g p2 4)))) * (g o 1)))) o 0) + ((z_up (z_up g o 2 ((g o 2) + ((Int.tdiv (((g o 2) * (g p2 4)) - ((g p2 3) * (g o 3))) (((g p2 3) * (g o 1)) - ((g o 0) * (g p2 4)))) * (g o 0)))) o 3 ((g o 3) + ((Int.tdiv (((g o 2) * (g p2 4)) - ((g p2 3) * (g o 3))) (((g p2 3) * (g o 1)) - ((g o 0) * (g p2 4)))) * (g o 1)))) o 2)) * ((z_up (z_up g o 2 ((g o 2) + ((Int.tdiv (((g o 2) * (g p2 4)) - ((g p2 3) * (g o 3))) (((g p2 3) * (g o 1)) - ((g o 0) * (g p2 4)))) * (g o 0)))) o 3 ((g o 3) + ((Int.tdiv (((g o 2) * (g p2 4)) - ((g p2 3) * (g o 3))) (((g p2 3) * (g o 1)) - ((g o 0) * (g p2 4)))) * (g o 1)))) p1 4)) - (((z_up (z_up g o 2 ((g o 2) + ((Int.tdiv (((g o 2) * (g p2 4)) - ((g p2 3) * (g o 3))) (((g p2 3) * (g o 1)) - ((g o 0) * (g p2 4)))) * (g o 0)))) o 3 ((g o 3) + ((Int.tdiv (((g o 2) * (g p2 4)) - ((g p2 3) * (g o 3))) (((g p2 3) * (g o 1)) - ((g o 0) * (g p2 4)))) * (g o 1)))) p1 3) * (((z_up (z_up g o 2 ((g o 2) + ((Int.tdiv (((g o 2) * (g p2 4)) - ((g p2 3) * (g o 3))) (((g p2 3) * (g o 1)) - ((g o 0) * (g p2 4)))) * (g o 0)))) o 3 ((g o 3) + ((Int.tdiv (((g o 2) * (g p2 4)) - ((g p2 3) * (g o 3))) (((g p2 3) * (g o 1)) - ((g o 0) * (g p2 4)))) * (g o 1)))) o 1) + ((z_up (z_up g o 2 ((g o 2) + ((Int.tdiv (((g o 2) * (g p2 4)) - ((g p2 3) * (g o 3))) (((g p2 3) * (g o 1)) - ((g o 0) * (g p2 4)))) * (g o 0)))) o 3 ((g o 3) + ((Int.tdiv (((g o 2) * (g p2 4)) - ((g p2 3) * (g o 3))) (((g p2 3) * (g o 1)) - ((g o 0) * (g p2 4)))) * (g o 1)))) o 3)))) ≤ 0) → Q 0 (z_up (z_up g o 2 ((g o 2) + ((Int.tdiv (((g o 2) * (g p2 4)) - ((g p2 3) * (g o 3))) (((g p2 3) * (g o 1)) - ((g o 0) * (g p2 4)))) * (g o 0)))) o 3 ((g o 3) + ((Int.tdiv (((g o 2) * (g p2 4)) - ((g p2 3) * (g o 3))) (((g p2 3) * (g o 1)) - ((g o 0) * (g p2 4)))) * (g o 1)))))))))))))))))))))))))) ∧ (¬ (0 ≤ ((((g o 0) + (g o 2)) * (g p2 4)) - ((g p2 3) * ((g o 1) + (g o 3))))) → Q 0 g)))))))) ∧ (¬ ((((g o 2) * (g p1 4)) - ((g p1 3) * (g o 3))) ≤ 0) → ((0 < (((g o 2) * (g p1 4)) - ((g p1 3) * (g o 3)))) ∧ ((-2147483648 ≤ (Int.tdiv (((g p1 3) * (g o 1)) - ((g o 0) * (g p1 4))) (((g o 2) * (g p1 4)) - ((g p1 3) * (g o 3)))) ∧ (Int.tdiv (((g p1 3) * (g o 1)) - ((g o 0) * (g p1 4))) (((g o 2) * (g p1 4)) - ((g p1 3) * (g o 3)))) ≤ 2147483647) ∧ ((-2147483648 ≤ ((Int.tdiv (((g p1 3) * (g o 1)) - ((g o 0) * (g p1 4))) (((g o 2) * (g p1 4)) - ((g p1 3) * (g o 3)))) * (g o 2)) ∧ ((Int.tdiv (((g p1 3) * (g o 1)) - ((g o 0) * (g p1 4))) (((g o 2) * (g p1 4)) - ((g p1 3) * (g o 3)))) * (g o 2)) ≤ 2147483647) ∧ ((-2147483648 ≤ ((g o 0) + ((Int.tdiv (((g p1 3) * (g o 1)) - ((g o 0) * (g p1 4))) (((g o 2) * (g p1 4)) - ((g p1 3) * (g o 3)))) * (g o 2))) ∧ ((g o 0) + ((Int.tdiv (((g p1 3) * (g o 1)) - ((g o 0) * (g p1 4))) (((g o 2) * (g p1 4)) - ((g p1 3) * (g o 3)))) * (g o 2))) ≤ 2147483647) ∧ ((-2147483648 ≤ ((Int.tdiv (((g p1 3) * (g o 1)) - ((g o 0) * (g p1 4))) (((g o 2) * (g p1 4)) - ((g p1 3) * (g o 3)))) * (g o 3)) ∧ ((Int.tdiv (((g p1 3) * (g o 1)) - ((g o 0) * (g p1 4))) (((g o 2) * (g p1 4)) - ((g p1 3) * (g o 3)))) * (g o 3)) ≤ 2147483647) ∧ ((-2147483648 ≤ ((g o 1) + ((Int.tdiv (((g p1 3) * (g o 1)) - ((g o 0) * (g p1 4))) (((g o 2) * (g p1 4)) - ((g p1 3) * (g o 3)))) * (g o 3))) ∧ ((g o 1) + ((Int.tdiv (((g p1 3) * (g o 1)) - ((g o 0) * (g p1 4))) (((g o 2) * (g p1 4)) - ((g p1 3) * (g o 3)))) * (g o 3))) ≤ 2147483647) ∧ ((-2147483648 ≤ (((z_up (z_up g o 0 ((g o 0) + ((Int.tdiv (((g p1 3) * (g o 1)) - ((g o 0) * (g p1 4))) (((g o 2) * (g p1 4)) - ((g p1 3) * (g o 3)))) * (g o 2)))) o 1 ((g o 1) + ((Int.tdiv (((g p1 3) * (g o 1)) - ((g o 0) * (g p1 4))) (((g o 2) * (g p1 4)) - ((g p1 3) * (g o 3)))) * (g o 3)))) o 0) + ((z_up (z_up g o 0 ((g o 0) + ((Int.tdiv (((g p1 3) * (g o 1)) - ((g o 0) * (g p1 4))) (((g o 2) * (g p1 4)) - ((g p1 3) * (g o 3)))) * (g o 2)))) o 1 ((g o 1) + ((Int.tdiv (((g p1 3) * (g o 1)) - ((g o 0) * (g p1 4))) (((g o 2) * (g p1 4)) - ((g p1 3) * (g o 3)))) * (g o 3)))) o 2)) ∧ (((z_up (z_up g o 0 ((g o 0) + ((Int.tdiv (((g p1 3) * (g o 1)) - ((g o 0) * (g p1 4))) (((g o 2) * (g p1 4)) - ((g p1 3) * (g o 3)))) * (g o 2)))) o 1 ((g o 1) + ((Int.tdiv (((g p1 3) * (g o 1)) - ((g o 0) * (g p1 4))) (((g o 2) * (g p1 4)) - ((g p1 3) * (g o 3)))) * (g o 3)))) o 0) + ((z_up (z_up g o 0 ((g o 0) + ((Int.tdiv (((g p1 3) * (g o 1)) - ((g o 0) * (g p1 4))) (((g o 2) * (g p1 4)) - ((g p1 3) * (g o 3)))) * (g o 2)))) o 1 ((g o 1) + ((Int.tdiv (((g p1 3) * (g o 1)) - ((g o 0) * (g p1 4))) (((g o 2) * (g p1 4)) - ((g p1 3) * (g o 3)))) * (g o 3)))) o 2)) ≤ 2147483647) ∧ ((-2147483648 ≤ (((z_up (z_up g o 0 ((g o 0) + ((Int.tdiv (((g p1 3) * (g o 1)) - ((g o 0) * (g p1 4))) (((g o 2) * (g p1 4)) - ((g p1 3) * (g o 3)))) * (g o 2)))) o 1 ((g o 1) + ((Int.tdiv (((g p1 3) * (g o 1)) - ((g o 0) * (g p1 4))) (((g o 2) * (g p1 4)) - ((g p1 3) * (g o 3)))) * (g o 3)))) o 1) + ((z_up (z_up g o 0 ((g o 0) + ((Int.tdiv (((g p1 3) * (g o 1)) - ((g o 0) * (g p1 4))) (((g o 2) * (g p1 4)) - ((g p1 3) * (g o 3)))) * (g o 2)))) o 1 ((g o 1) + ((Int.tdiv (((g p1 3) * (g o 1)) - ((g o 0) * (g p1 4))) (((g o 2) * (g p1 4)) - ((g p1 3) * (g o 3)))) * (g o 3)))) o 3)) ∧ (((z_up (z_up g o 0 ((g o 0) + ((Int.tdiv (((g p1 3) * (g o 1)) - ((g o 0) * (g p1 4))) (((g o 2) * (g p1 4)) - ((g p1 3) * (g o 3)))) * (g o 2)))) o 1 ((g o 1) + ((Int.tdiv (((g p1 3) * (g o 1)) - ((g o 0) * (g p1 4))) (((g o 2) * (g p1 4)) - ((g p1 3) * (g o 3)))) * (g o 3)))) o 1) + ((z_up (z_up g o 0 ((g o 0) + ((Int.tdiv (((g p1 3) * (g o 1)) - ((g o 0) * (g p1 4))) (((g o 2) * (g p1 4)) - ((g p1 3) * (g o 3)))) * (g o 2)))) o 1 ((g o 1) + ((Int.tdiv (((g p1 3) * (g o 1)) - ((g o 0) * (g p1 4))) (((g o 2) * (g p1 4)) - ((g p1 3) * (g o 3)))) * (g o 3)))) o 3)) ≤ 2147483647) ∧ ((-9223372036854775808 ≤ ((((z_up (z_up g o 0 ((g o 0) + ((Int.tdiv (((g p1 3) * (g o 1)) - ((g o 0) * (g p1 4))) (((g o 2) * (g p1 4)) - ((g p1 3) * (g o 3)))) * (g o 2)))) o 1 ((g o 1) + ((Int.tdiv (((g p1 3) * (g o 1)) - ((g o 0) * (g p1 4))) (((g o 2) * (g p1 4)) - ((g p1 3) * (g o 3)))) * (g o 3)))) o 0) + ((z_up (z_up g o 0 ((g o 0) + ((Int.tdiv (((g p1 3) * (g o 1)) - ((g o 0) * (g p1 4))) (((g o 2) * (g p1 4)) - ((g p1 3) * (g o 3)))) * (g o 2)))) o 1 ((g o 1) + ((Int.tdiv (((g p1 3) * (g o 1)) - ((g o 0) * (g p1 4))) (((g o 2) * (g p1 4)) - ((g p1 3) * (g o 3)))) * (g o 3)))) o 2)) * ((z_up (z_up g o 0 ((g o 0) + ((Int.tdiv (((g p1 3) * (g o 1)) - ((g o 0) * (g p1 4))) (((g o 2) * (g p1 4)) - ((g p1 3) * (g o 3)))) * (g o 2)))) o 1 ((g o 1) + ((Int.tdiv (((g p1 3) * (g o 1)) - ((g o 0) * (g p1 4))) (((g o 2) * (g p1 4)) - ((g p1 3) * (g o 3)))) * (g o 3)))) p2 4)) ∧ ((((z_up (z_up g o 0 ((g o 0) + ((Int.tdiv (((g p1 3) * (g o 1)) - ((g o 0) * (g p1 4))) (((g o 2) * (g p1 4)) - ((g p1 3) * (g o 3)))) * (g o 2)))) o 1 ((g o 1) + ((Int.tdiv (((g p1 3) * (g o 1)) - ((g o 0) * (g p1 4))) (((g o 2) * (g p1 4)) - ((g p1 3) * (g o 3)))) * (g o 3)))) o 0) + ((z_up (z_up g o 0 ((g o 0) + ((Int.tdiv (((g p1 3) * (g o 1)) - ((g o 0) * (g p1 4))) (((g o 2) * (g p1 4)) - ((g p1 3) * (g o 3)))) * (g o 2)))) o 1 ((g o 1) + ((Int.tdiv (((g p1 3) * (g o 1)) - ((g o 0) * (g p1 4))) (((g o 2) * (g p1 4)) - ((g p1 3) * (g o 3)))) * (g o 3)))) o 2)) * ((z_up (z_up g o 0 ((g o 0) + ((Int.tdiv (((g p1 3) * (g o 1)) - ((g o 0) * (g p1 4))) (((g o 2) * (g p1 4)) - ((g p1 3) * (g o 3)))) * (g o 2)))) o 1 ((g o 1) + ((Int.tdiv (((g p1 3) * (g o 1)) - ((g o 0) * (g p1 4))) (((g o 2) * (g p1 4)) - ((g p1 3) * (g o 3)))) * (g o 3)))) p2 4)) ≤ 9223372036854775807) ∧ ((-9223372036854775808 ≤ (((z_up (z_up g o 0 ((g o 0) + ((Int.tdiv (((g p1 3) * (g o 1)) - ((g o 0) * (g p1 4))) (((g o 2) * (g p1 4)) - ((g p1 3) * (g o 3)))) * (g o 2)))) o 1 ((g o 1) + ((Int.tdiv (((g p1 3) * (g o 1)) - ((g o 0) * (g p1 4))) (((g o 2) * (g p1 4)) - ((g p1 3) * (g o 3)))) * (g o 3)))) p2 3) * (((z_up (z_up g o 0 ((g o 0) + ((Int.tdiv (((g p1 3) * (g o 1)) - ((g o 0) * (g p1 4))) (((g o 2) * (g p1 4)) - ((g p1 3) * (g o 3)))) * (g o 2)))) o 1 ((g o 1) + ((Int.tdiv (((g p1 3) * (g o 1)) - ((g o 0) * (g p1 4))) (((g o 2) * (g p1 4)) - ((g p1 3) * (g o 3)))) * (g o 3)))) o 1) + ((z_up (z_up g o 0 ((g o 0) + ((Int.tdiv (((g p1 3) * (g o 1)) - ((g o 0) * (g p1 4))) (((g o 2) * (g p1 4)) - ((g p1 3) * (g o 3)))) * (g o 2)))) o 1 ((g o 1) + ((Int.tdiv (((g p1 3) * (g o 1)) - ((g o 0) * (g p1 4))) (((g o 2) * (g p1 4)) - ((g p1 3) * (g o 3)))) * (g o 3)))) o 3))) ∧ (((z_up (z_up g o 0 ((g o 0) + ((Int.tdiv (((g p1 3) * (g o 1)) - ((g o 0) * (g p1 4))) (((g o 2) * (g p1 4)) - ((g p1 3) * (g o 3)))) * (g o 2)))) o 1 ((g o 1) + ((Int.tdiv (((g p1 3) * (g o 1)) - ((g o 0) * (g p1 4))) (((g o 2) * (g p1 4)) - ((g p1 3) * (g o 3)))) * (g o 3)))) p2 3) * (((z_up (z_up g o 0 ((g o 0) + ((Int.tdiv (((g p1 3) * (g o 1)) - ((g o 0) * (g p1 4))) (((g o 2) * (g p1 4)) - ((g p1 3) * (g o 3)))) * (g o 2)))) o 1 ((g o 1) + ((Int.tdiv (((g p1 3) * (g o 1)) - ((g o 0) * (g p1 4))) (((g o 2) * (g p1 4)) - ((g p1 3) * (g o 3)))) * (g o 3)))) o 1) + ((z_up (z_up g o 0 ((g o 0) + ((Int.tdiv (((g p1 3) * (g o 1)) - ((g o 0) * (g p1 4))) (((g o 2) * (g p1 4)) - ((g p1 3) * (g o 3)))) * (g o 2)))) o 1 ((g o 1) + ((Int.tdiv (((g p1 3) * (g o 1)) - ((g o 0) * (g p1 4))) (((g o 2) * (g p1 4)) - ((g p1 3) * (g o 3)))) * (g o 3)))) o 3))) ≤ 9223372036854775807) ∧ ((-9223372036854775808 ≤ (((((z_up (z_up g o 0 ((g o 0) + ((Int.tdiv (((g p1 3) * (g o 1)) - ((g o 0) * (g p1 4))) (((g o 2) * (g p1 4)) - ((g p1 3) * (g o 3)))) * (g o 2)))) o 1 ((g o 1) + ((Int.tdiv (((g p1 3) * (g o 1)) - ((g o 0) * (g p1 4))) (((g o 2) * (g p1 4)) - ((g p1 3) * (g o 3)))) * (g o 3)))) o 0) + ((z_up (z_up g o 0 ((g o 0) + ((Int.tdiv (((g p1 3) * (g o 1)) - ((g o 0) * (g p1 4))) (((g o 2) * (g p1 4)) - ((g p1 3) * (g o 3)))) * (g o 2)))) o 1 ((g o 1) + ((Int.tdiv (((g p1 3) * (g o 1)) - ((g o 0) * (g p1 4))) (((g o 2) * (g p1 4)) - ((g p1 3) * (g o 3)))) * (g o 3)))) o 2)) * ((z_up (z_up g o 0 ((g o 0) + ((Int.tdiv (((g p1 3) * (g o 1)) - ((g o 0) * (g p1 4))) (((g o 2) * (g p1 4)) - ((g p1 3) * (g o 3)))) * (g o 2)))) o 1 ((g o 1) + ((Int.tdiv (((g p1 3) * (g o 1)) - ((g o 0) * (g p1 4))) (((g o 2) * (g p1 4)) - ((g p1 3) * (g o 3)))) * (g o 3)))) p2 4)) - (((z_up (z_up g o 0 ((g o 0) + ((Int.tdiv (((g p1 3) * (g o 1)) - ((g o 0) * (g p1 4))) (((g o 2) * (g p1 4)) - ((g p1 3) * (g o 3)))) * (g o 2)))) o 1 ((g o 1) + ((Int.tdiv (((g p1 3) * (g o 1)) - ((g o 0) * (g p1 4))) (((g o 2) * (g p1 4)) - ((g p1 3) * (g o 3)))) * (g o 3)))) p2 3) * (((z_up (z_up g o 0 ((g o 0) + ((Int.tdiv (((g p1 3) * (g o 1)) - ((g o 0) * (g p1 4))) (((g o 2) * (g p1 4)) - ((g p1 3) * (g o 3)))) * (g o 2)))) o 1 ((g o 1) + ((Int.tdiv (((g p1 3) * (g o 1)) - ((g o 0) * (g p1 4))) (((g o 2) * (g p1 4)) - ((g p1 3) * (g o 3)))) * (g o 3)))) o 1) + ((z_up (z_up g o 0 ((g o 0) + ((Int.tdiv (((g p1 3) * (g o 1)) - ((g o 0) * (g p1 4))) (((g o 2) * (g p1 4)) - ((g p1 3) * (g o 3)))) * (g o 2)))) o 1 ((g o 1) + ((Int.tdiv (((g p1 3) * (g o 1)) - ((g o 0) * (g p1 4))) (((g o 2) * (g p1 4)) - ((g p1 3) * (g o 3)))) * (g o 3)))) o 3)))) ∧ (((((z_up (z_up g o 0 ((g o 0) + ((Int.tdiv (((g p1 3) * (g o 1)) - ((g o 0) * (g p1 4))) (((g o 2) * (g p1 4)) - ((g p1 3) * (g o 3)))) * (g o 2)))) o 1 ((g o 1) + ((Int.tdiv (((g p1 3) * (g o 1)) - ((g o 0) * (g p1 4))) (((g o 2) * (g p1 4)) - ((g p1 3) * (g o 3)))) * (g o 3)))) o 0) + ((z_up (z_up g o 0 ((g o 0) + ((Int.tdiv (((g p1 3) * (g o 1)) - ((g o 0) * (g p1 4))) (((g o 2) * (g p1 4)) - ((g p1 3) * (g o 3)))) * (g o 2)))) o 1 ((g o 1) + ((Int.tdiv (((g p1 3) * (g o 1)) - ((g o 0) * (g p1 4))) (((g o 2) * (g p1 4)) - ((g p1 3) * (g o 3)))) * (g o 3)))) o 2)) * ((z_up (z_up g o 0 ((g o 0) + ((Int.tdiv (((g p1 3) * (g o 1)) - ((g o 0) * (g p1 4))) (((g o 2) * (g p1 4)) - ((g p1 3) * (g o 3)))) * (g o 2)))) o 1 ((g o 1) + ((Int.tdiv (((g p1 3) * (g o 1)) - ((g o 0) * (g p1 4))) (((g o 2) * (g p1 4)) - ((g p1 3) * (g o 3)))) * (g o 3)))) p2 4)) - (((z_up (z_up g o 0 ((g o 0) + ((Int.tdiv (((g p1 3) * (g o 1)) - ((g o 0) * (g p1 4))) (((g o 2) * (g p1 4)) - ((g p1 3) * (g o 3)))) * (g o 2)))) o 1 ((g o 1) + ((Int.tdiv (((g p1 3) * (g o 1)) - ((g o 0) * (g p1 4))) (((g o 2) * (g p1 4)) - ((g p1 3) * (g o 3)))) * (g o 3)))) p2 3) * (((z_up (z_up g o 0 ((g o 0) + ((Int.tdiv (((g p1 3) * (g o 1)) - ((g o 0) * (g p1 4))) (((g o 2) * (g p1 4)) - ((g p1 3) * (g o 3)))) * (g o 2)))) o 1 ((g o 1) + ((Int.tdiv (((g p1 3) * (g o 1)) - ((g o 0) * (g p1 4))) (((g o 2) * (g p1 4)) - ((g p1 3) * (g o 3)))) * (g o 3)))) o 1) + ((z_up (z_up g o 0 ((g o 0) + ((Int.tdiv (((g p1 3) * (g o 1)) - ((g o 0) * (g p1 4))) (((g o 2) * (g p1 4)) - ((g p1 3) * (g o 3)))) * (g o 2)))) o 1 ((g o 1) + ((Int.tdiv (((g p1 3) * (g o 1)) - ((g o 0) * (g p1 4))) (((g o 2) * (g p1 4)) - ((g p1 3) * (g o 3)))) * (g o 3)))) o 3)))) ≤ 9223372036854775807) ∧ (((0 ≤ (((((z_up (z_up g o 0 ((g o 0) + ((Int.tdiv (((g p1 3) * (g o 1)) - ((g o 0) * (g p1 4))) (((g o 2) * (g p1 4)) - ((g p1 3) * (g o 3)))) * (g o 2)))) o 1 ((g o 1) + ((Int.tdiv (((g p1 3) * (g o 1)) - ((g o 0) * (g p1 4))) (((g o 2) * (g p1 4)) - ((g p1 3) * (g o 3)))) * (g o 3)))) o 0) + ((z_up (z_up g o 0 ((g o 0) + ((Int.tdiv (((g p1 3) * (g o 1)) - ((g o 0) * (g p1 4))) (((g o 2) * (g p1 4)) - ((g p1 3) * (g o 3)))) * (g o 2)))) o 1 ((g o 1) + ((Int.tdiv (((g p1 3) * (g o 1)) - ((g o 0) * (g p1 4))) (((g o 2) * (g p1 4)) - ((g p1 3) * (g o 3)))) * (g o 3)))) o 2)) * ((z_up (z_up g o 0 ((g o 0) + ((Int.tdiv (((g p1 3) * (g o 1)) - ((g o 0) * (g p1 4))) (((g o 2) * (g p1 4)) - ((g p1 3) * (g o 3)))) * (g o 2)))) o 1 ((g o 1) + ((Int.tdiv (((g p1 3) * (g o 1)) - ((g o 0) * (g p1 4))) (((g o 2) * (g p1 4)) - ((g p1 3) * (g o 3)))) * (g o 3)))) p2 4)) - (((z_up (z_up g o 0 ((g o 0) + ((Int.tdiv (((g p1 3) * (g o 1)) - ((g o 0) * (g p1 4))) (((g o 2) * (g p1 4)) - ((g p1 3) * (g o 3)))) * (g o 2)))) o 1 ((g o 1) + ((Int.tdiv (((g p1 3) * (g o 1)) - ((g o 0) * (g p1 4))) (((g o 2) * (g p1 4)) - ((g p1 3) * (g o 3)))) * (g o 3)))) p2 3) * (((z_up (z_up g o 0 ((g o 0) + ((Int.tdiv (((g p1 3) * (g o 1)) - ((g o 0) * (g p1 4))) (((g o 2) * (g p1 4)) - ((g p1 3) * (g o 3)))) * (g o 2)))) o 1 ((g o 1) + ((Int.tdiv (((g p1 3) * (g o 1)) - ((g o 0) * (g p1 4))) (((g o 2) * (g p1 4)) - ((g p1 3) * (g o 3)))) * (g o 3)))) o 1) + ((z_up (z_up g o 0 ((g o 0) + ((Int.tdiv (((g p1 3) * (g o 1)) - ((g o 0) * (g p1 4))) (((g o 2) * (g p1 4)) - ((g p1 3) * (g o 3)))) * (g o 2)))) o 1 ((g o 1) + ((Int.tdiv (((g p1 3) * (g o 1)) - ((g o 0) * (g p1 4))) (((g o 2) * (g p1 4)) - ((g p1 3) * (g o 3)))) * (g o 3)))) o 3))))) → ((-9223372036854775808 ≤ ((g o 2) * ((z_up (z_up g o 0 ((g o 0) + ((Int.tdiv (((g p1 3) * (g o 1)) - ((g o 0) * (g p1 4))) (((g o 2) * (g p1 4)) - ((g p1 3) * (g o 3)))) * (g o 2)))) o 1 ((g o 1) + ((Int.tdiv (((g p1 3) * (g o 1)) - ((g o 0) * (g p1 4))) (((g o 2) * (g p1 4)) - ((g p1 3) * (g o 3)))) * (g o 3)))) p2 4)) ∧ ((g o 2) * ((z_up (z_up g o 0 ((g o 0) + ((Int.tdiv (((g p1 3) * (g o 1)) - ((g o 0) * (g p1 4))) (((g o 2) * (g p1 4)) - ((g p1 3) * (g o 3)))) * (g o 2)))) o 1 ((g o 1) + ((Int.tdiv (((g p1 3) * (g o 1)) - ((g o 0) * (g p1 4))) (((g o 2) * (g p1 4)) - ((g p1 3) * (g o 3)))) * (g o 3)))) p2 4)) ≤ 9223372036854775807) ∧ ((-9223372036854775808 ≤ (((z_up (z_up g o 0 ((g o 0) + ((Int.tdiv (((g p1 3) * (g o 1)) - ((g o 0) * (g p1 4))) (((g o 2) * (g p1 4)) - ((g p1 3) * (g o 3)))) * (g o 2)))) o 1 ((g o 1) + ((Int.tdiv (((g p1 3) * (g o 1)) - ((g o 0) * (g p1 4))) (((g o 2) * (g p1 4)) - ((g p1 3) * (g o 3)))) * (g o 3)))) p2 3) * (g o 3)) ∧ (((z_up (z_up g o 0 ((g o 0) + ((Int.tdiv (((g p1 3) * (g o 1)) - ((g o 0) * (g p1 4))) (((g o 2) * (g p1 4)) - ((g p1 3) * (g o 3)))) * (g o 2)))) o 1 ((g o 1) + ((Int.tdiv (((g p1 3) * (g o 1)) - ((g o 0) * (g p1 4))) (((g o 2) * (g p1 4)) - ((g p1 3) * (g o 3)))) * (g o 3)))) p2 3) * (g o 3)) ≤ 9223372036854775807) ∧ ((-9223372036854775808 ≤ (((g o 2) * ((z_up (z_up g o 0 ((g o 0) + ((Int.tdiv (((g p1 3) * (g o 1)) - ((g o 0) * (g p1 4))) (((g o 2) * (g p1 4)) - ((g p1 3) * (g o 3)))) * (g o 2)))) o 1 ((g o 1) + ((Int.tdiv (((g p1 3) * (g o 1)) - ((g o 0) * (g p1 4))) (((g o 2) * (g p1 4)) - ((g p1 3) * (g o 3)))) * (g o 3)))) p2 4)) - (((z_up (z_up g o 0 ((g o 0) + ((Int.tdiv (((g p1 3) * (g o 1)) - ((g o 0) * (g p1 4))) (((g o 2) * (g p1 4)) - ((g p1 3) * (g o 3)))) * (g o 2)))) o 1 ((g o 1) + ((Int.tdiv (((g p1 3) * (g o 1)) - ((g o 0) * (g p1 4))) (((g o 2) * (g p1 4)) - ((g p1 3) * (g o 3)))) * (g o 3)))) p2 3) * (g o 3))) ∧ (((g o 2) * ((z_up (z_up g o 0 ((g o 0) + ((Int.tdiv (((g p1 3) * (g o 1)) - ((g o 0) * (g p1 4))) (((g o 2) * (g p1 4)) - ((g p1 3) * (g o 3)))) * (g o 2)))) o 1 ((g o 1) + ((Int.tdiv (((g p1 3) * (g o 1)) - ((g o 0) * (g p1 4))) (((g o 2) * (g p1 4)) - ((g p1 3) * (g o 3)))) * (g o 3)))) p2 4)) - (((z_up (z_up g o 0 ((g o 0) + ((Int.tdiv (((g p1 3) * (g o 1)) - ((g o 0) * (g p1 4))) (((g o 2) * (g p1 4)) - ((g p1 3) * (g o 3)))) * (g o 2)))) o 1 ((g o 1) + ((Int.tdiv (((g p1 3) * (g o 1)) - ((g o 0) * (g p1 4))) (((g o 2) * (g p1 4)) - ((g p1 3) * (g o 3)))) * (g o 3)))) p2 3) * (g o 3))) ≤ 9223372036854775807) ∧ ((-9223372036854775808 ≤ (((z_up (z_up g o 0 ((g o 0) + ((Int.tdiv (((g p1 3) * (g o 1)) - ((g o 0) * (g p1 4))) (((g o 2) * (g p1 4)) - ((g p1 3) * (g o 3)))) * (g o 2)))) o 1 ((g o 1) + ((Int.tdiv (((g p1 3) * (g o 1)) - ((g o 0) * (g p1 4))) (((g o 2) * (g p1 4)) - ((g p1 3) * (g o 3)))) * (g o 3)))) p2 3) * ((g o 1) + ((Int.tdiv (((g p1 3) * (g o 1)) - ((g o 0) * (g p1 4))) (((g o 2) * (g p1 4)) - ((g p1 3) * (g o 3)))) * (g o 3)))) ∧ (((z_up (z_up g o 0 ((g o 0) + ((Int.tdiv (((g p1 3) * (g o 1)) - ((g o 0) * (g p1 4))) (((g o 2) * (g p1 4)) - ((g p1 3) * (g o 3)))) * (g o 2)))) o 1 ((g o 1) + ((Int.tdiv (((g p1 3) * (g o 1)) - ((g o 0) * (g p1 4))) (((g o 2) * (g p1 4)) - ((g p1 3) * (g o 3)))) * (g o 3)))) p2 3) * ((g o 1) + ((Int.tdiv (((g p1 3) * (g o 1)) - ((g o 0) * (g p1 4))) (((g o 2) * (g p1 4)) - ((g p1 3) * (g o 3)))) * (g o 3)))) ≤ 9223372036854775807) ∧ ((-9223372036854775808 ≤ (((g o 0) + ((Int.tdiv (((g p1 3) * (g o 1)) - ((g o 0) * (g p1 4))) (((g o 2) * (g p1 4)) - ((g p1 3) * (g o 3)))) * (g o 2))) * ((z_up (z_up g o 0 ((g o 0) + ((Int.tdiv (((g p1 3) * (g o 1)) - ((g o 0) * (g p1 4))) (((g o 2) * (g p1 4)) - ((g p1 3) * (g o 3)))) * (g o 2)))) o 1 ((g o 1) + ((Int.tdiv (((g p1 3) * (g o 1)) - ((g o 0) * (g p1 4))) (((g o 2) * (g p1 4)) - ((g p1 3) * (g o 3)))) * (g o 3)))) p2 4)) ∧ (((g o 0) + ((Int.tdiv (((g p1 3) * (g o 1)) - ((g o 0) * (g p1 4))) (((g o 2) * (g p1 4)) - ((g p1 3) * (g o 3)))) * (g o 2))) * ((z_up (z_up g o 0 ((g o 0) + ((Int.tdiv (((g p1 3) * (g o 1)) - ((g o 0) * (g p1 4))) (((g o 2) * (g p1 4)) - ((g p1 3) * (g o 3)))) * (g o 2)))) o 1 ((g o 1) + ((Int.tdiv (((g p1 3) * (g o 1)) - ((g o 0) * (g p1 4))) (((g o 2) * (g p1 4)) - ((g p1 3) * (g o 3)))) * (g o 3)))) p2 4)) ≤ 9223372036854775807) ∧ ((-9223372036854775808 ≤ ((((z_up (z_up g o 0 ((g o 0) + ((Int.tdiv (((g p1 3) * (g o 1)) - ((g o 0) * (g p1 4))) (((g o 2) * (g p1 4)) - ((g p1 3) * (g o 3)))) * (g o 2)))) o 1 ((g o 1) + ((Int.tdiv (((g p1 3) * (g o 1)) - ((g o 0) * (g p1 4))) (((g o 2) * (g p1 4)) - ((g p1 3) * (g o 3)))) * (g o 3)))) p2 3) * ((g o 1) + ((Int.tdiv (((g p1 3) * (g o 1)) - ((g o 0) * (g p1 4))) (((g o 2) * (g p1 4)) - ((g p1 3) * (g o 3)))) * (g o 3)))) - (((g o 0) + ((Int.tdiv (((g p1 3) * (g o 1)) - ((g o 0) * (g p1 4))) (((g o 2) * (g p1 4)) - ((g p1 3) * (g o 3)))) * (g o 2))) * ((z_up (z_up g o 0 ((g o 0) + ((Int.tdiv (((g p1 3) * (g o 1)) - ((g o 0) * (g p1 4))) (((g o 2) * (g p1 4)) - ((g p1 3) * (g o 3)))) * (g o 2)))) o 1 ((g o 1) + ((Int.tdiv (((g p1 3) * (g o 1)) - ((g o 0) * (g p1 4))) (((g o 2) * (g p1 4)) - ((g p1 3) * (g o 3)))) * (g o 3)))) p2 4))) ∧ ((((z_up (z_up g o 0 ((g o 0) + ((Int.tdiv (((g p1 3) * (g o 1)) - ((g o 0) * (g p1 4))) (((g o 2) * (g p1 4)) - ((g p1 3) * (g o 3)))) * (g o 2)))) o 1 ((g o 1) + ((Int.tdiv (((g p1 3) * (g o 1)) - ((g o 0) * (g p1 4))) (((g o 2) * (g p1 4)) - ((g p1 3) * (g o 3)))) * (g o 3)))) p2 3) * ((g o 1) + ((Int.tdiv (((g p1 3) * (g o 1)) - ((g o 0) * (g p1 4))) (((g o 2) * (g p1 4)) - ((g p1 3) * (g o 3)))) * (g o 3)))) - (((g o 0) + ((Int.tdiv (((g p1 3) * (g o 1)) - ((g o 0) * (g p1 4))) (((g o 2) * (g p1 4)) - ((g p1 3) * (g o 3)))) * (g o 2))) * ((z_up (z_up g o 0 ((g o 0) + ((Int.tdiv (((g p1 3) * (g o 1)) - ((g o 0) * (g p1 4))) (((g o 2) * (g p1 4)) - ((g p1 3) * (g o 3)))) * (g o 2)))) o 1 ((g o 1) + ((Int.tdiv (((g p1 3) * (g o 1)) - ((g o 0) * (g p1 4))) (((g o 2) * (g p1 4)) - ((g p1 3) * (g o 3)))) * (g o 3)))) p2 4))) ≤ 9223372036854775807) ∧ (((((((z_up (z_up g o 0 ((g o 0) + ((Int.tdiv (((g p1 3) * (g o 1)) - ((g o 0) * (g p1 4))) (((g o 2) * (g p1 4)) - ((g p1 3) * (g o 3)))) * (g o 2)))) o 1 ((g o 1) + ((Int.tdiv (((g p1 3) * (g o 1)) - ((g o 0) * (g p1 4))) (((g o 2) * (g p1 4)) - ((g p1 3) * (g o 3)))) * (g o 3)))) p2 3) * ((g o 1) + ((Int.tdiv (((g p1 3) * (g o 1)) - ((g o 0) * (g p1 4))) (((g o 2) * (g p1 4)) - ((g p1 3) * (g o 3)))) * (g o 3)))) - (((g o 0) + ((Int.tdiv (((g p1 3) * (g o 1)) - ((g o 0) * (g p1 4))) (((g o 2) * (g p1 4)) - ((g p1 3) * (g o 3)))) * (g o 2))) * ((z_up (z_up g o 0 ((g o 0) + ((Int.tdiv (((g p1 3) * (g o 1)) - ((g o 0) * (g p1 4))) (((g o 2) * (g p1 4)) - ((g p1 3) * (g o 3)))) * (g o 2)))) o 1 ((g o 1) + ((Int.tdiv (((g p1 3) * (g o 1)) - ((g o 0) * (g p1 4))) (((g o 2) * (g p1 4)) - ((g p1 3) * (g o 3)))) * (g o 3)))) p2 4))) ≤ 0) → ((-9223372036854775808 ≤ ((((z_up (z_up g o 0 ((g o 0) + ((Int.tdiv (((g p1 3) * (g o 1)) - ((g o 0) * (g p1 4))) (((g o 2) * (g p1 4)) - ((g p1 3) * (g o 3)))) * (g o 2)))) o 1 ((g o 1) + ((Int.tdiv (((g p1 3) * (g o 1)) - ((g o 0) * (g p1 4))) (((g o 2) * (g p1 4)) - ((g p1 3) * (g o 3)))) * (g o 3)))) o 0) + ((z_up (z_up g o 0 ((g o 0) + ((Int.tdiv (((g p1 3) * (g o 1)) - ((g o 0) * (g p1 4))) (((g o 2) * (g p1 4)) - ((g p1 3) * (g o 3)))) * (g o 2)))) o 1 ((g o 1) + ((Int.tdiv (((g p1 3) * (g o 1)) - ((g o 0) * (g p1 4))) (((g o 2) * (g p1 4)) - ((g p1 3) * (g o 3)))) * (g o 3)))) o 2)) * ((z_up (z_up g o 0 ((g o 0) + ((Int.tdiv (((g p1 3) * (g o 1)) - ((g o 0) * (g p1 4))) (((g o 2) * (g p1 4)) - ((g p1 3) * (g o 3)))) * (g o 2)))) o 1 ((g o 1) + ((Int.tdiv (((g p1 3) * (g o 1)) - ((g o 0) * (g p1 4))) (((g o 2) * (g p1 4)) - ((g p1 3) * (g o 3)))) * (g o 3)))) p1 4)) ∧ ((((z_up (z_up g o 0 ((g o 0) + ((Int.tdiv (((g p1 3) * (g o 1)) - ((g o 0) * (g p1 4))) (((g o 2) * (g p1 4)) - ((g p1 3) * (g o 3)))) * (g o 2)))) o 1 ((g o 1) + ((Int.tdiv (((g p1 3) * (g o 1)) - ((g o 0) * (g p1 4))) (((g o 2) * (g p1 4)) - ((g p1 3) * (g o 3)))) * (g o 3)))) o 0) + ((z_up (z_up g o 0 ((g o 0) + ((Int.tdiv (((g p1 3) * (g o 1)) - ((g o 0) * (g p1 4))) (((g o 2) * (g p1 4)) - ((g p1 3) * (g o 3)))) * (g o 2)))) o 1 ((g o 1) + ((Int.tdiv (((g p1 3) * (g o 1)) - ((g o 0) * (g p1 4))) (((g o 2) * (g p1 4)) - ((g p1 3) * (g o 3)))) * (g o 3)))) o 2)) * ((z_up (z_up g o 0 ((g o 0) + ((Int.tdiv (((g p1 3) * (g o 1)) - ((g o 0) * (g p1 4))) (((g o 2) * (g p1 4)) - ((g p1 3) * (g o 3)))) * (g o 2)))) o 1 ((g o 1) + ((Int.tdiv (((g p1 3) * (g o 1)) - ((g o 0) * (g p1 4))) (((g o 2) * (g p1 4)) - ((g p1 3) * (g o 3)))) * (g o 3)))) p1 4)) ≤ 9223372036854775807) ∧ ((-9223372036854775808 ≤ (((z_up (z_up g o 0 ((g o 0) + ((Int.tdiv (((g p1 3) * (g o 1)) - ((g o 0) * (g p1 4))) (((g o 2) * (g p1 4)) - ((g p1 3) * (g o 3)))) * (g o 2)))) o 1 ((g o 1) + ((Int.tdiv (((g p1 3) * (g o 1)) - ((g o 0) * (g p1 4))) (((g o 2) * (g p1 4)) - ((g p1 3) * (g o 3)))) * (g o 3)))) p1 3) * (((z_up (z_up g o 0 ((g o 0) + ((Int.tdiv (((g p1 3) * (g o 1)) - ((g o 0) * (g p1 4))) (((g o 2) * (g p1 4)) - ((g p1 3) * (g o 3)))) * (g o 2)))) o 1 ((g o 1) + ((Int.tdiv (((g p1 3) * (g o 1)) - ((g o 0) * (g p1 4))) (((g o 2) * (g p1 4)) - ((g p1 3) * (g o 3)))) * (g o 3)))) o 1) + ((z_up (z_up g o 0 ((g o 0) + ((Int.tdiv (((g p1 3) * (g o 1)) - ((g o 0) * (g p1 4))) (((g o 2) * (g p1 4)) - ((g p1 3) * (g o 3)))) * (g o 2)))) o 1 ((g o 1) + ((Int.tdiv (((g p1 3) * (g o 1)) - ((g o 0) * (g p1 4))) (((g o 2) * (g p1 4)) - ((g p1 3) * (g o 3)))) * (g o 3)))) o 3))) ∧ (((z_up (z_up g o 0 ((g o 0) + ((Int.tdiv (((g p1 3) * (g o 1)) - ((g o 0) * (g p1 4))) (((g o 2) * (g p1 4)) - ((g p1 3) * (g o 3)))) * (g o 2)))) o 1 ((g o 1) + ((Int.tdiv (((g p1 3) * (g o 1)) - ((g o 0) * (g p1 4))) (((g o 2) * (g p1 4)) - ((g p1 3) * (g o 3)))) * (g o 3)))) p1 3) * (((z_up (z_up g o 0 ((g o 0) + ((Int.tdiv (((g p1 3) * (g o 1)) - ((g o 0) * (g p1 4))) (((g o 2) * (g p1 4)) - ((g p1 3) * (g o 3)))) * (g o 2)))) o 1 ((g o 1) + ((Int.tdiv (((g p1 3) * (g o 1)) - ((g o 0) * (g p1 4))) (((g o 2) * (g p1 4)) - ((g p1 3) * (g o 3)))) * (g o 3)))) o 1) + ((z_up (z_up g o 0 ((g o 0) + ((Int.tdiv (((g p1 3) * (g o 1)) - ((g o 0) * (g p1 4))) (((g o 2) * (g p1 4)) - ((g p1 3) * (g o 3)))) * (g o 2)))) o 1 ((g o 1) + ((Int.tdiv (((g p1 3) * (g o 1)) - ((g o 0) * (g p1 4))) (((g o 2) * (g p1 4)) - ((g p1 3) * (g o 3)))) * (g o 3)))) o 3))) ≤ 9223372036854775807) ∧ ((-9223372036854775808 ≤ (((((z_up (z_up g o 0 ((g o 0) + ((Int.tdiv (((g p1 3) * (g o 1)) - ((g o 0) * (g p1 4))) (((g o 2) * (g p1 4)) - ((g p1 3) * (g o 3)))) * (g o 2)))) o 1 ((g o 1) + ((Int.tdiv (((g p1 3) * (g o 1)) - ((g o 0) * (g p1 4))) (((g o 2) * (g p1 4)) - ((g p1 3) * (g o 3)))) * (g o 3)))) o 0) + ((z_up (z_up g o 0 ((g o 0) + ((Int.tdiv (((g p1 3) * (g o 1)) - ((g o 0) * (g p1 4))) (((g o 2) * (g p1 4)) - ((g p1 3) * (g o 3)))) * (g o 2)))) o 1 ((g o 1) + ((Int.tdiv (((g p1 3) * (g o 1)) - ((g o 0) * (g p1 4))) (((g o 2) * (g p1 4)) - ((g p1 3) * (g o 3)))) * (g o 3)))) o 2)) * ((z_up (z_up g o 0 ((g o 0) + ((Int.tdiv (((g p1 3) * (g o 1)) - ((g o 0) * (g p1 4))) (((g o 2) * (g p1 4)) - ((g p1 3) * (g o 3)))) * (g o 2)))) o 1 ((g o 1) + ((Int.tdiv (((g p1 3) * (g o 1)) - ((g o 0) * (g p1 4))) (((g o 2) * (g p1 4)) - ((g p1 3) * (g o 3)))) * (g o 3)))) p1 4)) - (((z_up (z_up g o 0 ((g o 0) + ((Int.tdiv (((g p1 3) * (g o 1)) - ((g o 0) * (g p1 4))) (((g o 2) * (g p1 4)) - ((g p1 3) * (g o 3)))) * (g o 2)))) o 1 ((g o 1) + ((Int.tdiv (((g p1 3) * (g o 1)) - ((g o 0) * (g p1 4))) (((g o 2) * (g p1 4)) - ((g p1 3) * (g o 3)))) * (g o 3)))) p1 3) * (((z_up (z_up g o 0 ((g o 0) + ((Int.tdiv (((g p1 3) * (g o 1)) - ((g o 0) * (g p1 4))) (((g o 2) * (g p1 4)) - ((g p1 3) * (g o 3)))) * (g o 2)))) o 1 ((g o 1) + ((Int.tdiv (((g p1 3) * (g o 1)) - ((g o 0) * (g p1 4))) (((g o 2) * (g p1 4)) - ((g p1 3) * (g o 3)))) * (g o 3)))) o 1) + ((z_up (z_up g o 0 ((g o 0) + ((Int.tdiv (((g p1 3) * (g o 1)) - ((g o 0) * (g p1 4))) (((g o 2) * (g p1 4)) - ((g p1 3) * (g o 3)))) * (g o 2)))) o 1 ((g o 1) + ((Int.tdiv (((g p1 3) * (g o 1)) - ((g o 0) * (g p1 4))) (((g o 2) * (g p1 4)) - ((g p1 3) * (g o 3)))) * (g o 3)))) o 3)))) ∧ (((((z_up (z_up g o 0 ((g o 0) + ((Int.tdiv (((g p1 3) * (g o 1)) - ((g o 0) * (g p1 4))) (((g o 2) * (g p1 4)) - ((g p1 3) * (g o 3)))) * (g o 2)))) o 1 ((g o 1) + ((Int.tdiv (((g p1 3) * (g o 1)) - ((g o 0) * (g p1 4))) (((g o 2) * (g p1 4)) - ((g p1 3) * (g o 3)))) * (g o 3)))) o 0) + ((z_up (z_up g o 0 ((g o 0) + ((Int.tdiv (((g p1 3) * (g o 1)) - ((g o 0) * (g p1 4))) (((g o 2) * (g p1 4)) - ((g p1 3) * (g o 3)))) * (g o 2)))) o 1 ((g o 1) + ((Int.tdiv (((g p1 3) * (g o 1)) - ((g o 0) * (g p1 4))) (((g o 2) * (g p1 4)) - ((g p1 3) * (g o 3)))) * (g o 3)))) o 2)) * ((z_up (z_up g o 0 ((g o 0) + ((Int.tdiv (((g p1 3) * (g o 1)) - ((g o 0) * (g p1 4))) (((g o 2) * (g p1 4)) - ((g p1 3) * (g o 3)))) * (g o 2)))) o 1 ((g o 1) + ((Int.tdiv (((g p1 3) * (g o 1)) - ((g o 0) * (g p1 4))) (((g o 2) * (g p1 4)) - ((g p1 3) * (g o 3)))) * (g o 3)))) p1 4)) - (((z_up (z_up g o 0 ((g o 0) + ((Int.tdiv (((g p1 3) * (g o 1)) - ((g o 0) * (g p1 4))) (((g o 2) * (g p1 4)) - ((g p1 3) * (g o 3)))) * (g o 2)))) o 1 ((g o 1) + ((Int.tdiv (((g p1 3) * (g o 1)) - ((g o 0) * (g p1 4))) (((g o 2) * (g p1 4)) - ((g p1 3) * (g o 3)))) * (g o 3)))) p1 3) * (((z_up (z_up g o 0 ((g o 0) + ((Int.tdiv (((g p1 3) * (g o 1)) - ((g o 0) * (g p1 4))) (((g o 2) * (g p1 4)) - ((g p1 3) * (g o 3)))) * (g o 2)))) o 1 ((g o 1) + ((Int.tdiv (((g p1 3) * (g o 1)) - ((g o 0) * (g p1 4))) (((g o 2) * (g p1 4)) - ((g p1 3) * (g o 3)))) * (g o 3)))) o 1) + ((z_up (z_up g o 0 ((g o 0) + ((Int.tdiv (((g p1 3) * (g o 1)) - ((g o 0) * (g p1 4))) (((g o 2) * (g p1 4)) - ((g p1 3) * (g o 3)))) * (g o 2)))) o 1 ((g o 1) + ((Int.tdiv (((g p1 3) * (g o 1)) - ((g o 0) * (g p1 4))) (((g o 2) * (g p1 4)) - ((g p1 3) * (g o 3)))) * (g o 3)))) o 3)))) ≤ 9223372036854775807) ∧ ((((((((z_up (z_up g o 0 ((g o 0) + ((Int.tdiv (((g p1 3) * (g o 1)) - ((g o 0) * (g p1 4))) (((g o 2) * (g p1 4)) - ((g p1 3) * (g o 3)))) * (g o 2)))) o 1 ((g o 1) + ((Int.tdiv (((g p1 3) * (g o 1)) - ((g o 0) * (g p1 4))) (((g o 2) * (g p1 4)) - ((g p1 3) * (g o 3)))) * (g o 3)))) o 0) + ((z_up (z_up g o 0 ((g o 0) + ((Int.tdiv (((g p1 3) * (g o 1)) - ((g o 0) * (g p1 4))) (((g o 2) * (g p1 4)) - ((g p1 3) * (g o 3)))) * (g o 2)))) o 1 ((g o 1) + ((Int.tdiv (((g p1 3) * (g o 1)) - ((g o 0) * (g p1 4))) (((g o 2) * (g p1 4)) - ((g p1 3) * (g o 3)))) * (g o 3)))) o 2)) * ((z_up (z_up g o 0 ((g o 0) + ((Int.tdiv (((g p1 3) * (g o 1)) - ((g o 0) * (g p1 4))) (((g o 2) * (g p1 4)) - ((g p1 3) * (g o 3)))) * (g o 2)))) o 1 ((g o 1) + ((Int.tdiv (((g p1 3) * (g o 1)) - ((g o 0) * (g p1 4))) (((g o 2) * (g p1 4)) - ((g p1 3) * (g o 3)))) * (g o 3)))) p1 4)) - (((z_up (z_up g o 0 ((g o 0) + ((Int.tdiv (((g p1 3) * (g o 1)) - ((g o 0) * (g p1 4))) (((g o 2) * (g p1 4)) - ((g p1 3) * (g o 3)))) * (g o 2)))) o 1 ((g o 1) + ((Int.tdiv (((g p1 3) * (g o 1)) - ((g o 0) * (g p1 4))) (((g o 2) * (g p1 4)) - ((g p1 3) * (g o 3)))) * (g o 3)))) p1 3) * (((z_up (z_up g o 0 ((g o 0) + ((Int.tdiv (((g p1 3) * (g o 1)) - ((g o 0) * (g p1 4))) (((g o 2) * (g p1 4)) - ((g p1 3) * (g o 3)))) * (g o 2)))) o 1 ((g o 1) + ((Int.tdiv (((g p1 3) * (g o 1)) - ((g o 0) * (g p1 4))) (((g o 2) * (g p1 4)) - ((g p1 3) * (g o 3)))) * (g o 3)))) o 1) + ((z_up (z_up g o 0 ((g o 0) + ((Int.tdiv (((g p1 3) * (g o 1)) - ((g o 0) * (g p1 4))) (((g o 2) * (g p1 4)) - ((g p1 3) * (g o 3)))) * (g o 2)))) o 1 ((g o 1) + ((Int.tdiv (((g p1 3) * (g o 1)) - ((g o 0) * (g p1 4))) (((g o 2) * (g p1 4)) - ((g p1 3) * (g o 3)))) * (g o 3)))) o 3)))) ≤ 0) → ((-2147483648 ≤ (x3 + 1) ∧ (x3 + 1) ≤ 2147483647) ∧ L_Sp_squeeze_6 X N σ (x3 + 1) o p1 p2 (z_up (z_up g o 0 ((g o 0) + ((Int.tdiv (((g p1 3) * (g o 1)) - ((g o 0) * (g p1 4))) (((g o 2) * (g p1 4)) - ((g p1 3) * (g o 3)))) * (g o 2)))) o 1 ((g o 1) + ((Int.tdiv (((g p1 3) * (g o 1)) - ((g o 0) * (g p1 4))) (((g o 2) * (g p1 4)) - ((g p1 3) * (g o 3)))) * (g o 3)))) Q)) ∧ (¬ ((((((z_up (z_up g o 0 ((g o 0) + ((Int.tdiv (((g p1 3) * (g o 1)) - ((g o 0) * (g p1 4))) (((g o 2) * (g p1 4)) - ((g p1 3) * (g o 3)))) * (g o 2)))) o 1 ((g o 1) + ((Int.tdiv (((g p1 3) * (g o 1)) - ((g o 0) * (g p1 4))) (((g o 2) * (g p1 4)) - ((g p1 3) * (g o 3)))) * (g o 3)))) o 0) + ((z_up (z_up g o 0 ((g o 0) + ((Int.tdiv (((g p1 3) * (g o 1)) - ((g o 0) * (g p1 4))) (((g o 2) * (g p1 4)) - ((g p1 3) * (g o 3)))) * (g o 2)))) o 1 ((g o 1) + ((Int.tdiv (((g p1 3) * (g o 1)) - ((g o 0) * (g p1 4))) (((g o 2) * (g p1 4)) - ((g p1 3) * (g o 3)))) * (g o 3)))) o 2)) * ((z_up (z_up g o 0 ((g o 0) + ((Int.tdiv (((g p1 3) * (g o 1)) - ((g o 0) * (g p1 4))) (((g o 2) * (g p1 4)) - ((g p1 3) * (g o 3)))) * (g o 2)))) o 1 ((g o 1) + ((Int.tdiv (((g p1 3) * (g o 1)) - ((g o 0) * (g p1 4))) (((g o 2) * (g p1 4)) - ((g p1 3) * (g o 3)))) * (g o 3)))) p1 4)) - (((z_up (z_up g o 0 ((g o 0) + ((Int.tdiv (((g p1 3) * (g o 1)) - ((g o 0) * (g p1 4))) (((g o 2) * (g p1 4)) - ((g p1 3) * (g o 3)))) * (g o 2)))) o 1 ((g o 1) + ((Int.tdiv (((g p1 3) * (g o 1)) - ((g o 0) * (g p1 4))) (((g o 2) * (g p1 4)) - ((g p1 3) * (g o 3)))) * (g o 3)))) p1 3) * (((z_up (z_up g o 0 ((g o 0) + ((Int.tdiv (((g p1 3) * (g o 1)) - ((g o 0) * (g p1 4))) (((g o 2) * (g p1 4)) - ((g p1 3) * (g o 3)))) * (g o 2)))) o 1 ((g o 1) + ((Int.tdiv (((g p1 3) * (g o 1)) - ((g o 0) * (g p1 4))) (((g o 2) * (g p1 4)) - ((g p1 3) * (g o 3)))) * (g o 3)))) o 1) + ((z_up (z_up g o 0 ((g o 0) + ((Int.tdiv (((g p1 3) * (g o 1)) - ((g o 0) * (g p1 4))) (((g o 2) * (g p1 4)) - ((g p1 3) * (g o 3)))) * (g o 2)))) o 1 ((g o 1) + ((Int.tdiv (((g p1 3) * (g o 1)) - ((g o 0) * (g p1 4))) (((g o 2) * (g p1 4)) - ((g p1 3) * (g o 3)))) * (g o 3)))) o 3)))) ≤ 0) → Q 0 (z_up (z_up g o 0 ((g o 0) + ((Int.tdiv (((g p1 3) * (g o 1)) - ((g o 0) * (g p1 4))) (((g o 2) * (g p1 4)) - ((g p1 3) * (g o 3)))) * (g o 2)))) o 1 ((g o 1) + ((Int.tdiv (((g p1 3) * (g o 1)) - ((g o 0) * (g p1 4))) (((g o 2) * (g p1 4)) - ((g p1 3) * (g o 3)))) * (g o 3)))))))))) ∧ (¬ (((((z_up (z_up g o 0 ((g o 0) + ((Int.tdiv (((g p1 3) * (g o 1)) - ((g o 0) * (g p1 4))) (((g o 2) * (g p1 4)) - ((g p1 3) * (g o 3)))) * (g o 2)))) o 1 ((g o 1) + ((Int.tdiv (((g p1 3) * (g o 1)) - ((g o 0) * (g p1 4))) (((g o 2) * (g p1 4)) - ((g p1 3) * (g o 3)))) * (g o 3)))) p2 3) * ((g o 1) + ((Int.tdiv (((g p1 3) * (g o 1)) - ((g o 0) * (g p1 4))) (((g o 2) * (g p1 4)) - ((g p1 3) * (g o 3)))) * (g o 3)))) - (((g o 0) + ((Int.tdiv (((g p1 3) * (g o 1)) - ((g o 0) * (g p1 4))) (((g o 2) * (g p1 4)) - ((g p1 3) * (g o 3)))) * (g o 2))) * ((z_up (z_up g o 0 ((g o 0) + ((Int.tdiv (((g p1 3) * (g o 1)) - ((g o 0) * (g p1 4))) (((g o 2) * (g p1 4)) - ((g p1 3) * (g o 3)))) * (g o 2)))) o 1 ((g o 1) + ((Int.tdiv (((g p1 3) * (g o 1)) - ((g o 0) * (g p1 4))) (((g o 2) * (g p1 4)) - ((g p1 3) * (g o 3)))) * (g o 3)))) p2 4))) ≤ 0) → ((0 < ((((z_up (z_up g o 0 ((g o 0) + ((Int.tdiv (((g p1 3) * (g o 1)) - ((g o 0) * (g p1 4))) (((g o 2) * (g p1 4)) - ((g p1 3) * (g o 3)))) * (g o 2)))) o 1 ((g o 1) + ((Int.tdiv (((g p1 3) * (g o 1)) - ((g o 0) * (g p1 4))) (((g o 2) * (g p1 4)) - ((g p1 3) * (g o 3)))) * (g o 3)))) p2 3) * ((g o 1) + ((Int.tdiv (((g p1 3) * (g o 1)) - ((g o 0) * (g p1 4))) (((g o 2) * (g p1 4)) - ((g p1 3) * (g o 3)))) * (g o 3)))) - (((g o 0) + ((Int.tdiv (((g p1 3) * (g o 1)) - ((g o 0) * (g p1 4))) (((g o 2) * (g p1 4)) - ((g p1 3) * (g o 3)))) * (g o 2))) * ((z_up (z_up g o 0 ((g o 0) + ((Int.tdiv (((g p1 3) * (g o 1)) - ((g o 0) * (g p1 4))) (((g o 2) * (g p1 4)) - ((g p1 3) * (g o 3)))) * (g o 2)))) o 1 ((g o 1) + ((Int.tdiv (((g p1 3) * (g o 1)) - ((g o 0) * (g p1 4))) (((g o 2) * (g p1 4)) - ((g p1 3) * (g o 3)))) * (g o 3)))) p2 4)))) ∧ ((-2147483648 ≤ (Int.tdiv (((g o 2) * ((z_up (z_up g o 0 ((g o 0) + ((Int.tdiv (((g p1 3) * (g o 1)) - ((g o 0) * (g p1 4))) (((g o 2) * (g p1 4)) - ((g p1 3) * (g o 3)))) * (g o 2)))) o 1 ((g o 1) + ((Int.tdiv (((g p1 3) * (g o 1)) - ((g o 0) * (g p1 4))) (((g o 2) * (g p1 4)) - ((g p1 3) * (g o 3)))) * (g o 3)))) p2 4)) - (((z_up (z_up g o 0 ((g o 0) + ((Int.tdiv (((g p1 3) * (g o 1)) - ((g o 0) * (g p1 4))) (((g o 2) * (g p1 4)) - ((g p1 3) * (g o 3)))) * (g o 2)))) o 1 ((g o 1) + ((Int.tdiv (((g p1 3) * (g o 1)) - ((g o 0) * (g p1 4))) (((g o 2) * (g p1 4)) - ((g p1 3) * (g o 3)))) * (g o 3)))) p2 3) * (g o 3))) ((((z_up (z_up g o 0 ((g o 0) + ((Int.tdiv (((g p1 3) * (g o 1)) - ((g o 0) * (g p1 4))) (((g o 2) * (g p1 4)) - ((g p1 3) * (g o 3)))) * (g o 2)))) o 1 ((g o 1) + ((Int.tdiv (((g p1 3) * (g o 1)) - ((g o 0) * (g p1 4))) (((g o 2) * (g p1 4)) - ((g p1 3) * (g o 3)))) * (g o 3)))) p2 3) * ((g o 1) + ((Int.tdiv (((g p1 3) * (g o 1)) - ((g o 0) * (g p1 4))) (((g o 2) * (g p1 4)) - ((g p1 3) * (g o 3)))) * (g o 3)))) - (((g o 0) + ((Int.tdiv (((g p1 3) * (g o 1)) - ((g o 0) * (g p1 4))) (((g o 2) * (g p1 4)) - ((g p1 3) * (g o 3)))) * (g o 2))) * ((z_up (z_up g o 0 ((g o 0) + ((Int.tdiv (((g p1 3) * (g o 1)) - ((g o 0) * (g p1 4))) (((g o 2) * (g p1 4)) - ((g p1 3) * (g o 3)))) * (g o 2)))) o 1 ((g o 1) + ((Int.tdiv (((g p1 3) * (g o 1)) - ((g o 0) * (g p1 4))) (((g o 2) * (g p1 4)) - ((g p1 3) * (g o 3)))) * (g o 3)))) p2 4)))) ∧ (Int.tdiv (((g o 2) * ((z_up (z_up g o 0 ((g o 0) + ((Int.tdiv (((g p1 3) * (g o 1)) - ((g o 0) * (g p1 4))) (((g o 2) * (g p1 4)) - ((g p1 3) * (g o 3)))) * (g o 2)))) o 1 ((g o 1) + ((Int.tdiv (((g p1 3) * (g o 1)) - ((g o 0) * (g p1 4))) (((g o 2) * (g p1 4)) - ((g p1 3) * (g o 3)))) * (g o 3)))) p2 4)) - (((z_up (z_up g o 0 ((g o 0) + ((Int.tdiv (((g p1 3) * (g o 1)) - ((g o 0) * (g p1 4))) (((g o 2) * (g p1 4)) - ((g p1 3) * (g o 3)))) * (g o 2)))) o 1 ((g o 1) + ((Int.tdiv (((g p1 3) * (g o 1)) - ((g o 0) * (g p1 4))) (((g o 2) * (g p1 4)) - ((g p1 3) * (g o 3)))) * (g o 3)))) p2 3) * (g o 3))) ((((z_up (z_up g o 0 ((g o 0) + ((Int.tdiv (((g p1 3) * (g o 1)) - ((g o 0) * (g p1 4))) (((g o 2) * (g p1 4)) - ((g p1 3) * (g o 3)))) * (g o 2)))) o 1 ((g o 1) + ((Int.tdiv (((g p1 3) * (g o 1)) - ((g o 0) * (g p1 4))) (((g o 2) * (g p1 4)) - ((g p1 3) * (g o 3)))) * (g o 3)))) p2 3) * ((g o 1) + ((Int.tdiv (((g p1 3) * (g o 1)) - ((g o 0) * (g p1 4))) (((g o 2) * (g p1 4)) - ((g p1 3) * (g o 3)))) * (g o 3)))) - (((g o 0) + ((Int.tdiv (((g p1 3) * (g o 1)) - ((g o 0) * (g p1 4))) (((g o 2) * (g p1 4)) - ((g p1 3) * (g o 3)))) * (g o 2))) * ((z_up (z_up g o 0 ((g o 0) + ((Int.tdiv (((g p1 3) * (g o 1)) - ((g o 0) * (g p1 4))) (((g o 2) * (g p1 4)) - ((g p1 3) * (g o 3)))) * (g o 2)))) o 1 ((g o 1) + ((Int.tdiv (((g p1 3) * (g o 1)) - ((g o 0) * (g p1 4))) (((g o 2) * (g p1 4)) - ((g p1 3) * (g o 3)))) * (g o 3)))) p2 4)))) ≤ 2147483647) ∧ ((-2147483648 ≤ ((Int.tdiv (((g o 2) * ((z_up (z_up g o 0 ((g o 0) + ((Int.tdiv (((g p1 3) * (g o 1)) - ((g o 0) * (g p1 4))) (((g o 2) * (g p1 4)) - ((g p1 3) * (g o 3)))) * (g o 2)))) o 1 ((g o 1) + ((Int.tdiv (((g p1 3) * (g o 1)) - ((g o 0) * (g p1 4))) (((g o 2) * (g p1 4)) - ((g p1 3) * (g o 3)))) * (g o 3)))) p2 4)) - (((z_up (z_up g o 0 ((g o 0) + ((Int.tdiv (((g p1 3) * (g o 1)) - ((g o 0) * (g p1 4))) (((g o 2) * (g p1 4)) - ((g p1 3) * (g o 3)))) * (g o 2)))) o 1 ((g o 1) + ((Int.tdiv (((g p1 3) * (g o 1)) - ((g o 0) * (g p1 4))) (((g o 2) * (g p1 4)) - ((g p1 3) * (g o 3)))) * (g o 3)))) p2 3) * (g o 3))) ((((z_up (z_up g o 0 ((g o 0) + ((Int.tdiv (((g p1 3) * (g o 1)) - ((g o 0) * (g p1 4))) (((g o 2) * (g p1 4)) - ((g p1 3) * (g o 3)))) * (g o 2)))) o 1 ((g o 1) + ((Int.tdiv (((g p1 3) * (g o 1)) - ((g o 0) * (g p1 4))) (((g o 2) * (g p1 4)) - ((g p1 3) * (g o 3)))) * (g o 3)))) p2 3) * ((g o 1) + ((Int.tdiv (((g p1 3) * (g o 1)) - ((g o 0) * (g p1 4))) (((g o 2) * (g p1 4)) - ((g p1 3) * (g o 3)))) * (g o 3)))) - (((g o 0) + ((Int.tdiv (((g p1 3) * (g o 1)) - ((g o 0) * (g p1 4))) (((g o 2) * (g p1 4)) - ((g p1 3) * (g o 3)))) * (g o 2))) * ((z_up (z_up g o 0 ((g o 0) + ((Int.tdiv (((g p1 3) * (g o 1)) - ((g o 0) * (g p1 4))) (((g o 2) * (g p1 4)) - ((g p1 3) * (g o 3)))) * (g o 2)))) o 1 ((g o 1) + ((Int.tdiv (((g p1 3) * (g o 1)) - ((g o 0) * (g p1 4))) (((g o 2) * (g p1 4)) - ((g p1 3) * (g o 3)))) * (g o 3)))) p2 4)))) * ((g o 0) + ((Int.tdiv (((g p1 3) * (g o 1)) - ((g o 0) * (g p1 4))) (((g o 2) * (g p1 4)) - ((g p1 3) * (g o 3)))) * (g o 2)))) ∧ ((Int.tdiv (((g o 2) * ((z_up (z_up g o 0 ((g o 0) + ((Int.tdiv (((g p1 3) * (g o 1)) - ((g o 0) * (g p1 4))) (((g o 2) * (g p1 4)) - ((g p1 3) * (g o 3)))) * (g o 2)))) o 1 ((g o 1) + ((Int.tdiv (((g p1 3) * (g o 1)) - ((g o 0) * (g p1 4))) (((g o 2) * (g p1 4)) - ((g p1 3) * (g o 3)))) * (g o 3)))) p2 4)) - (((z_up (z_up g o 0 ((g o 0) + ((Int.tdiv (((g p1 3) * (g o 1)) - ((g o 0) * (g p1 4))) (((g o 2) * (g p1 4)) - ((g p1 3) * (g o 3)))) * (g o 2)))) o 1 ((g o 1) + ((Int.tdiv (((g p1 3) * (g o 1)) - ((g o 0) * (g p1 4))) (((g o 2) * (g p1 4)) - ((g p1 3) * (g o 3)))) * (g o 3)))) p2 3) * (g o 3))) ((((z_up (z_up g o 0 ((g o 0) + ((Int.tdiv (((g p1 3) * (g o 1)) - ((g o 0) * (g p1 4))) (((g o 2) * (g p1 4)) - ((g p1 3) * (g o 3)))) * (g o 2)))) o 1 ((g o 1) + ((Int.tdiv (((g p1 3) * (g o 1)) - ((g o 0) * (g p1 4))) (((g o 2) * (g p1 4)) - ((g p1 3) * (g o 3)))) * (g o 3)))) p2 3) * ((g o 1) + ((Int.tdiv (((g p1 3) * (g o 1)) - ((g o 0) * (g p1 4))) (((g o 2) * (g p1 4)) - ((g p1 3) * (g o 3)))) * (g o 3)))) - (((g o 0) + ((Int.tdiv (((g p1 3) * (g o 1)) - ((g o 0) * (g p1 4))) (((g o 2) * (g p1 4)) - ((g p1 3) * (g o 3)))) * (g o 2))) * ((z_up (z_up g o 0 ((g o 0) + ((Int.tdiv (((g p1 3) * (g o 1)) - ((g o 0) * (g p1 4))) (((g o 2) * (g p1 4)) - ((g p1 3) * (g o 3)))) * (g o 2)))) o 1 ((g o 1) + ((Int.tdiv (((g p1 3) * (g o 1)) - ((g o 0) * (g p1 4))) (((g o 2) * (g p1 4)) - ((g p1 3) * (g o 3)))) * (g o 3)))) p2 4)))) * ((g o 0) + ((Int.tdiv (((g p1 3) * (g o 1)) - ((g o 0) * (g p1 4))) (((g o 2) * (g p1 4)) - ((g p1 3) * (g o 3)))) * (g o 2)))) ≤ 2147483647) ∧ ((-2147483648 ≤ ((g o 2) + ((Int.tdiv (((g o 2) * ((z_up (z_up g o 0 ((g o 0) + ((Int.tdiv (((g p1 3) * (g o 1)) - ((g o 0) * (g p1 4))) (((g o 2) * (g p1 4)) - ((g p1 3) * (g o 3)))) * (g o 2)))) o 1 ((g o 1) + ((Int.tdiv (((g p1 3) * (g o 1)) - ((g o 0) * (g p1 4))) (((g o 2) * (g p1 4)) - ((g p1 3) * (g o 3)))) * (g o 3)))) p2 4)) - (((z_up (z_up g o 0 ((g o 0) + ((Int.tdiv (((g p1 3) * (g o 1)) - ((g o 0) * (g p1 4))) (((g o 2) * (g p1 4)) - ((g p1 3) * (g o 3)))) * (g o 2)))) o 1 ((g o 1) + ((Int.tdiv (((g p1 3) * (g o 1)) - ((g o 0) * (g p1 4))) (((g o 2) * (g p1 4)) - ((g p1 3) * (g o 3)))) * (g o 3)))) p2 3) * (g o 3))) ((((z_up (z_up g o 0 ((g o 0) + ((Int.tdiv (((g p1 3) * (g o 1)) - ((g o 0) * (g p1 4))) (((g o 2) * (g p1 4)) - ((g p1 3) * (g o 3)))) * (g o 2)))) o 1 ((g o 1) + ((Int.tdiv (((g p1 3) * (g o 1)) - ((g o 0) * (g p1 4))) (((g o 2) * (g p1 4)) - ((g p1 3) * (g o 3)))) * (g o 3)))) p2 3) * ((g o 1) + ((Int.tdiv (((g p1 3) * (g o 1)) - ((g o 0) * (g p1 4))) (((g o 2) * (g p1 4)) - ((g p1 3) * (g o 3)))) * (g o 3)))) - (((g o 0) + ((Int.tdiv (((g p1 3) * (g o 1)) - ((g o 0) * (g p1 4))) (((g o 2) * (g p1 4)) - ((g p1 3) * (g o 3)))) * (g o 2))) * ((z_up (z_up g o 0 ((g o 0) + ((Int.tdiv (((g p1 3) * (g o 1)) - ((g o 0) * (g p1 4))) (((g o 2) * (g p1 4)) - ((g p1 3) * (g o 3)))) * (g o 2)))) o 1 ((g o 1) + ((Int.tdiv (((g p1 3) * (g o 1)) - ((g o 0) * (g p1 4))) (((g o 2) * (g p1 4)) - ((g p1 3) * (g o 3)))) * (g o 3)))) p2 4)))) * ((g o 0) + ((Int.tdiv (((g p1 3) * (g o 1)) - ((g o 0) * (g p1 4))) (((g o 2) * (g p1 4)) - ((g p1 3) * (g o 3)))) * (g o 2))))) ∧ ((g o 2) + ((Int.tdiv (((g o 2) * ((z_up (z_up g o 0 ((g o 0) + ((Int.tdiv (((g p1 3) * (g o 1)) - ((g o 0) * (g p1 4))) (((g o 2) * (g p1 4)) - ((g p1 3) * (g o 3)))) * (g o 2)))) o 1 ((g o 1) + ((Int.tdiv (((g p1 3) * (g o 1)) - ((g o 0) * (g p1 4))) (((g o 2) * (g p1 4)) - ((g p1 3) * (g o 3)))) * (g o 3)))) p2 4)) - (((z_up (z_up g o 0 ((g o 0) + ((Int.tdiv (((g p1 3) * (g o 1)) - ((g o 0) * (g p1 4))) (((g o 2) * (g p1 4)) - ((g p1 3) * (g o 3)))) * (g o 2)))) o 1 ((g o 1) + ((Int.tdiv (((g p1 3) * (g o 1)) - ((g o 0) * (g p1 4))) (((g o 2) * (g p1 4)) - ((g p1 3) * (g o 3)))) * (g o 3)))) p2 3) * (g o 3))) ((((z_up (z_up g o 0 ((g o 0) + ((Int.tdiv (((g p1 3) * (g o 1)) - ((g o 0) * (g p1 4))) (((g o 2) * (g p1 4)) - ((g p1 3) * (g o 3)))) * (g o 2)))) o 1 ((g o 1) + ((Int.tdiv (((g p1 3) * (g o 1)) - ((g o 0) * (g p1 4))) (((g o 2) * (g p1 4)) - ((g p1 3) * (g o 3)))) * (g o 3)))) p2 3) * ((g o 1) + ((Int.tdiv (((g p1 3) * (g o 1)) - ((g o 0) * (g p1 4))) (((g o 2) * (g p1 4)) - ((g p1 3) * (g o 3)))) * (g o 3)))) - (((g o 0) + ((Int.tdiv (((g p1 3) * (g o 1)) - ((g o 0) * (g p1 4))) (((g o 2) * (g p1 4)) - ((g p1 3) * (g o 3)))) * (g o 2))) * ((z_up (z_up g o 0 ((g o 0) + ((Int.tdiv (((g p1 3) * (g o 1)) - ((g o 0) * (g p1 4))) (((g o 2) * (g p1 4)) - ((g p1 3) * (g o 3)))) * (g o 2)))) o 1 ((g o 1) + ((Int.tdiv (((g p1 3) * (g o 1)) - ((g o 0) * (g p1 4))) (((g o 2) * (g p1 4)) - ((g p1 3) * (g o 3)))) * (g o 3)))) p2 4)))) * ((g o 0) + ((Int.tdiv (((g p1 3) * (g o 1)) - ((g o 0) * (g p1 4))) (((g o 2) * (g p1 4)) - ((g p1 3) * (g o 3)))) * (g o 2))))) ≤ 2147483647) ∧ ((-2147483648 ≤ ((Int.tdiv (((g o 2) * ((z_up (z_up g o 0 ((g o 0) + ((Int.tdiv (((g p1 3) * (g o 1)) - ((g o 0) * (g p1 4))) (((g o 2) * (g p1 4)) - ((g p1 3) * (g o 3)))) * (g o 2)))) o 1 ((g o 1) + ((Int.tdiv (((g p1 3) * (g o 1)) - ((g o 0) * (g p1 4))) (((g o 2) * (g p1 4)) - ((g p1 3) * (g o 3)))) * (g o 3)))) p2 4)) - (((z_up (z_up g o 0 ((g o 0) + ((Int.tdiv (((g p1 3) * (g o 1)) - ((g o 0) * (g p1 4))) (((g o 2) * (g p1 4)) - ((g p1 3) * (g o 3)))) * (g o 2)))) o 1 ((g o 1) + ((Int.tdiv (((g p1 3) * (g o 1)) - ((g o 0) * (g p1 4))) (((g o 2) * (g p1 4)) - ((g p1 3) * (g o 3)))) * (g o 3)))) p2 3) * (g o 3))) ((((z_up (z_up g o 0 ((g o 0) + ((Int.tdiv (((g p1 3) * (g o 1)) - ((g o 0) * (g p1 4))) (((g o 2) * (g p1 4)) - ((g p1 3) * (g o 3)))) * (g o 2)))) o 1 ((g o 1) + ((Int.tdiv (((g p1 3) * (g o 1)) - ((g o 0) * (g p1 4))) (((g o 2) * (g p1 4)) - ((g p1 3) * (g o 3)))) * (g o 3)))) p2 3) * ((g o 1) + ((Int.tdiv (((g p1 3) * (g o 1)) - ((g o 0) * (g p1 4))) (((g o 2) * (g p1 4)) - ((g p1 3) * (g o 3)))) * (g o 3)))) - (((g o 0) + ((Int.tdiv (((g p1 3) * (g o 1)) - ((g o 0) * (g p1 4))) (((g o 2) * (g p1 4)) - ((g p1 3) * (g o 3)))) * (g o 2))) * ((z_up (z_up g o 0 ((g o 0) + ((Int.tdiv (((g p1 3) * (g o 1)) - ((g o 0) * (g p1 4))) (((g o 2) * (g p1 4)) - ((g p1 3) * (g o 3)))) * (g o 2)))) o 1 ((g o 1) + ((Int.tdiv (((g p1 3) * (g o 1)) - ((g o 0) * (g p1 4))) (((g o 2) * (g p1 4)) - ((g p1 3) * (g o 3)))) * (g o 3)))) p2 4)))) * ((g o 1) + ((Int.tdiv (((g p1 3) * (g o 1)) - ((g o 0) * (g p1 4))) (((g o 2) * (g p1 4)) - ((g p1 3) * (g o 3)))) * (g o 3)))) ∧ ((Int.tdiv (((g o 2) * ((z_up (z_up g o 0 ((g o 0) + ((Int.tdiv (((g p1 3) * (g o 1)) - ((g o 0) * (g p1 4))) (((g o 2) * (g p1 4)) - ((g p1 3) * (g o 3)))) * (g o 2)))) o 1 ((g o 1) + ((Int.tdiv (((g p1 3) * (g o 1)) - ((g o 0) * (g p1 4))) (((g o 2) * (g p1 4)) - ((g p1 3) * (g o 3)))) * (g o 3)))) p2 4)) - (((z_up (z_up g o 0 ((g o 0) + ((Int.tdiv (((g p1 3) * (g o 1)) - ((g o 0) * (g p1 4))) (((g o 2) * (g p1 4)) - ((g p1 3) * (g o 3)))) * (g o 2)))) o 1 ((g o 1) + ((Int.tdiv (((g p1 3) * (g o 1)) - ((g o 0) * (g p1 4))) (((g o 2) * (g p1 4)) - ((g p1 3) * (g o 3)))) * (g o 3)))) p2 3) * (g o 3))) ((((z_up (z_up g o 0 ((g o 0) + ((Int.tdiv (((g p1 3) * (g o 1)) - ((g o 0) * (g p1 4))) (((g o 2) * (g p1 4)) - ((g p1 3) * (g o 3)))) * (g o 2)))) o 1 ((g o 1) + ((Int.tdiv (((g p1 3) * (g o 1)) - ((g o 0) * (g p1 4))) (((g o 2) * (g p1 4)) - ((g p1 3) * (g o 3)))) * (g o 3)))) p2 3) * ((g o 1) + ((Int.tdiv (((g p1 3) * (g o 1)) - ((g o 0) * (g p1 4))) (((g o 2) * (g p1 4)) - ((g p1 3) * (g o 3)))) * (g o 3)))) - (((g o 0) + ((Int.tdiv (((g p1 3) * (g o 1)) - ((g o 0) * (g p1 4))) (((g o 2) * (g p1 4)) - ((g p1 3) * (g o 3)))) * (g o 2))) * ((z_up (z_up g o 0 ((g o 0) + ((Int.tdiv (((g p1 3) * (g o 1)) - ((g o 0) * (g p1 4))) (((g o 2) * (g p1 4)) - ((g p1 3) * (g o 3)))) * (g o 2)))) o 1 ((g o 1) + ((Int.tdiv (((g p1 3) * (g o 1)) - ((g o 0) * (g p1 4))) (((g o 2) * (g p1 4)) - ((g p1 3) * (g o 3)))) * (g o 3)))) p2 4)))) * ((g o 1) + ((Int.tdiv (((g p1 3) * (g o 1)) - ((g o 0) * (g p1 4))) (((g o 2) * (g p1 4)) - ((g p1 3) * (g o 3)))) * (g o 3)))) ≤ 2147483647) ∧ ((-2147483648 ≤ ((g o 3) + ((Int.tdiv (((g o 2) * ((z_up (z_up g o 0 ((g o 0) + ((Int.tdiv (((g p1 3) * (g o 1)) - ((g o 0) * (g p1 4))) (((g o 2) * (g p1 4)) - ((g p1 3) * (g o 3)))) * (g o 2)))) o 1 ((g o 1) + ((Int.tdiv (((g p1 3) * (g o 1)) - ((g o 0) * (g p1 4))) (((g o 2) * (g p1 4)) - ((g p1 3) * (g o 3)))) * (g o 3)))) p2 4)) - (((z_up (z_up g o 0 ((g o 0) + ((Int.tdiv (((g p1 3) * (g o 1)) - ((g o 0) * (g p1 4))) (((g o 2) * (g p1 4)) - ((g p1 3) * (g o 3)))) * (g o 2)))) o 1 ((g o 1) + ((Int.tdiv (((g p1 3) * (g o 1)) - ((g o 0) * (g p1 4))) (((g o 2) * (g p1 4)) - ((g p1 3) * (g o 3)))) * (g o 3)))) p2 3) * (g o 3))) ((((z_up (z_up g o 0 ((g o 0) + ((Int.tdiv (((g p1 3) * (g o 1)) - ((g o 0) * (g p1 4))) (((g o 2) * (g p1 4)) - ((g p1 3) * (g o 3)))) * (g o 2)))) o 1 ((g o 1) + ((Int.tdiv (((g p1 3) * (g o 1)) - ((g o 0) * (g p1 4))) (((g o 2) * (g p1 4)) - ((g p1 3) * (g o 3)))) * (g o 3)))) p2 3) * ((g o 1) + ((Int.tdiv (((g p1 3) * (g o 1)) - ((g o 0) * (g p1 4))) (((g o 2) * (g p1 4)) - ((g p1 3) * (g o 3)))) * (g o 3)))) - (((g o 0) + ((Int.tdiv (((g p1 3) * (g o 1)) - ((g o 0) * (g p1 4))) (((g o 2) * (g p1 4)) - ((g p1 3) * (g o 3)))) * (g o 2))) * ((z_up (z_up g o 0 ((g o 0) + ((Int.tdiv (((g p1 3) * (g o 1)) - ((g o 0) * (g p1 4))) (((g o 2) * (g p1 4)) - ((g p1 3) * (g o 3)))) * (g o 2)))) o 1 ((g o 1) + ((Int.tdiv (((g p1 3) * (g o 1)) - ((g o 0) * (g p1 4))) (((g o 2) * (g p1 4)) - ((g p1 3) * (g o 3)))) * (g o 3)))) p2 4)))) * ((g o 1) + ((Int.tdiv (((g p1 3) * (g o 1)) - ((g o 0) * (g p1 4))) (((g o 2) * (g p1 4)) - ((g p1 3) * (g o 3)))) * (g o 3))))) ∧ ((g o 3) + ((Int.tdiv (((g o 2) * ((z_up (z_up g o 0 ((g o 0) + ((Int.tdiv (((g p1 3) * (g o 1)) - ((g o 0) * (g p1 4))) (((g o 2) * (g p1 4)) - ((g p1 3) * (g o 3)))) * (g o 2)))) o 1 ((g o 1) + ((Int.tdiv (((g p1 3) * (g o 1)) - ((g o 0) * (g p1 4))) (((g o 2) * (g p1 4)) - ((g p1 3) * (g o 3)))) * (g o 3)))) p2 4)) - (((z_up (z_up g o 0 ((g o 0) + ((Int.tdiv (((g p1 3) * (g o 1)) - ((g o 0) * (g p1 4))) (((g o 2) * (g p1 4)) - ((g p1 3) * (g o 3)))) * (g o 2)))) o 1 ((g o 1) + ((Int.tdiv (((g p1 3) * (g o 1)) - ((g o 0) * (g p1 4))) (((g o 2) * (g p1 4)) - ((g p1 3) * (g o 3)))) * (g o 3)))) p2 3) * (g o 3))) ((((z_up (z_up g o 0 ((g o 0) + ((Int.tdiv (((g p1 3) * (g o 1)) - ((g o 0) * (g p1 4))) (((g o 2) * (g p1 4)) - ((g p1 3) * (g o 3)))) * (g o 2)))) o 1 ((g o 1) + ((Int.tdiv (((g p1 3) * (g o 1)) - ((g o 0) * (g p1 4))) (((g o 2) * (g p1 4)) - ((g p1 3) * (g o 3)))) * (g o 3)))) p2 3) * ((g o 1) + ((Int.tdiv (((g p1 3) * (g o 1)) - ((g o 0) * (g p1 4))) (((g o 2) * (g p1 4)) - ((g p1 3) * (g o 3)))) * (g o 3)))) - (((g o 0) + ((Int.tdiv (((g p1 3) * (g o 1)) - ((g o 0) * (g p1 4))) (((g o 2) * (g p1 4)) - ((g p1 3) * (g o 3)))) * (g o 2))) * ((z_up (z_up g o 0 ((g o 0) + ((Int.tdiv (((g p1 3) * (g o 1)) - ((g o 0) * (g p1 4))) (((g o 2) * (g p1 4)) - ((g p1 3) * (g o 3)))) * (g o 2)))) o 1 ((g o 1) + ((Int.tdiv (((g p1 3) * (g o 1)) - ((g o 0) * (g p1 4))) (((g o 2) * (g p1 4)) - ((g p1 3) * (g o 3)))) * (g o 3)))) p2 4)))) * ((g o 1) + ((Int.tdiv (((g p1 3) * (g o 1)) - ((g o 0) * (g p1 4))) (((g o 2) * (g p1 4)) - ((g p1 3) * (g o 3)))) * (g o 3))))) ≤ 2147483647) ∧ ((-2147483648 ≤ (((z_up (z_up (z_up (z_up g o 0 ((g o 0) + ((Int.tdiv (((g p1 3) * (g o 1)) - ((g o 0) * (g p1 4))) (((g o 2) * (g p1 4)) - ((g p1 3) * (g o 3)))) * (g o 2)))) o 1 ((g o 1) + ((Int.tdiv (((g p1 3) * (g o 1)) - ((g o 0) * (g p1 4))) (((g o 2) * (g p1 4)) - ((g p1 3) * (g o 3)))) * (g o 3)))) o 2 ((g o 2) + ((Int.tdiv (((g o 2) * ((z_up (z_up g o 0 ((g o 0) + ((Int.tdiv (((g p1 3) * (g o 1)) - ((g o 0) * (g p1 4))) (((g o 2) * (g p1 4)) - ((g p1 3) * (g o 3)))) * (g o 2)))) o 1 ((g o 1) + ((Int.tdiv (((g p1 3) * (g o 1)) - ((g o 0) * (g p1 4))) (((g o 2) * (g p1 4)) - ((g p1 3) * (g o 3)))) * (g o 3)))) p2 4)) - (((z_up (z_up g o 0 ((g o 0) + ((Int.tdiv (((g p1 3) * (g o 1)) - ((g o 0) * (g p1 4))) (((g o 2) * (g p1 4)) - ((g p1 3) * (g o 3)))) * (g o 2)))) o 1 ((g o 1) + ((Int.tdiv (((g p1 3) * (g o 1)) - ((g o 0) * (g p1 4))) (((g o 2) * (g p1 4)) - ((g p1 3) * (g o 3)))) * (g o 3)))) p2 3) * (g o 3))) ((((z_up (z_up g o 0 ((g o 0) + ((Int.tdiv (((g p1 3) * (g o 1)) - ((g o 0) * (g p1 4))) (((g o 2) * (g p1 4)) - ((g p1 3) * (g o 3)))) * (g o 2)))) o 1 ((g o 1) + ((Int.tdiv (((g p1 3) * (g o 1)) - ((g o 0) * (g p1 4))) (((g o 2) * (g p1 4)) - ((g p1 3) * (g o 3)))) * (g o 3)))) p2 3) * ((g o 1) + ((Int.tdiv (((g p1 3) * (g o 1)) - ((g o 0) * (g p1 4))) (((g o 2) * (g p1 4)) - ((g p1 3) * (g o 3)))) * (g o 3)))) - (((g o 0) + ((Int.tdiv (((g p1 3) * (g o 1)) - ((g o 0) * (g p1 4))) (((g o 2) * (g p1 4)) - ((g p1 3) * (g o 3)))) * (g o 2))) * ((z_up (z_up g o 0 ((g o 0) + ((Int.tdiv (((g p1 3) * (g o 1)) - ((g o 0) * (g p1 4))) (((g o 2) * (g p1 4)) - ((g p1 3) * (g o 3)))) * (g o 2)))) o 1 ((g o 1) + ((Int.tdiv (((g p1 3) * (g o 1)) - ((g o 0) * (g p1 4))) (((g o 2) * (g p1 4)) - ((g p1 3) * (g o 3)))) * (g o 3)))) p2 4)))) * ((g o 0) + ((Int.tdiv (((g p1 3) * (g o 1)) - ((g o 0) * (g p1 4))) (((g o 2) * (g p1 4)) - ((g p1 3) * (g o 3)))) * (g o 2)))))) o 3 ((g o 3) + ((Int.tdiv (((g o 2) * ((z_up (z_up g o 0 ((g o 0) + ((Int.tdiv (((g p1 3) * (g o 1)) - ((g o 0) * (g p1 4))) (((g o 2) * (g p1 4)) - ((g p1 3) * (g o 3)))) * (g o 2)))) o 1 ((g o 1) + ((Int.tdiv (((g p1 3) * (g o 1)) - ((g o 0) * (g p1 4))) (((g o 2) * (g p1 4)) - ((g p1 3) * (g o 3)))) * (g o 3)))) p2 4)) - (((z_up (z_up g o 0 ((g o 0) + ((Int.tdiv (((g p1 3) * (g o 1)) - ((g o 0) * (g p1 4))) (((g o 2) * (g p1 4)) - ((g p1 3) * (g o 3)))) * (g o 2)))) o 1 ((g o 1) + ((Int.tdiv (((g p1 3) * (g o 1)) - ((g o 0) * (g p1 4))) (((g o 2) * (g p1 4)) - ((g p1 3) * (g o 3)))) * (g o 3)))) p2 3) * (g o 3))) ((((z_up (z_up g o 0 ((g o 0) + ((Int.tdiv (((g p1 3) * (g o 1)) - ((g o 0) * (g p1 4))) (((g o 2) * (g p1 4)) - ((g p1 3) * (g o 3)))) * (g o 2)))) o 1 ((g o 1) + ((Int.tdiv (((g p1 3) * (g o 1)) - ((g o 0) * (g p1 4))) (((g o 2) * (g p1 4)) - ((g p1 3) * (g o 3)))) * (g o 3)))) p2 3) * ((g o 1) + ((Int.tdiv (((g p1 3) * (g o 1)) - ((g o 0) * (g p1 4))) (((g o 2) * (g p1 4)) - ((g p1 3) * (g o 3)))) * (g o 3)))) - (((g o 0) + ((Int.tdiv (((g p1 3) * (g o 1)) - ((g o 0) * (g p1 4))) (((g o 2) * (g p1 4)) - ((g p1 3) * (g o 3)))) * (g o 2))) * ((z_up (z_up g o 0 ((g o 0) + ((Int.tdiv (((g p1 3) * (g o 1)) - ((g o 0) * (g p1 4))) (((g o 2) * (g p1 4)) - ((g p1 3) * (g o 3)))) * (g o 2)))) o 1 ((g o 1) + ((Int.tdiv (((g p1 3) * (g o 1)) - ((g o 0) * (g p1 4))) (((g o 2) * (g p1 4)) - ((g p1 3) * (g o 3)))) * (g o 3)))) p2 4)))) * ((g o 1) + ((Int.tdiv (((g p1 3) * (g o 1)) - ((g o 0) * (g p1 4))) (((g o 2) * (g p1 4)) - ((g p1 3) * (g o 3)))) * (g o 3)))))) o 0) + ((z_up (z_up (z_up (z_up g o 0 ((g o 0) + ((Int.tdiv (((g p1 3) * (g o 1)) - ((g o 0) * (g p1 4))) (((g o 2) * (g p1 4)) - ((g p1 3) * (g o 3)))) * (g o 2)))) o 1 ((g o 1) + ((Int.tdiv (((g p1 3) * (g o 1)) - ((g o 0) * (g p1 4))) (((g o 2) * (g p1 4)) - ((g p1 3) * (g o 3)))) * (g o 3)))) o 2 ((g o 2) + ((Int.tdiv (((g o 2) * ((z_up (z_up g o 0 ((g o 0) + ((Int.tdiv (((g p1 3) * (g o 1)) - ((g o 0) * (g p1 4))) (((g o 2) * (g p1 4)) - ((g p1 3) * (g o 3)))) * (g o 2)))) o 1 ((g o 1) + ((Int.tdiv (((g p1 3) * (g o 1)) - ((g o 0) * (g p1 4))) (((g o 2) * (g p1 4)) - ((g p1 3) * (g o 3)))) * (g o 3)))) p2 4)) - (((z_up (z_up g o 0 ((g o 0) + ((Int.tdiv (((g p1 3) * (g o 1)) - ((g o 0) * (g p1 4))) (((g o 2) * (g p1 4)) - ((g p1 3) * (g o 3)))) * (g o 2)))) o 1 ((g o 1) + ((Int.tdiv (((g p1 3) * (g o 1)) - ((g o 0) * (g p1 4))) (((g o 2) * (g p1 4)) - ((g p1 3) * (g o 3)))) * (g o 3)))) p2 3) * (g o 3))) ((((z_up (z_up g o 0 ((g o 0) + ((Int.tdiv (((g p1 3) * (g o 1)) - ((g o 0) * (g p1 4))) (((g o 2) * (g p1 4)) - ((g p1 3) * (g o 3)))) * (g o 2)))) o 1 ((g o 1) + ((Int.tdiv (((g p1 3) * (g o 1)) - ((g o 0) * (g p1 4))) (((g o 2) * (g p1 4)) - ((g p1 3) * (g o 3)))) * (g o 3)))) p2 3) * ((g o 1) + ((Int.tdiv (((g p1 3) * (g o 1)) - ((g o 0) * (g p1 4))) (((g o 2) * (g p1 4)) - ((g p1 3) * (g o 3)))) * (g o 3)))) - (((g o 0) + ((Int.tdiv (((g p1 3) * (g o 1)) - ((g o 0) * (g p1 4))) (((g o 2) * (g p1 4)) - ((g p1 3) * (g o 3)))) * (g o 2))) * ((z_up (z_up g o 0 ((g o 0) + ((Int.tdiv (((g p1 3) * (g o 1)) - ((g o 0) * (g p1 4))) (((g o 2) * (g p1 4)) - ((g p1 3) * (g o 3)))) * (g o 2)))) o 1 ((g o 1) + ((Int.tdiv (((g p1 3) * (g o 1)) - ((g o 0) * (g p1 4))) (((g o 2) * (g p1 4)) - ((g p1 3) * (g o 3)))) * (g o 3)))) p2 4)))) * ((g o 0) + ((Int.tdiv (((g p1 3) * (g o 1)) - ((g o 0) * (g p1 4))) (((g o 2) * (g p1 4)) - ((g p1 3) * (g o 3)))) * (g o 2)))))) o 3 ((g o 3) + ((Int.tdiv (((g o 2) * ((z_up (z_up g o 0 ((g o 0) + ((Int.tdiv (((g p1 3) * (g o 1)) - ((g o 0) * (g p1 4))) (((g o 2) * (g p1 4)) - ((g p1 3) * (g o 3)))) * (g o 2)))) o 1 ((g o 1) + ((Int.tdiv (((g p1 3) * (g o 1)) - ((g o 0) * (g p1 4))) (((g o 2) * (g p1 4)) - ((g p1 3) * (g o 3)))) * (g o 3)))) p2 4)) - (((z_up (z_up g o 0 ((g o 0) + ((Int.tdiv (((g p1 3) * (g o 1)) - ((g o 0) * (g p1 4))) (((g o 2) * (g p1 4)) - ((g p1 3) * (g o 3)))) * (g o 2)))) o 1 ((g o 1) + ((Int.tdiv (((g p1 3) * (g o 1)) - ((g o 0) * (g p1 4))) (((g o 2) * (g p1 4)) - ((g p1 3) * (g o 3)))) * (g o 3)))) p2 3) * (g o 3))) ((((z_up (z_up g o 0 ((g o 0) + ((Int.tdiv (((g p1 3) * (g o 1)) - ((g o 0) * (g p1 4))) (((g o 2) * (g p1 4)) - ((g p1 3) * (g o 3)))) * (g o 2)))) o 1 ((g o 1) + ((Int.tdiv (((g p1 3) * (g o 1)) - ((g o 0) * (g p1 4))) (((g o 2) * (g p1 4)) - ((g p1 3) * (g o 3)))) * (g o 3)))) p2 3) * ((g o 1) + ((Int.tdiv (((g p1 3) * (g o 1)) - ((g o 0) * (g p1 4))) (((g o 2) * (g p1 4)) - ((g p1 3) * (g o 3)))) * (g o 3)))) - (((g o 0) + ((Int.tdiv (((g p1 3) * (g o 1)) - ((g o 0) * (g p1 4))) (((g o 2) * (g p1 4)) - ((g p1 3) * (g o 3)))) * (g o 2))) * ((z_up (z_up g o 0 ((g o 0) + ((Int.tdiv (((g p1 3) * (g o 1)) - ((g o 0) * (g p1 4))) (((g o 2) * (g p1 4)) - ((g p1 3) * (g o 3)))) * (g o 2)))) o 1 ((g o 1) + ((Int.tdiv (((g p1 3) * (g o 1)) - ((g o 0) * (g p1 4))) (((g o 2) * (g p1 4)) - ((g p1 3) * (g o 3)))) * (g o 3)))) p2 4)))) * ((g o 1) + ((Int.tdiv (((g p1 3) * (g o 1)) - ((g o 0) * (g p1 4))) (((g o 2) * (g p1 4)) - ((g p1 3) * (g o 3)))) * (g o 3)))))) o 2)) ∧ (((z_up (z_up (z_up (z_up g o 0 ((g o 0) + ((Int.tdiv (((g p1 3) * (g o 1)) - ((g o 0) * (g p1 4))) (((g o 2) * (g p1 4)) - ((g p1 3) * (g o 3)))) * (g o 2)))) o 1 ((g o 1) + ((Int.tdiv (((g p1 3) * (g o 1)) - ((g o 0) * (g p1 4))) (((g o 2) * (g p1 4)) - ((g p1 3) * (g o 3)))) * (g o 3)))) o 2 ((g o 2) + ((Int.tdiv (((g o 2) * ((z_up (z_up g o 0 ((g o 0) + ((Int.tdiv (((g p1 3) * (g o 1)) - ((g o 0) * (g p1 4))) (((g o 2) * (g p1 4)) - ((g p1 3) * (g o 3)))) * (g o 2)))) o 1 ((g o 1) + ((Int.tdiv (((g p1 3) * (g o 1)) - ((g o 0) * (g p1 4))) (((g o 2) * (g p1 4)) - ((g p1 3) * (g o 3)))) * (g o 3)))) p2 4)) - (((z_up (z_up g o 0 ((g o 0) + ((Int.tdiv (((g p1 3) * (g o 1)) - ((g o 0) * (g p1 4))) (((g o 2) * (g p1 4)) - ((g p1 3) * (g o 3)))) * (g o 2)))) o 1 ((g o 1) + ((Int.tdiv (((g p1 3) * (g o 1)) - ((g o 0) * (g p1 4))) (((g o 2) * (g p1 4)) - ((g p1 3) * (g o 3)))) * (g o 3)))) p2 3) * (g o 3))) ((((z_up (z_up g o 0 ((g o 0) + ((Int.tdiv (((g p1 3) * (g o 1)) - ((g o 0) * (g p1 4))) (((g o 2) * (g p1 4)) - ((g p1 3) * (g o 3)))) * (g o 2)))) o 1 ((g o 1) + ((Int.tdiv (((g p1 3) * (g o 1)) - ((g o 0) * (g p1 4))) (((g o 2) * (g p1 4)) - ((g p1 3) * (g o 3)))) * (g o 3)))) p2 3) * ((g o 1) + ((Int.tdiv (((g p1 3) * (g o 1)) - ((g o 0) * (g p1 4))) (((g o 2) * (g p1 4)) - ((g p1 3) * (g o 3)))) * (g o 3)))) - (((g o 0) + ((Int.tdiv (((g p1 3) * (g o 1)) - ((g o 0) * (g p1 4))) (((g o 2) * (g p1 4)) - ((g p1 3) * (g o 3)))) * (g o 2))) * ((z_up (z_up g o 0 ((g o 0) + ((Int.tdiv (((g p1 3) * (g o 1)) - ((g o 0) * (g p1 4))) (((g o 2) * (g p1 4)) - ((g p1 3) * (g o 3)))) * (g o 2)))) o 1 ((g o 1) + ((Int.tdiv (((g p1 3) * (g o 1)) - ((g o 0) * (g p1 4))) (((g o 2) * (g p1 4)) - ((g p1 3) * (g o 3)))) * (g o 3)))) p2 4)))) * ((g o 0) + ((Int.tdiv (((g p1 3) * (g o 1)) - ((g o 0) * (g p1 4))) (((g o 2) * (g p1 4)) - ((g p1 3) * (g o 3)))) * (g o 2)))))) o 3 ((g o 3) + ((Int.tdiv (((g o 2) * ((z_up (z_up g o 0 ((g o 0) + ((Int.tdiv (((g p1 3) * (g o 1)) - ((g o 0) * (g p1 4))) (((g o 2) * (g p1 4)) - ((g p1 3) * (g o 3)))) * (g o 2)))) o 1 ((g o 1) + ((Int.tdiv (((g p1 3) * (g o 1)) - ((g o 0) * (g p1 4))) (((g o 2) * (g p1 4)) - ((g p1 3) * (g o 3)))) * (g o 3)))) p2 4)) - (((z_up (z_up g o 0 ((g o 0) + ((Int.tdiv (((g p1 3) * (g o 1)) - ((g o 0) * (g p1 4))) (((g o 2) * (g p1 4)) - ((g p1 3) * (g o 3)))) * (g o 2)))) o 1 ((g o 1) + ((Int.tdiv (((g p1 3) * (g o 1)) - ((g o 0) * (g p1 4))) (((g o 2) * (g p1 4)) - ((g p1 3) * (g o 3)))) * (g o 3)))) p2 3) * (g o 3))) ((((z_up (z_up g o 0 ((g o 0) + ((Int.tdiv (((g p1 3) * (g o 1)) - ((g o 0) * (g p1 4))) (((g o 2) * (g p1 4)) - ((g p1 3) * (g o 3)))) * (g o 2)))) o 1 ((g o 1) + ((Int.tdiv (((g p1 3) * (g o 1)) - ((g o 0) * (g p1 4))) (((g o 2) * (g p1 4)) - ((g p1 3) * (g o 3)))) * (g o 3)))) p2 3) * ((g o 1) + ((Int.tdiv (((g p1 3) * (g o 1)) - ((g o 0) * (g p1 4))) (((g o 2) * (g p1 4)) - ((g p1 3) * (g o 3)))) * (g o 3)))) - (((g o 0) + ((Int.tdiv (((g p1 3) * (g o 1)) - ((g o 0) * (g p1 4))) (((g o 2) * (g p1 4)) - ((g p1 3) * (g o 3)))) * (g o 2))) * ((z_up (z_up g o 0 ((g o 0) + ((Int.tdiv (((g p1 3) * (g o 1)) - ((g o 0) * (g p1 4))) (((g o 2) * (g p1 4)) - ((g p1 3) * (g o 3)))) * (g o 2)))) o 1 ((g o 1) + ((Int.tdiv (((g p1 3) * (g o 1)) - ((g o 0) * (g p1 4))) (((g o 2) * (g p1 4)) - ((g p1 3) * (g o 3)))) * (g o 3)))) p2 4)))) * ((g o 1) + ((Int.tdiv (((g p1 3) * (g o 1)) - ((g o 0) * (g p1 4))) (((g o 2) * (g p1 4)) - ((g p1 3) * (g o 3)))) * (g o 3)))))) o 0) + ((z_up (z_up (z_up (z_up g o 0 ((g o 0) + ((Int.tdiv (((g p1 3) * (g o 1)) - ((g o 0) * (g p1 4))) (((g o 2) * (g p1 4)) - ((g p1 3) * (g o 3)))) * (g o 2)))) o 1 ((g o 1) + ((Int.tdiv (((g p1 3) * (g o 1)) - ((g o 0) * (g p1 4))) (((g o 2) * (g p1 4)) - ((g p1 3) * (g o 3)))) * (g o 3)))) o 2 ((g o 2) + ((Int.tdiv (((g o 2) * ((z_up (z_up g o 0 ((g o 0) + ((Int.tdiv (((g p1 3) * (g o 1)) - ((g o 0) * (g p1 4))) (((g o 2) * (g p1 4)) - ((g p1 3) * (g o 3)))) * (g o 2)))) o 1 ((g o 1) + ((Int.tdiv (((g p1 3) * (g o 1)) - ((g o 0) * (g p1 4))) (((g o 2) * (g p1 4)) - ((g p1 3) * (g o 3)))) * (g o 3)))) p2 4)) - (((z_up (z_up g o 0 ((g o 0) + ((Int.tdiv (((g p1 3) * (g o 1)) - ((g o 0) * (g p1 4))) (((g o 2) * (g p1 4)) - ((g p1 3) * (g o 3)))) * (g o 2)))) o 1 ((g o 1) + ((Int.tdiv (((g p1 3) * (g o 1)) - ((g o 0) * (g p1 4))) (((g o 2) * (g p1 4)) - ((g p1 3) * (g o 3)))) * (g o 3)))) p2 3) * (g o 3))) ((((z_up (z_up g o 0 ((g o 0) + ((Int.tdiv (((g p1 3) * (g o 1)) - ((g o 0) * (g p1 4))) (((g o 2) * (g p1 4)) - ((g p1 3) * (g o 3)))) * (g o 2)))) o 1 ((g o 1) + ((Int.tdiv (((g p1 3) * (g o 1)) - ((g o 0) * (g p1 4))) (((g o 2) * (g p1 4)) - ((g p1 3) * (g o 3)))) * (g o 3)))) p2 3) * ((g o 1) + ((Int.tdiv (((g p1 3) * (g o 1)) - ((g o 0) * (g p1 4))) (((g o 2) * (g p1 4)) - ((g p1 3) * (g o 3)))) * (g o 3)))) - (((g o 0) + ((Int.tdiv (((g p1 3) * (g o 1)) - ((g o 0) * (g p1 4))) (((g o 2) * (g p1 4)) - ((g p1 3) * (g o 3)))) * (g o 2))) * ((z_up (z_up g o 0 ((g o 0) + ((Int.tdiv (((g p1 3) * (g o 1)) - ((g o 0) * (g p1 4))) (((g o 2) * (g p1 4)) - ((g p1 3) * (g o 3)))) * (g o 2)))) o 1 ((g o 1) + ((Int.tdiv (((g p1 3) * (g o 1)) - ((g o 0) * (g p1 4))) (((g o 2) * (g p1 4)) - ((g p1 3) * (g o 3)))) * (g o 3)))) p2 4)))) * ((g o 0) + ((Int.tdiv (((g p1 3) * (g o 1)) - ((g o 0) * (g p1 4))) (((g o 2) * (g p1 4)) - ((g p1 3) * (g o 3)))) * (g o 2)))))) o 3 ((g o 3) + ((Int.tdiv (((g o 2) * ((z_up (z_up g o 0 ((g o 0) + ((Int.tdiv (((g p1 3) * (g o 1)) - ((g o 0) * (g p1 4))) (((g o 2) * (g p1 4)) - ((g p1 3) * (g o 3)))) * (g o 2)))) o 1 ((g o 1) + ((Int.tdiv (((g p1 3) * (g o 1)) - ((g o 0) * (g p1 4))) (((g o 2) * (g p1 4)) - ((g p1 3) * (g o 3)))) * (g o 3)))) p2 4)) - (((z_up (z_up g o 0 ((g o 0) + ((Int.tdiv (((g p1 3) * (g o 1)) - ((g o 0) * (g p1 4))) (((g o 2) * (g p1 4)) - ((g p1 3) * (g o 3)))) * (g o 2)))) o 1 ((g o 1) + ((Int.tdiv (((g p1 3) * (g o 1)) - ((g o 0) * (g p1 4))) (((g o 2) * (g p1 4)) - ((g p1 3) * (g o 3)))) * (g o 3)))) p2 3) * (g o 3))) ((((z_up (z_up g o 0 ((g o 0) + ((Int.tdiv (((g p1 3) * (g o 1)) - ((g o 0) * (g p1 4))) (((g o 2) * (g p1 4)) - ((g p1 3) * (g o 3)))) * (g o 2)))) o 1 ((g o 1) + ((Int.tdiv (((g p1 3) * (g o 1)) - ((g o 0) * (g p1 4))) (((g o 2) * (g p1 4)) - ((g p1 3) * (g o 3)))) * (g o 3)))) p2 3) * ((g o 1) + ((Int.tdiv (((g p1 3) * (g o 1)) - ((g o 0) * (g p1 4))) (((g o 2) * (g p1 4)) - ((g p1 3) * (g o 3)))) * (g o 3)))) - (((g o 0) + ((Int.tdiv (((g p1 3) * (g o 1)) - ((g o 0) * (g p1 4))) (((g o 2) * (g p1 4)) - ((g p1 3) * (g o 3)))) * (g o 2))) * ((z_up (z_up g o 0 ((g o 0) + ((Int.tdiv (((g p1 3) * (g o 1)) - ((g o 0) * (g p1 4))) (((g o 2) * (g p1 4)) - ((g p1 3) * (g o 3)))) * (g o 2)))) o 1 ((g o 1) + ((Int.tdiv (((g p1 3) * (g o 1)) - ((g o 0) * (g p1 4))) (((g o 2) * (g p1 4)) - ((g p1 3) * (g o 3)))) * (g o 3)))) p2 4)))) * ((g o 1) + ((Int.tdiv (((g p1 3) * (g o 1)) - ((g o 0) * (g p1 4))) (((g o 2) * (g p1 4)) - ((g p1 3) * (g o 3)))) * (g o 3)))))) o 2)) ≤ 2147483647) ∧ ((-2147483648 ≤ (((z_up (z_up (z_up (z_up g o 0 ((g o 0) + ((Int.tdiv (((g p1 3) * (g o 1)) - ((g o 0) * (g p1 4))) (((g o 2) * (g p1 4)) - ((g p1 3) * (g o 3)))) * (g o 2)))) o 1 ((g o 1) + ((Int.tdiv (((g p1 3) * (g o 1)) - ((g o 0) * (g p1 4))) (((g o 2) * (g p1 4)) - ((g p1 3) * (g o 3)))) * (g o 3)))) o 2 ((g o 2) + ((Int.tdiv (((g o 2) * ((z_up (z_up g o 0 ((g o 0) + ((Int.tdiv (((g p1 3) * (g o 1)) - ((g o 0) * (g p1 4))) (((g o 2) * (g p1 4)) - ((g p1 3) * (g o 3)))) * (g o 2)))) o 1 ((g o 1) + ((Int.tdiv (((g p1 3) * (g o 1)) - ((g o 0) * (g p1 4))) (((g o 2) * (g p1 4)) - ((g p1 3) * (g o 3)))) * (g o 3)))) p2 4)) - (((z_up (z_up g o 0 ((g o 0) + ((Int.tdiv (((g p1 3) * (g o 1)) - ((g o 0) * (g p1 4))) (((g o 2) * (g p1 4)) - ((g p1 3) * (g o 3)))) * (g o 2)))) o 1 ((g o 1) + ((Int.tdiv (((g p1 3) * (g o 1)) - ((g o 0) * (g p1 4))) (((g o 2) * (g p1 4)) - ((g p1 3) * (g o 3)))) * (g o 3)))) p2 3) * (g o 3))) ((((z_up (z_up g o 0 ((g o 0) + ((Int.tdiv (((g p1 3) * (g o 1)) - ((g o 0) * (g p1 4))) (((g o 2) * (g p1 4)) - ((g p1 3) * (g o 3)))) * (g o 2)))) o 1 ((g o 1) + ((Int.tdiv (((g p1 3) * (g o 1)) - ((g o 0) * (g p1 4))) (((g o 2) * (g p1 4)) - ((g p1 3) * (g o 3)))) * (g o 3)))) p2 3) * ((g o 1) + ((Int.tdiv (((g p1 3) * (g o 1)) - ((g o 0) * (g p1 4))) (((g o 2) * (g p1 4)) - ((g p1 3) * (g o 3)))) * (g o 3)))) - (((g o 0) + ((Int.tdiv (((g p1 3) * (g o 1)) - ((g o 0) * (g p1 4))) (((g o 2) * (g p1 4)) - ((g p1 3) * (g o 3)))) * (g o 2))) * ((z_up (z_up g o 0 ((g o 0) + ((Int.tdiv (((g p1 3) * (g o 1)) - ((g o 0) * (g p1 4))) (((g o 2) * (g p1 4)) - ((g p1 3) * (g o 3)))) * (g o 2)))) o 1 ((g o 1) + ((Int.tdiv (((g p1 3) * (g o 1)) - ((g o 0) * (g p1 4))) (((g o 2) * (g p1 4)) - ((g p1 3) * (g o 3)))) * (g o 3)))) p2 4)))) * ((g o 0) + ((Int.tdiv (((g p1 3) * (g o 1)) - ((g o 0) * (g p1 4))) (((g o 2) * (g p1 4)) - ((g p1 3) * (g o 3)))) * (g o 2)))))) o 3 ((g o 3) + ((Int.tdiv (((g o 2) * ((z_up (z_up g o 0 ((g o 0) + ((Int.tdiv (((g p1 3) * (g o 1)) - ((g o 0) * (g p1 4))) (((g o 2) * (g p1 4)) - ((g p1 3) * (g o 3)))) * (g o 2)))) o 1 ((g o 1) + ((Int.tdiv (((g p1 3) * (g o 1)) - ((g o 0) * (g p1 4))) (((g o 2) * (g p1 4)) - ((g p1 3) * (g o 3)))) * (g o 3)))) p2 4)) - (((z_up (z_up g o 0 ((g o 0) + ((Int.tdiv (((g p1 3) * (g o 1)) - ((g o 0) * (g p1 4))) (((g o 2) * (g p1 4)) - ((g p1 3) * (g o 3)))) * (g o 2)))) o 1 ((g o 1) + ((Int.tdiv (((g p1 3) * (g o 1)) - ((g o 0) * (g p1 4))) (((g o 2) * (g p1 4)) - ((g p1 3) * (g o 3)))) * (g o 3)))) p2 3) * (g o 3))) ((((z_up (z_up g o 0 ((g o 0) + ((Int.tdiv (((g p1 3) * (g o 1)) - ((g o 0) * (g p1 4))) (((g o 2) * (g p1 4)) - ((g p1 3) * (g o 3)))) * (g o 2)))) o 1 ((g o 1) + ((Int.tdiv (((g p1 3) * (g o 1)) - ((g o 0) * (g p1 4))) (((g o 2) * (g p1 4)) - ((g p1 3) * (g o 3)))) * (g o 3)))) p2 3) * ((g o 1) + ((Int.tdiv (((g p1 3) * (g o 1)) - ((g o 0) * (g p1 4))) (((g o 2) * (g p1 4)) - ((g p1 3) * (g o 3)))) * (g o 3)))) - (((g o 0) + ((Int.tdiv (((g p1 3) * (g o 1)) - ((g o 0) * (g p1 4))) (((g o 2) * (g p1 4)) - ((g p1 3) * (g o 3)))) * (g o 2))) * ((z_up (z_up g o 0 ((g o 0) + ((Int.tdiv (((g p1 3) * (g o 1)) - ((g o 0) * (g p1 4))) (((g o 2) * (g p1 4)) - ((g p1 3) * (g o 3)))) * (g o 2)))) o 1 ((g o 1) + ((Int.tdiv (((g p1 3) * (g o 1)) - ((g o 0) * (g p1 4))) (((g o 2) * (g p1 4)) - ((g p1 3) * (g o 3)))) * (g o 3)))) p2 4)))) * ((g o 1) + ((Int.tdiv (((g p1 3) * (g o 1)) - ((g o 0) * (g p1 4))) (((g o 2) * (g p1 4)) - ((g p1 3) * (g o 3)))) * (g o 3)))))) o 1) + ((z_up (z_up (z_up (z_up g o 0 ((g o 0) + ((Int.tdiv (((g p1 3) * (g o 1)) - ((g o 0) * (g p1 4))) (((g o 2) * (g p1 4)) - ((g p1 3) * (g o 3)))) * (g o 2)))) o 1 ((g o 1) + ((Int.tdiv (((g p1 3) * (g o 1)) - ((g o 0) * (g p1 4))) (((g o 2) * (g p1 4)) - ((g p1 3) * (g o 3)))) * (g o 3)))) o 2 ((g o 2) + ((Int.tdiv (((g o 2) * ((z_up (z_up g o 0 ((g o 0) + ((Int.tdiv (((g p1 3) * (g o 1)) - ((g o 0) * (g p1 4))) (((g o 2) * (g p1 4)) - ((g p1 3) * (g o 3)))) * (g o 2)))) o 1 ((g o 1) + ((Int.tdiv (((g p1 3) * (g o 1)) - ((g o 0) * (g p1 4))) (((g o 2) * (g p1 4)) - ((g p1 3) * (g o 3)))) * (g o 3)))) p2 4)) - (((z_up (z_up g o 0 ((g o 0) + ((Int.tdiv (((g p1 3) * (g o 1)) - ((g o 0) * (g p1 4))) (((g o 2) * (g p1 4)) - ((g p1 3) * (g o 3)))) * (g o 2)))) o 1 ((g o 1) + ((Int.tdiv (((g p1 3) * (g o 1)) - ((g o 0) * (g p1 4))) (((g o 2) * (g p1 4)) - ((g p1 3) * (g o 3)))) * (g o 3)))) p2 3) * (g o 3))) ((((z_up (z_up g o 0 ((g o 0) + ((Int.tdiv (((g p1 3) * (g o 1)) - ((g o 0) * (g p1 4))) (((g o 2) * (g p1 4)) - ((g p1 3) * (g o 3)))) * (g o 2)))) o 1 ((g o 1) + ((Int.tdiv (((g p1 3) * (g o 1)) - ((g o 0) * (g p1 4))) (((g o 2) * (g p1 4)) - ((g p1 3) * (g o 3)))) * (g o 3)))) p2 3) * ((g o 1) + ((Int.tdiv (((g p1 3) * (g o 1)) - ((g o 0) * (g p1 4))) (((g o 2) * (g p1 4)) - ((g p1 3) * (g o 3)))) * (g o 3)))) - (((g o 0) + ((Int.tdiv (((g p1 3) * (g o 1)) - ((g o 0) * (g p1 4))) (((g o 2) * (g p1 4)) - ((g p1 3) * (g o 3)))) * (g o 2))) * ((z_up (z_up g o 0 ((g o 0) + ((Int.tdiv (((g p1 3) * (g o 1)) - ((g o 0) * (g p1 4))) (((g o 2) * (g p1 4)) - ((g p1 3) * (g o 3)))) * (g o 2)))) o 1 ((g o 1) + ((Int.tdiv (((g p1 3) * (g o 1)) - ((g o 0) * (g p1 4))) (((g o 2) * (g p1 4)) - ((g p1 3) * (g o 3)))) * (g o 3)))) p2 4)))) * ((g o 0) + ((Int.tdiv (((g p1 3) * (g o 1)) - ((g o 0) * (g p1 4))) (((g o 2) * (g p1 4)) - ((g p1 3) * (g o 3)))) * (g o 2)))))) o 3 ((g o 3) + ((Int.tdiv (((g o 2) * ((z_up (z_up g o 0 ((g o 0) + ((Int.tdiv (((g p1 3) * (g o 1)) - ((g o 0) * (g p1 4))) (((g o 2) * (g p1 4)) - ((g p1 3) * (g o 3)))) * (g o 2)))) o 1 ((g o 1) + ((Int.tdiv (((g p1 3) * (g o 1)) - ((g o 0) * (g p1 4))) (((g o 2) * (g p1 4)) - ((g p1 3) * (g o 3)))) * (g o 3)))) p2 4)) - (((z_up (z_up g o 0 ((g o 0) + ((Int.tdiv (((g p1 3) * (g o 1)) - ((g o 0) * (g p1 4))) (((g o 2) * (g p1 4)) - ((g p1 3) * (g o 3)))) * (g o 2)))) o 1 ((g o 1) + ((Int.tdiv (((g p1 3) * (g o 1)) - ((g o 0) * (g p1 4))) (((g o 2) * (g p1 4)) - ((g p1 3) * (g o 3)))) * (g o 3)))) p2 3) * (g o 3))) ((((z_up (z_up g o 0 ((g o 0) + ((Int.tdiv (((g p1 3) * (g o 1)) - ((g o 0) * (g p1 4))) (((g o 2) * (g p1 4)) - ((g p1 3) * (g o 3)))) * (g o 2)))) o 1 ((g o 1) + ((Int.tdiv (((g p1 3) * (g o 1)) - ((g o 0) * (g p1 4))) (((g o 2) * (g p1 4)) - ((g p1 3) * (g o 3)))) * (g o 3)))) p2 3) * ((g o 1) + ((Int.tdiv (((g p1 3) * (g o 1)) - ((g o 0) * (g p1 4))) (((g o 2) * (g p1 4)) - ((g p1 3) * (g o 3)))) * (g o 3)))) - (((g o 0) + ((Int.tdiv (((g p1 3) * (g o 1)) - ((g o 0) * (g p1 4))) (((g o 2) * (g p1 4)) - ((g p1 3) * (g o 3)))) * (g o 2))) * ((z_up (z_up g o 0 ((g o 0) + ((Int.tdiv (((g p1 3) * (g o 1)) - ((g o 0) * (g p1 4))) (((g o 2) * (g p1 4)) - ((g p1 3) * (g o 3)))) * (g o 2)))) o 1 ((g o 1) + ((Int.tdiv (((g p1 3) * (g o 1)) - ((g o 0) * (g p1 4))) (((g o 2) * (g p1 4)) - ((g p1 3) * (g o 3)))) * (g o 3)))) p2 4)))) * ((g o 1) + ((Int.tdiv (((g p1 3) * (g o 1)) - ((g o 0) * (g p1 4))) (((g o 2) * (g p1 4)) - ((g p1 3) * (g o 3)))) * (g o 3)))))) o 3)) ∧ (((z_up (z_up (z_up (z_up g o 0 ((g o 0) + ((Int.tdiv (((g p1 3) * (g o 1)) - ((g o 0) * (g p1 4))) (((g o 2) * (g p1 4)) - ((g p1 3) * (g o 3)))) * (g o 2)))) o 1 ((g o 1) + ((Int.tdiv (((g p1 3) * (g o 1)) - ((g o 0) * (g p1 4))) (((g o 2) * (g p1 4)) - ((g p1 3) * (g o 3)))) * (g o 3)))) o 2 ((g o 2) + ((Int.tdiv (((g o 2) * ((z_up (z_up g o 0 ((g o 0) + ((Int.tdiv (((g p1 3) * (g o 1)) - ((g o 0) * (g p1 4))) (((g o 2) * (g p1 4)) - ((g p1 3) * (g o 3)))) * (g o 2)))) o 1 ((g o 1) + ((Int.tdiv (((g p1 3) * (g o 1)) - ((g o 0) * (g p1 4))) (((g o 2) * (g p1 4)) - ((g p1 3) * (g o 3)))) * (g o 3)))) p2 4)) - (((z_up (z_up g o 0 ((g o 0) + ((Int.tdiv (((g p1 3) * (g o 1)) - ((g o 0) * (g p1 4))) (((g o 2) * (g p1 4)) - ((g p1 3) * (g o 3)))) * (g o 2)))) o 1 ((g o 1) + ((Int.tdiv (((g p1 3) * (g o 1)) - ((g o 0) * (g p1 4))) (((g o 2) * (g p1 4)) - ((g p1 3) * (g o 3)))) * (g o 3)))) p2 3) * (g o 3))) ((((z_up (z_up g o 0 ((g o 0) + ((Int.tdiv (((g p1 3) * (g o 1)) - ((g o 0) * (g p1 4))) (((g o 2) * (g p1 4)) - ((g p1 3) * (g o 3)))) * (g o 2)))) o 1 ((g o 1) + ((Int.tdiv (((g p1 3) * (g o 1)) - ((g o 0) * (g p1 4))) (((g o 2) * (g p1 4)) - ((g p1 3) * (g o 3)))) * (g o 3)))) p2 3) * ((g o 1) + ((Int.tdiv (((g p1 3) * (g o 1)) - ((g o 0) * (g p1 4))) (((g o 2) * (g p1 4)) - ((g p1 3) * (g o 3)))) * (g o 3)))) - (((g o 0) + ((Int.tdiv (((g p1 3) * (g o 1)) - ((g o 0) * (g p1 4))) (((g o 2) * (g p1 4)) - ((g p1 3) * (g o 3)))) * (g o 2))) * ((z_up (z_up g o 0 ((g o 0) + ((Int.tdiv (((g p1 3) * (g o 1)) - ((g o 0) * (g p1 4))) (((g o 2) * (g p1 4)) - ((g p1 3) * (g o 3)))) * (g o 2)))) o 1 ((g o 1) + ((Int.tdiv (((g p1 3) * (g o 1)) - ((g o 0) * (g p1 4))) (((g o 2) * (g p1 4)) - ((g p1 3) * (g o 3)))) * (g o 3)))) p2 4)))) * ((g o 0) + ((Int.tdiv (((g p1 3) * (g o 1)) - ((g o 0) * (g p1 4))) (((g o 2) * (g p1 4)) - ((g p1 3) * (g o 3)))) * (g o 2)))))) o 3 ((g o 3) + ((Int.tdiv (((g o 2) * ((z_up (z_up g o 0 ((g o 0) + ((Int.tdiv (((g p1 3) * (g o 1)) - ((g o 0) * (g p1 4))) (((g o 2) * (g p1 4)) - ((g p1 3) * (g o 3)))) * (g o 2)))) o 1 ((g o 1) + ((Int.tdiv (((g p1 3) * (g o 1)) - ((g o 0) * (g p1 4))) (((g o 2) * (g p1 4)) - ((g p1 3) * (g o 3)))) * (g o 3)))) p2 4)) - (((z_up (z_up g o 0 ((g o 0) + ((Int.tdiv (((g p1 3) * (g o 1)) - ((g o 0) * (g p1 4))) (((g o 2) * (g p1 4)) - ((g p1 3) * (g o 3)))) * (g o 2)))) o 1 ((g o 1) + ((Int.tdiv (((g p1 3) * (g o 1)) - ((g o 0) * (g p1 4))) (((g o 2) * (g p1 4)) - ((g p1 3) * (g o 3)))) * (g o 3)))) p2 3) * (g o 3))) ((((z_up (z_up g o 0 ((g o 0) + ((Int.tdiv (((g p1 3) * (g o 1)) - ((g o 0) * (g p1 4))) (((g o 2) * (g p1 4)) - ((g p1 3) * (g o 3)))) * (g o 2)))) o 1 ((g o 1) + ((Int.tdiv (((g p1 3) * (g o 1)) - ((g o 0) * (g p1 4))) (((g o 2) * (g p1 4)) - ((g p1 3) * (g o 3)))) * (g o 3)))) p2 3) * ((g o 1) + ((Int.tdiv (((g p1 3) * (g o 1)) - ((g o 0) * (g p1 4))) (((g o 2) * (g p1 4)) - ((g p1 3) * (g o 3)))) * (g o 3)))) - (((g o 0) + ((Int.tdiv (((g p1 3) * (g o 1)) - ((g o 0) * (g p1 4))) (((g o 2) * (g p1 4)) - ((g p1 3) * (g o 3)))) * (g o 2))) * ((z_up (z_up g o 0 ((g o 0) + ((Int.tdiv (((g p1 3) * (g o 1)) - ((g o 0) * (g p1 4))) (((g o 2) * (g p1 4)) - ((g p1 3) * (g o 3)))) * (g o 2)))) o 1 ((g o 1) + ((Int.tdiv (((g p1 3) * (g o 1)) - ((g o 0) * (g p1 4))) (((g o 2) * (g p1 4)) - ((g p1 3) * (g o 3)))) * (g o 3)))) p2 4)))) * ((g o 1) + ((Int.tdiv (((g p1 3) * (g o 1)) - ((g o 0) * (g p1 4))) (((g o 2) * (g p1 4)) - ((g p1 3) * (g o 3)))) * (g o 3)))))) o 1) + ((z_up (z_up (z_up (z_up g o 0 ((g o 0) + ((Int.tdiv (((g p1 3) * (g o 1)) - ((g o 0) * (g p1 4))) (((g o 2) * (g p1 4)) - ((g p1 3) * (g o 3)))) * (g o 2)))) o 1 ((g o 1) + ((Int.tdiv (((g p1 3) * (g o 1)) - ((g o 0) * (g p1 4))) (((g o 2) * (g p1 4)) - ((g p1 3) * (g o 3)))) * (g o 3)))) o 2 ((g o 2) + ((Int.tdiv (((g o 2) * ((z_up (z_up g o 0 ((g o 0) + ((Int.tdiv (((g p1 3) * (g o 1)) - ((g o 0) * (g p1 4))) (((g o 2) * (g p1 4)) - ((g p1 3) * (g o 3)))) * (g o 2)))) o 1 ((g o 1) + ((Int.tdiv (((g p1 3) * (g o 1)) - ((g o 0) * (g p1 4))) (((g o 2) * (g p1 4)) - ((g p1 3) * (g o 3)))) * (g o 3)))) p2 4)) - (((z_up (z_up g o 0 ((g o 0) + ((Int.tdiv (((g p1 3) * (g o 1)) - ((g o 0) * (g p1 4))) (((g o 2) * (g p1 4)) - ((g p1 3) * (g o 3)))) * (g o 2)))) o 1 ((g o 1) + ((Int.tdiv (((g p1 3) * (g o 1)) - ((g o 0) * (g p1 4))) (((g o 2) * (g p1 4)) - ((g p1 3) * (g o 3)))) * (g o 3)))) p2 3) * (g o 3))) ((((z_up (z_up g o 0 ((g o 0) + ((Int.tdiv (((g p1 3) * (g o 1)) - ((g o 0) * (g p1 4))) (((g o 2) * (g p1 4)) - ((g p1 3) * (g o 3)))) * (g o 2)))) o 1 ((g o 1) + ((Int.tdiv (((g p1 3) * (g o 1)) - ((g o 0) * (g p1 4))) (((g o 2) * (g p1 4)) - ((g p1 3) * (g o 3)))) * (g o 3)))) p2 3) * ((g o 1) + ((Int.tdiv (((g p1 3) * (g o 1)) - ((g o 0) * (g p1 4))) (((g o 2) * (g p1 4)) - ((g p1 3) * (g o 3)))) * (g o 3)))) - (((g o 0) + ((Int.tdiv (((g p1 3) * (g o 1)) - ((g o 0) * (g p1 4))) (((g o 2) * (g p1 4)) - ((g p1 3) * (g o 3)))) * (g o 2))) * ((z_up (z_up g o 0 ((g o 0) + ((Int.tdiv (((g p1 3) * (g o 1)) - ((g o 0) * (g p1 4))) (((g o 2) * (g p1 4)) - ((g p1 3) * (g o 3)))) * (g o 2)))) o 1 ((g o 1) + ((Int.tdiv (((g p1 3) * (g o 1)) - ((g o 0) * (g p1 4))) (((g o 2) * (g p1 4)) - ((g p1 3) * (g o 3)))) * (g o 3)))) p2 4)))) * ((g o 0) + ((Int.tdiv (((g p1 3) * (g o 1)) - ((g o 0) * (g p1 4))) (((g o 2) * (g p1 4)) - ((g p1 3) * (g o 3)))) * (g o 2)))))) o 3 ((g o 3) + ((Int.tdiv (((g o 2) * ((z_up (z_up g o 0 ((g o 0) + ((Int.tdiv (((g p1 3) * (g o 1)) - ((g o 0) * (g p1 4))) (((g o 2) * (g p1 4)) - ((g p1 3) * (g o 3)))) * (g o 2)))) o 1 ((g o 1) + ((Int.tdiv (((g p1 3) * (g o 1)) - ((g o 0) * (g p1 4))) (((g o 2) * (g p1 4)) - ((g p1 3) * (g o 3)))) * (g o 3)))) p2 4)) - (((z_up (z_up g o 0 ((g o 0) + ((Int.tdiv (((g p1 3) * (g o 1)) - ((g o 0) * (g p1 4))) (((g o 2) * (g p1 4)) - ((g p1 3) * (g o 3)))) * (g o 2)))) o 1 ((g o 1) + ((Int.tdiv (((g p1 3) * (g o 1)) - ((g o 0) * (g p1 4))) (((g o 2) * (g p1 4)) - ((g p1 3) * (g o 3)))) * (g o 3)))) p2 3) * (g o 3))) ((((z_up (z_up g o 0 ((g o 0) + ((Int.tdiv (((g p1 3) * (g o 1)) - ((g o 0) * (g p1 4))) (((g o 2) * (g p1 4)) - ((g p1 3) * (g o 3)))) * (g o 2)))) o 1 ((g o 1) + ((Int.tdiv (((g p1 3) * (g o 1)) - ((g o 0) * (g p1 4))) (((g o 2) * (g p1 4)) - ((g p1 3) * (g o 3)))) * (g o 3)))) p2 3) * ((g o 1) + ((Int.tdiv (((g p1 3) * (g o 1)) - ((g o 0) * (g p1 4))) (((g o 2) * (g p1 4)) - ((g p1 3) * (g o 3)))) * (g o 3)))) - (((g o 0) + ((Int.tdiv (((g p1 3) * (g o 1)) - ((g o 0) * (g p1 4))) (((g o 2) * (g p1 4)) - ((g p1 3) * (g o 3)))) * (g o 2))) * ((z_up (z_up g o 0 ((g o 0) + ((Int.tdiv (((g p1 3) * (g o 1)) - ((g o 0) * (g p1 4))) (((g o 2) * (g p1 4)) - ((g p1 3) * (g o 3)))) * (g o 2)))) o 1 ((g o 1) + ((Int.tdiv (((g p1 3) * (g o 1)) - ((g o 0) * (g p1 4))) (((g o 2) * (g p1 4)) - ((g p1 3) * (g o 3)))) * (g o 3)))) p2 4)))) * ((g o 1) + ((Int.tdiv (((g p1 3) * (g o 1)) - ((g o 0) * (g p1 4))) (((g o 2) * (g p1 4)) - ((g p1 3) * (g o 3)))) * (g o 3)))))) o 3)) ≤ 2147483647) ∧ ((-9223372036854775808 ≤ ((((z_up (z_up (z_up (z_up g o 0 ((g o 0) + ((Int.tdiv (((g p1 3) * (g o 1)) - ((g o 0) * (g p1 4))) (((g o 2) * (g p1 4)) - ((g p1 3) * (g o 3)))) * (g o 2)))) o 1 ((g o 1) + ((Int.tdiv (((g p1 3) * (g o 1)) - ((g o 0) * (g p1 4))) (((g o 2) * (g p1 4)) - ((g p1 3) * (g o 3)))) * (g o 3)))) o 2 ((g o 2) + ((Int.tdiv (((g o 2) * ((z_up (z_up g o 0 ((g o 0) + ((Int.tdiv (((g p1 3) * (g o 1)) - ((g o 0) * (g p1 4))) (((g o 2) * (g p1 4)) - ((g p1 3) * (g o 3)))) * (g o 2)))) o 1 ((g o 1) + ((Int.tdiv (((g p1 3) * (g o 1)) - ((g o 0) * (g p1 4))) (((g o 2) * (g p1 4)) - ((g p1 3) * (g o 3)))) * (g o 3)))) p2 4)) - (((z_up (z_up g o 0 ((g o 0) + ((Int.tdiv (((g p1 3) * (g o 1)) - ((g o 0) * (g p1 4))) (((g o 2) * (g p1 4)) - ((g p1 3) * (g o 3)))) * (g o 2)))) o 1 ((g o 1) + ((Int.tdiv (((g p1 3) * (g o 1)) - ((g o 0) * (g p1 4))) (((g o 2) * (g p1 4)) - ((g p1 3) * (g o 3)))) * (g o 3)))) p2 3) * (g o 3))) ((((z_up (z_up g o 0 ((g o 0) + ((Int.tdiv (((g p1 3) * (g o 1)) - ((g o 0) * (g p1 4))) (((g o 2) * (g p1 4)) - ((g p1 3) * (g o 3)))) * (g o 2)))) o 1 ((g o 1) + ((Int.tdiv (((g p1 3) * (g o 1)) - ((g o 0) * (g p1 4))) (((g o 2) * (g p1 4)) - ((g p1 3) * (g o 3)))) * (g o 3)))) p2 3) * ((g o 1) + ((Int.tdiv (((g p1 3) * (g o 1)) - ((g o 0) * (g p1 4))) (((g o 2) * (g p1 4)) - ((g p1 3) * (g o 3)))) * (g o 3)))) - (((g o 0) + ((Int.tdiv (((g p1 3) * (g o 1)) - ((g o 0) * (g p1 4))) (((g o 2) * (g p1 4)) - ((g p1 3) * (g o 3)))) * (g o 2))) * ((z_up (z_up g o 0 ((g o 0) + ((Int.tdiv (((g p1 3) * (g o 1)) - ((g o 0) * (g p1 4))) (((g o 2) * (g p1 4)) - ((g p1 3) * (g o 3)))) * (g o 2)))) o 1 ((g o 1) + ((Int.tdiv (((g p1 3) * (g o 1)) - ((g o 0) * (g p1 4))) (((g o 2) * (g p1 4)) - ((g p1 3) * (g o 3)))) * (g o 3)))) p2 4)))) * ((g o 0) + ((Int.tdiv (((g p1 3) * (g o 1)) - ((g o 0) * (g p1 4))) (((g o 2) * (g p1 4)) - ((g p1 3) * (g o 3)))) * (g o 2)))))) o 3 ((g o 3) + ((Int.tdiv (((g o 2) * ((z_up (z_up g o 0 ((g o 0) + ((Int.tdiv (((g p1 3) * (g o 1)) - ((g o 0) * (g p1 4))) (((g o 2) * (g p1 4)) - ((g p1 3) * (g o 3)))) * (g o 2)))) o 1 ((g o 1) + ((Int.tdiv (((g p1 3) * (g o 1)) - ((g o 0) * (g p1 4))) (((g o 2) * (g p1 4)) - ((g p1 3) * (g o 3)))) * (g o 3)))) p2 4)) - (((z_up (z_up g o 0 ((g o 0) + ((Int.tdiv (((g p1 3) * (g o 1)) - ((g o 0) * (g p1 4))) (((g o 2) * (g p1 4)) - ((g p1 3) * (g o 3)))) * (g o 2)))) o 1 ((g o 1) + ((Int.tdiv (((g p1 3) * (g o 1)) - ((g o 0) * (g p1 4))) (((g o 2) * (g p1 4)) - ((g p1 3) * (g o 3)))) * (g o 3)))) p2 3) * (g o 3))) ((((z_up (z_up g o 0 ((g o 0) + ((Int.tdiv (((g p1 3) * (g o 1)) - ((g o 0) * (g p1 4))) (((g o 2) * (g p1 4)) - ((g p1 3) * (g o 3)))) * (g o 2)))) o 1 ((g o 1) + ((Int.tdiv (((g p1 3) * (g o 1)) - ((g o 0) * (g p1 4))) (((g o 2) * (g p1 4)) - ((g p1 3) * (g o 3)))) * (g o 3)))) p2 3) * ((g o 1) + ((Int.tdiv (((g p1 3) * (g o 1)) - ((g o 0) * (g p1 4))) (((g o 2) * (g p1 4)) - ((g p1 3) * (g o 3)))) * (g o 3)))) - (((g o 0) + ((Int.tdiv (((g p1 3) * (g o 1)) - ((g o 0) * (g p1 4))) (((g o 2) * (g p1 4)) - ((g p1 3) * (g o 3)))) * (g o 2))) * ((z_up (z_up g o 0 ((g o 0) + ((Int.tdiv (((g p1 3) * (g o 1)) - ((g o 0) * (g p1 4))) (((g o 2) * (g p1 4)) - ((g p1 3) * (g o 3)))) * (g o 2)))) o 1 ((g o 1) + ((Int.tdiv (((g p1 3) * (g o 1)) - ((g o 0) * (g p1 4))) (((g o 2) * (g p1 4)) - ((g p1 3) * (g o 3)))) * (g o 3)))) p2 4)))) * ((g o 1) + ((Int.tdiv (((g p1 3) * (g o 1)) - ((g o 0) * (g p1 4))) (((g o 2) * (g p1 4)) - ((g p1 3) * (g o 3)))) * (g o 3)))))) o 0) + ((z_up (z_up (z_up (z_up g o 0 ((g o 0) + ((Int.tdiv (((g p1 3) * (g o 1)) - ((g o 0) * (g p1 4))) (((g o 2) * (g p1 4)) - ((g p1 3) * (g o 3)))) * (g o 2)))) o 1 ((g o 1) + ((Int.tdiv (((g p1 3) * (g o 1)) - ((g o 0) * (g p1 4))) (((g o 2) * (g p1 4)) - ((g p1 3) * (g o 3)))) * (g o 3)))) o 2 ((g o 2) + ((Int.tdiv (((g o 2) * ((z_up (z_up g o 0 ((g o 0) + ((Int.tdiv (((g p1 3) * (g o 1)) - ((g o 0) * (g p1 4))) (((g o 2) * (g p1 4)) - ((g p1 3) * (g o 3)))) * (g o 2)))) o 1 ((g o 1) + ((Int.tdiv (((g p1 3) * (g o 1)) - ((g o 0) * (g p1 4))) (((g o 2) * (g p1 4)) - ((g p1 3) * (g o 3)))) * (g o 3)))) p2 4)) - (((z_up (z_up g o 0 ((g o 0) + ((Int.tdiv (((g p1 3) * (g o 1)) - ((g o 0) * (g p1 4))) (((g o 2) * (g p1 4)) - ((g p1 3) * (g o 3)))) * (g o 2)))) o 1 ((g o 1) + ((Int.tdiv (((g p1 3) * (g o 1)) - ((g o 0) * (g p1 4))) (((g o 2) * (g p1 4)) - ((g p1 3) * (g o 3)))) * (g o 3)))) p2 3) * (g o 3))) ((((z_up (z_up g o 0 ((g o 0) + ((Int.tdiv (((g p1 3) * (g o 1)) - ((g o 0) * (g p1 4))) (((g o 2) * (g p1 4)) - ((g p1 3) * (g o 3)))) * (g o 2)))) o 1 ((g o 1) + ((Int.tdiv (((g p1 3) * (g o 1)) - ((g o 0) * (g p1 4))) (((g o 2) * (g p1 4)) - ((g p1 3) * (g o 3)))) * (g o 3)))) p2 3) * ((g o 1) + ((Int.tdiv (((g p1 3) * (g o 1)) - ((g o 0) * (g p1 4))) (((g o 2) * (g p1 4)) - ((g p1 3) * (g o 3)))) * (g o 3)))) - (((g o 0) + ((Int.tdiv (((g p1 3) * (g o 1)) - ((g o 0) * (g p1 4))) (((g o 2) * (g p1 4)) - ((g p1 3) * (g o 3)))) * (g o 2))) * ((z_up (z_up g o 0 ((g o 0) + ((Int.tdiv (((g p1 3) * (g o 1)) - ((g o 0) * (g p1 4))) (((g o 2) * (g p1 4)) - ((g p1 3) * (g o 3)))) * (g o 2)))) o 1 ((g o 1) + ((Int.tdiv (((g p1 3) * (g o 1)) - ((g o 0) * (g p1 4))) (((g o 2) * (g p1 4)) - ((g p1 3) * (g o 3)))) * (g o 3)))) p2 4)))) * ((g o 0) + ((Int.tdiv (((g p1 3) * (g o 1)) - ((g o 0) * (g p1 4))) (((g o 2) * (g p1 4)) - ((g p1 3) * (g o 3)))) * (g o 2)))))) o 3 ((g o 3) + ((Int.tdiv (((g o 2) * ((z_up (z_up g o 0 ((g o 0) + ((Int.tdiv (((g p1 3) * (g o 1)) - ((g o 0) * (g p1 4))) (((g o 2) * (g p1 4)) - ((g p1 3) * (g o 3)))) * (g o 2)))) o 1 ((g o 1) + ((Int.tdiv (((g p1 3) * (g o 1)) - ((g o 0) * (g p1 4))) (((g o 2) * (g p1 4)) - ((g p1 3) * (g o 3)))) * (g o 3)))) p2 4)) - (((z_up (z_up g o 0 ((g o 0) + ((Int.tdiv (((g p1 3) * (g o 1)) - ((g o 0) * (g p1 4))) (((g o 2) * (g p1 4)) - ((g p1 3) * (g o 3)))) * (g o 2)))) o 1 ((g o 1) + ((Int.tdiv (((g p1 3) * (g o 1)) - ((g o 0) * (g p1 4))) (((g o 2) * (g p1 4)) - ((g p1 3) * (g o 3)))) * (g o 3)))) p2 3) * (g o 3))) ((((z_up (z_up g o 0 ((g o 0) + ((Int.tdiv (((g p1 3) * (g o 1)) - ((g o 0) * (g p1 4))) (((g o 2) * (g p1 4)) - ((g p1 3) * (g o 3)))) * (g o 2)))) o 1 ((g o 1) + ((Int.tdiv (((g p1 3) * (g o 1)) - ((g o 0) * (g p1 4))) (((g o 2) * (g p1 4)) - ((g p1 3) * (g o 3)))) * (g o 3)))) p2 3) * ((g o 1) + ((Int.tdiv (((g p1 3) * (g o 1)) - ((g o 0) * (g p1 4))) (((g o 2) * (g p1 4)) - ((g p1 3) * (g o 3)))) * (g o 3)))) - (((g o 0) + ((Int.tdiv (((g p1 3) * (g o 1)) - ((g o 0) * (g p1 4))) (((g o 2) * (g p1 4)) - ((g p1 3) * (g o 3)))) * (g o 2))) * ((z_up (z_up g o 0 ((g o 0) + ((Int.tdiv (((g p1 3) * (g o 1)) - ((g o 0) * (g p1 4))) (((g o 2) * (g p1 4)) - ((g p1 3) * (g o 3)))) * (g o 2)))) o 1 ((g o 1) + ((Int.tdiv (((g p1 3) * (g o 1)) - ((g o 0) * (g p1 4))) (((g o 2) * (g p1 4)) - ((g p1 3) * (g o 3)))) * (g o 3)))) p2 4)))) * ((g o 1) + ((Int.tdiv (((g p1 3) * (g o 1)) - ((g o 0) * (g p1 4))) (((g o 2) * (g p1 4)) - ((g p1 3) * (g o 3)))) * (g o 3)))))) o 2)) * ((z_up (z_up (z_up (z_up g o 0 ((g o 0) + ((Int.tdiv (((g p1 3) * (g o 1)) - ((g o 0) * (g p1 4))) (((g o 2) * (g p1 4)) - ((g p1 3) * (g o 3)))) * (g o 2)))) o 1 ((g o 1) + ((Int.tdiv (((g p1 3) * (g o 1)) - ((g o 0) * (g p1 4))) (((g o 2) * (g p1 4)) - ((g p1 3) * (g o 3)))) * (g o 3)))) o 2 ((g o 2) + ((Int.tdiv (((g o 2) * ((z_up (z_up g o 0 ((g o 0) + ((Int.tdiv (((g p1 3) * (g o 1)) - ((g o 0) * (g p1 4))) (((g o 2) * (g p1 4)) - ((g p1 3) * (g o 3)))) * (g o 2)))) o 1 ((g o 1) + ((Int.tdiv (((g p1 3) * (g o 1)) - ((g o 0) * (g p1 4))) (((g o 2) * (g p1 4)) - ((g p1 3) * (g o 3)))) * (g o 3)))) p2 4)) - (((z_up (z_up g o 0 ((g o 0) + ((Int.tdiv (((g p1 3) * (g o 1)) - ((g o 0) * (g p1 4))) (((g o 2) * (g p1 4)) - ((g p1 3) * (g o 3)))) * (g o 2)))) o 1 ((g o 1) + ((Int.tdiv (((g p1 3) * (g o 1)) - ((g o 0) * (g p1 4))) (((g o 2) * (g p1 4)) - ((g p1 3) * (g o 3)))) * (g o 3)))) p2 3) * (g o 3))) ((((z_up (z_up g o 0 ((g o 0) + ((Int.tdiv (((g p1 3) * (g o 1)) - ((g o 0) * (g p1 4))) (((g o 2) * (g p1 4)) - ((g p1 3) * (g o 3)))) * (g o 2)))) o 1 ((g o 1) + ((Int.tdiv (((g p1 3) * (g o 1)) - ((g o 0) * (g p1 4))) (((g o 2) * (g p1 4)) - ((g p1 3) * (g o 3)))) * (g o 3)))) p2 3) * ((g o 1) + ((Int.tdiv (((g p1 3) * (g o 1)) - ((g o 0) * (g p1 4))) (((g o 2) * (g p1 4)) - ((g p1 3) * (g o 3)))) * (g o 3)))) - (((g o 0) + ((Int.tdiv (((g p1 3) * (g o 1)) - ((g o 0) * (g p1 4))) (((g o 2) * (g p1 4)) - ((g p1 3) * (g o 3)))) * (g o 2))) * ((z_up (z_up g o 0 ((g o 0) + ((Int.tdiv (((g p1 3) * (g o 1)) - ((g o 0) * (g p1 4))) (((g o 2) * (g p1 4)) - ((g p1 3) * (g o 3)))) * (g o 2)))) o 1 ((g o 1) + ((Int.tdiv (((g p1 3) * (g o 1)) - ((g o 0) * (g p1 4))) (((g o 2) * (g p1 4)) - ((g p1 3) * (g o 3)))) * (g o 3)))) p2 4)))) * ((g o 0) + ((Int.tdiv (((g p1 3) * (g o 1)) - ((g o 0) * (g p1 4))) (((g o 2) * (g p1 4)) - ((g p1 3) * (g o 3)))) * (g o 2)))))) o 3 ((g o 3) + ((Int.tdiv (((g o 2) * ((z_up (z_up g o 0 ((g o 0) + ((Int.tdiv (((g p1 3) * (g o 1)) - ((g o 0) * (g p1 4))) (((g o 2) * (g p1 4)) - ((g p1 3) * (g o 3)))) * (g o 2)))) o 1 ((g o 1) + ((Int.tdiv (((g p1 3) * (g o 1)) - ((g o 0) * (g p1 4))) (((g o 2) * (g p1 4)) - ((g p1 3) * (g o 3)))) * (g o 3)))) p2 4)) - (((z_up (z_up g o 0 ((g o 0) + ((Int.tdiv (((g p1 3) * (g o 1)) - ((g o 0) * (g p1 4))) (((g o 2) * (g p1 4)) - ((g p1 3) * (g o 3)))) * (g o 2)))) o 1 ((g o 1) + ((Int.tdiv (((g p1 3) * (g o 1)) - ((g o 0) * (g p1 4))) (((g o 2) * (g p1 4)) - ((g p1 3) * (g o 3)))) * (g o 3)))) p2 3) * (g o 3))) ((((z_up (z_up g o 0 ((g o 0) + ((Int.tdiv (((g p1 3) * (g o 1)) - ((g o 0) * (g p1 4))) (((g o 2) * (g p1 4)) - ((g p1 3) * (g o 3)))) * (g o 2)))) o 1 ((g o 1) + ((Int.tdiv (((g p1 3) * (g o 1)) - ((g o 0) * (g p1 4))) (((g o 2) * (g p1 4)) - ((g p1 3) * (g o 3)))) * (g o 3)))) p2 3) * ((g o 1) + ((Int.tdiv (((g p1 3) * (g o 1)) - ((g o 0) * (g p1 4))) (((g o 2) * (g p1 4)) - ((g p1 3) * (g o 3)))) * (g o 3)))) - (((g o 0) + ((Int.tdiv (((g p1 3) * (g o 1)) - ((g o 0) * (g p1 4))) (((g o 2) * (g p1 4)) - ((g p1 3) * (g o 3)))) * (g o 2))) * ((z_up (z_up g o 0 ((g o 0) + ((Int.tdiv (((g p1 3) * (g o 1)) - ((g o 0) * (g p1 4))) (((g o 2) * (g p1 4)) - ((g p1 3) * (g o 3)))) * (g o 2)))) o 1 ((g o 1) + ((Int.tdiv (((g p1 3) * (g o 1)) - ((g o 0) * (g p1 4))) (((g o 2) * (g p1 4)) - ((g p1 3) * (g o 3)))) * (g o 3)))) p2 4)))) * ((g o 1) + ((Int.tdiv (((g p1 3) * (g o 1)) - ((g o 0) * (g p1 4))) (((g o 2) * (g p1 4)) - ((g p1 3) * (g o 3)))) * (g o 3)))))) p1 4)) ∧ ((((z_up (z_up (z_up (z_up g o 0 ((g o 0) + ((Int.tdiv (((g p1 3) * (g o 1)) - ((g o 0) * (g p1 4))) (((g o 2) * (g p1 4)) - ((g p1 3) * (g o 3)))) * (g o 2)))) o 1 ((g o 1) + ((Int.tdiv (((g p1 3) * (g o 1)) - ((g o 0) * (g p1 4))) (((g o 2) * (g p1 4)) - ((g p1 3) * (g o 3)))) * (g o 3)))) o 2 ((g o 2) + ((Int.tdiv (((g o 2) * ((z_up (z_up g o 0 ((g o 0) + ((Int.tdiv (((g p1 3) * (g o 1)) - ((g o 0) * (g p1 4))) (((g o 2) * (g p1 4)) - ((g p1 3) * (g o 3)))) * (g o 2)))) o 1 ((g o 1) + ((Int.tdiv (((g p1 3) * (g o 1)) - ((g o 0) * (g p1 4))) (((g o 2) * (g p1 4)) - ((g p1 3) * (g o 3)))) * (g o 3)))) p2 4)) - (((z_up (z_up g o 0 ((g o 0) + ((Int.tdiv (((g p1 3) * (g o 1)) - ((g o 0) * (g p1 4))) (((g o 2) * (g p1 4)) - ((g p1 3) * (g o 3)))) * (g o 2)))) o 1 ((g o 1) + ((Int.tdiv (((g p1 3) * (g o 1)) - ((g o 0) * (g p1 4))) (((g o 2) * (g p1 4)) - ((g p1 3) * (g o 3)))) * (g o 3)))) p2 3) * (g o 3))) ((((z_up (z_up g o 0 ((g o 0) + ((Int.tdiv (((g p1 3) * (g o 1)) - ((g o 0) * (g p1 4))) (((g o 2) * (g p1 4)) - ((g p1 3) * (g o 3)))) * (g o 2)))) o 1 ((g o 1) + ((Int.tdiv (((g p1 3) * (g o 1)) - ((g o 0) * (g p1 4))) (((g o 2) * (g p1 4)) - ((g p1 3) * (g o 3)))) * (g o 3)))) p2 3) * ((g o 1) + ((Int.tdiv (((g p1 3) * (g o 1)) - ((g o 0) * (g p1 4))) (((g o 2) * (g p1 4)) - ((g p1 3) * (g o 3)))) * (g o 3)))) - (((g o 0) + ((Int.tdiv (((g p1 3) * (g o 1)) - ((g o 0) * (g p1 4))) (((g o 2) * (g p1 4)) - ((g p1 3) * (g o 3)))) * (g o 2))) * ((z_up (z_up g o 0 ((g o 0) + ((Int.tdiv (((g p1 3) * (g o 1)) - ((g o 0) * (g p1 4))) (((g o 2) * (g p1 4)) - ((g p1 3) * (g o 3)))) * (g o 2)))) o 1 ((g o 1) + ((Int.tdiv (((g p1 3) * (g o 1)) - ((g o 0) * (g p1 4))) (((g o 2) * (g p1 4)) - ((g p1 3) * (g o 3)))) * (g o 3)))) p2 4)))) * ((g o 0) + ((Int.tdiv (((g p1 3) * (g o 1)) - ((g o 0) * (g p1 4))) (((g o 2) * (g p1 4)) - ((g p1 3) * (g o 3)))) * (g o 2)))))) o 3 ((g o 3) + ((Int.tdiv (((g o 2) * ((z_up (z_up g o 0 ((g o 0) + ((Int.tdiv (((g p1 3) * (g o 1)) - ((g o 0) * (g p1 4))) (((g o 2) * (g p1 4)) - ((g p1 3) * (g o 3)))) * (g o 2)))) o 1 ((g o 1) + ((Int.tdiv (((g p1 3) * (g o 1)) - ((g o 0) * (g p1 4))) (((g o 2) * (g p1 4)) - ((g p1 3) * (g o 3)))) * (g o 3)))) p2 4)) - (((z_up (z_up g o 0 ((g o 0) + ((Int.tdiv (((g p1 3) * (g o 1)) - ((g o 0) * (g p1 4))) (((g o 2) * (g p1 4)) - ((g p1 3) * (g o 3)))) * (g o 2)))) o 1 ((g o 1) + ((Int.tdiv (((g p1 3) * (g o 1)) - ((g o 0) * (g p1 4))) (((g o 2) * (g p1 4)) - ((g p1 3) * (g o 3)))) * (g o 3)))) p2 3) * (g o 3))) ((((z_up (z_up g o 0 ((g o 0) + ((Int.tdiv (((g p1 3) * (g o 1)) - ((g o 0) * (g p1 4))) (((g o 2) * (g p1 4)) - ((g p1 3) * (g o 3)))) * (g o 2)))) o 1 ((g o 1) + ((Int.tdiv (((g p1 3) * (g o 1)) - ((g o 0) * (g p1 4))) (((g o 2) * (g p1 4)) - ((g p1 3) * (g o 3)))) * (g o 3)))) p2 3) * ((g o 1) + ((Int.tdiv (((g p1 3) * (g o 1)) - ((g o 0) * (g p1 4))) (((g o 2) * (g p1 4)) - ((g p1 3) * (g o 3)))) * (g o 3)))) - (((g o 0) + ((Int.tdiv (((g p1 3) * (g o 1)) - ((g o 0) * (g p1 4))) (((g o 2) * (g p1 4)) - ((g p1 3) * (g o 3)))) * (g o 2))) * ((z_up (z_up g o 0 ((g o 0) + ((Int.tdiv (((g p1 3) * (g o 1)) - ((g o 0) * (g p1 4))) (((g o 2) * (g p1 4)) - ((g p1 3) * (g o 3)))) * (g o 2)))) o 1 ((g o 1) + ((Int.tdiv (((g p1 3) * (g o 1)) - ((g o 0) * (g p1 4))) (((g o 2) * (g p1 4)) - ((g p1 3) * (g o 3)))) * (g o 3)))) p2 4)))) * ((g o 1) + ((Int.tdiv (((g p1 3) * (g o 1)) - ((g o 0) * (g p1 4))) (((g o 2) * (g p1 4)) - ((g p1 3) * (g o 3)))) * (g o 3)))))) o 0) + ((z_up (z_up (z_up (z_up g o 0 ((g o 0) + ((Int.tdiv (((g p1 3) * (g o 1)) - ((g o 0) * (g p1 4))) (((g o 2) * (g p1 4)) - ((g p1 3) * (g o 3)))) * (g o 2)))) o 1 ((g o 1) + ((Int.tdiv (((g p1 3) * (g o 1)) - ((g o 0) * (g p1 4))) (((g o 2) * (g p1 4)) - ((g p1 3) * (g o 3)))) * (g o 3)))) o 2 ((g o 2) + ((Int.tdiv (((g o 2) * ((z_up (z_up g o 0 ((g o 0) + ((Int.tdiv (((g p1 3) * (g o 1)) - ((g o 0) * (g p1 4))) (((g o 2) * (g p1 4)) - ((g p1 3) * (g o 3)))) * (g o 2)))) o 1 ((g o 1) + ((Int.tdiv (((g p1 3) * (g o 1)) - ((g o 0) * (g p1 4))) (((g o 2) * (g p1 4)) - ((g p1 3) * (g o 3)))) * (g o 3)))) p2 4)) - (((z_up (z_up g o 0 ((g o 0) + ((Int.tdiv (((g p1 3) * (g o 1)) - ((g o 0) * (g p1 4))) (((g o 2) * (g p1 4)) - ((g p1 3) * (g o 3)))) * (g o 2)))) o 1 ((g o 1) + ((Int.tdiv (((g p1 3) * (g o 1)) - ((g o 0) * (g p1 4))) (((g o 2) * (g p1 4)) - ((g p1 3) * (g o 3)))) * (g o 3)))) p2 3) * (g o 3))) ((((z_up (z_up g o 0 ((g o 0) + ((Int.tdiv (((g p1 3) * (g o 1)) - ((g o 0) * (g p1 4))) (((g o 2) * (g p1 4)) - ((g p1 3) * (g o 3)))) * (g o 2)))) o 1 ((g o 1) + ((Int.tdiv (((g p1 3) * (g o 1)) - ((g o 0) * (g p1 4))) (((g o 2) * (g p1 4)) - ((g p1 3) * (g o 3)))) * (g o 3)))) p2 3) * ((g o 1) + ((Int.tdiv (((g p1 3) * (g o 1)) - ((g o 0) * (g p1 4))) (((g o 2) * (g p1 4)) - ((g p1 3) * (g o 3)))) * (g o 3)))) - (((g o 0) + ((Int.tdiv (((g p1 3) * (g o 1)) - ((g o 0) * (g p1 4))) (((g o 2) * (g p1 4)) - ((g p1 3) * (g o 3)))) * (g o 2))) * ((z_up (z_up g o 0 ((g o 0) + ((Int.tdiv (((g p1 3) * (g o 1)) - ((g o 0) * (g p1 4))) (((g o 2) * (g p1 4)) - ((g p1 3) * (g o 3)))) * (g o 2)))) o 1 ((g o 1) + ((Int.tdiv (((g p1 3) * (g o 1)) - ((g o 0) * (g p1 4))) (((g o 2) * (g p1 4)) - ((g p1 3) * (g o 3)))) * (g o 3)))) p2 4)))) * ((g o 0) + ((Int.tdiv (((g p1 3) * (g o 1)) - ((g o 0) * (g p1 4))) (((g o 2) * (g p1 4)) - ((g p1 3) * (g o 3)))) * (g o 2)))))) o 3 ((g o 3) + ((Int.tdiv (((g o 2) * ((z_up (z_up g o 0 ((g o 0) + ((Int.tdiv (((g p1 3) * (g o 1)) - ((g o 0) * (g p1 4))) (((g o 2) * (g p1 4)) - ((g p1 3) * (g o 3)))) * (g o 2)))) o 1 ((g o 1) + ((Int.tdiv (((g p1 3) * (g o 1)) - ((g o 0) * (g p1 4))) (((g o 2) * (g p1 4)) - ((g p1 3) * (g o 3)))) * (g o 3)))) p2 4)) - (((z_up (z_up g o 0 ((g o 0) + ((Int.tdiv (((g p1 3) * (g o 1)) - ((g o 0) * (g p1 4))) (((g o 2) * (g p1 4)) - ((g p1 3) * (g o 3)))) * (g o 2)))) o 1 ((g o 1) + ((Int.tdiv (((g p1 3) * (g o 1)) - ((g o 0) * (g p1 4))) (((g o 2) * (g p1 4)) - ((g p1 3) * (g o 3)))) * (g o 3)))) p2 3) * (g o 3))) ((((z_up (z_up g o 0 ((g o 0) + ((Int.tdiv (((g p1 3) * (g o 1)) - ((g o 0) * (g p1 4))) (((g o 2) * (g p1 4)) - ((g p1 3) * (g o 3)))) * (g o 2)))) o 1 ((g o 1) + ((Int.tdiv (((g p1 3) * (g o 1)) - ((g o 0) * (g p1 4))) (((g o 2) * (g p1 4)) - ((g p1 3) * (g o 3)))) * (g o 3)))) p2 3) * ((g o 1) + ((Int.tdiv (((g p1 3) * (g o 1)) - ((g o 0) * (g p1 4))) (((g o 2) * (g p1 4)) - ((g p1 3) * (g o 3)))) * (g o 3)))) - (((g o 0) + ((Int.tdiv (((g p1 3) * (g o 1)) - ((g o 0) * (g p1 4))) (((g o 2) * (g p1 4)) - ((g p1 3) * (g o 3)))) * (g o 2))) * ((z_up (z_up g o 0 ((g o 0) + ((Int.tdiv (((g p1 3) * (g o 1)) - ((g o 0) * (g p1 4))) (((g o 2) * (g p1 4)) - ((g p1 3) * (g o 3)))) * (g o 2)))) o 1 ((g o 1) + ((Int.tdiv (((g p1 3) * (g o 1)) - ((g o 0) * (g p1 4))) (((g o 2) * (g p1 4)) - ((g p1 3) * (g o 3)))) * (g o 3)))) p2 4)))) * ((g o 1) + ((Int.tdiv (((g p1 3) * (g o 1)) - ((g o 0) * (g p1 4))) (((g o 2) * (g p1 4)) - ((g p1 3) * (g o 3)))) * (g o 3)))))) o 2)) * ((z_up (z_up (z_up (z_up g o 0 ((g o 0) + ((Int.tdiv (((g p1 3) * (g o 1)) - ((g o 0) * (g p1 4))) (((g o 2) * (g p1 4)) - ((g p1 3) * (g o 3)))) * (g o 2)))) o 1 ((g o 1) + ((Int.tdiv (((g p1 3) * (g o 1)) - ((g o 0) * (g p1 4))) (((g o 2) * (g p1 4)) - ((g p1 3) * (g o 3)))) * (g o 3)))) o 2 ((g o 2) + ((Int.tdiv (((g o 2) * ((z_up (z_up g o 0 ((g o 0) + ((Int.tdiv (((g p1 3) * (g o 1)) - ((g o 0) * (g p1 4))) (((g o 2) * (g p1 4)) - ((g p1 3) * (g o 3)))) * (g o 2)))) o 1 ((g o 1) + ((Int.tdiv (((g p1 3) * (g o 1)) - ((g o 0) * (g p1 4))) (((g o 2) * (g p1 4)) - ((g p1 3) * (g o 3)))) * (g o 3)))) p2 4)) - (((z_up (z_up g o 0 ((g o 0) + ((Int.tdiv (((g p1 3) * (g o 1)) - ((g o 0) * (g p1 4))) (((g o 2) * (g p1 4)) - ((g p1 3) * (g o 3)))) * (g o 2)))) o 1 ((g o 1) + ((Int.tdiv (((g p1 3) * (g o 1)) - ((g o 0) * (g p1 4))) (((g o 2) * (g p1 4)) - ((g p1 3) * (g o 3)))) * (g o 3)))) p2 3) * (g o 3))) ((((z_up (z_up g o 0 ((g o 0) + ((Int.tdiv (((g p1 3) * (g o 1)) - ((g o 0) * (g p1 4))) (((g o 2) * (g p1 4)) - ((g p1 3) * (g o 3)))) * (g o 2)))) o 1 ((g o 1) + ((Int.tdiv (((g p1 3) * (g o 1)) - ((g o 0) * (g p1 4))) (((g o 2) * (g p1 4)) - ((g p1 3) * (g o 3)))) * (g o 3)))) p2 3) * ((g o 1) + ((Int.tdiv (((g p1 3) * (g o 1)) - ((g o 0) * (g p1 4))) (((g o 2) * (g p1 4)) - ((g p1 3) * (g o 3)))) * (g o 3)))) - (((g o 0) + ((Int.tdiv (((g p1 3) * (g o 1)) - ((g o 0) * (g p1 4))) (((g o 2) * (g p1 4)) - ((g p1 3) * (g o 3)))) * (g o 2))) * ((z_up (z_up g o 0 ((g o 0) + ((Int.tdiv (((g p1 3) * (g o 1)) - ((g o 0) * (g p1 4))) (((g o 2) * (g p1 4)) - ((g p1 3) * (g o 3)))) * (g o 2)))) o 1 ((g o 1) + ((Int.tdiv (((g p1 3) * (g o 1)) - ((g o 0) * (g p1 4))) (((g o 2) * (g p1 4)) - ((g p1 3) * (g o 3)))) * (g o 3)))) p2 4)))) * ((g o 0) + ((Int.tdiv (((g p1 3) * (g o 1)) - ((g o 0) * (g p1 4))) (((g o 2) * (g p1 4)) - ((g p1 3) * (g o 3)))) * (g o 2)))))) o 3 ((g o 3) + ((Int.tdiv (((g o 2) * ((z_up (z_up g o 0 ((g o 0) + ((Int.tdiv (((g p1 3) * (g o 1)) - ((g o 0) * (g p1 4))) (((g o 2) * (g p1 4)) - ((g p1 3) * (g o 3)))) * (g o 2)))) o 1 ((g o 1) + ((Int.tdiv (((g p1 3) * (g o 1)) - ((g o 0) * (g p1 4))) (((g o 2) * (g p1 4)) - ((g p1 3) * (g o 3)))) * (g o 3)))) p2 4)) - (((z_up (z_up g o 0 ((g o 0) + ((Int.tdiv (((g p1 3) * (g o 1)) - ((g o 0) * (g p1 4))) (((g o 2) * (g p1 4)) - ((g p1 3) * (g o 3)))) * (g o 2)))) o 1 ((g o 1) + ((Int.tdiv (((g p1 3) * (g o 1)) - ((g o 0) * (g p1 4))) (((g o 2) * (g p1 4)) - ((g p1 3) * (g o 3)))) * (g o 3)))) p2 3) * (g o 3))) ((((z_up (z_up g o 0 ((g o 0) + ((Int.tdiv (((g p1 3) * (g o 1)) - ((g o 0) * (g p1 4))) (((g o 2) * (g p1 4)) - ((g p1 3) * (g o 3)))) * (g o 2)))) o 1 ((g o 1) + ((Int.tdiv (((g p1 3) * (g o 1)) - ((g o 0) * (g p1 4))) (((g o 2) * (g p1 4)) - ((g p1 3) * (g o 3)))) * (g o 3)))) p2 3) * ((g o 1) + ((Int.tdiv (((g p1 3) * (g o 1)) - ((g o 0) * (g p1 4))) (((g o 2) * (g p1 4)) - ((g p1 3) * (g o 3)))) * (g o 3)))) - (((g o 0) + ((Int.tdiv (((g p1 3) * (g o 1)) - ((g o 0) * (g p1 4))) (((g o 2) * (g p1 4)) - ((g p1 3) * (g o 3)))) * (g o 2))) * ((z_up (z_up g o 0 ((g o 0) + ((Int.tdiv (((g p1 3) * (g o 1)) - ((g o 0) * (g p1 4))) (((g o 2) * (g p1 4)) - ((g p1 3) * (g o 3)))) * (g o 2)))) o 1 ((g o 1) + ((Int.tdiv (((g p1 3) * (g o 1)) - ((g o 0) * (g p1 4))) (((g o 2) * (g p1 4)) - ((g p1 3) * (g o 3)))) * (g o 3)))) p2 4)))) * ((g o 1) + ((Int.tdiv (((g p1 3) * (g o 1)) - ((g o 0) * (g p1 4))) (((g o 2) * (g p1 4)) - ((g p1 3) * (g o 3)))) * (g o 3)))))) p1 4)) ≤ 9223372036854775807) ∧ ((-9223372036854775808 ≤ (((z_up (z_up (z_up (z_up g o 0 ((g o 0) + ((Int.tdiv (((g p1 3) * (g o 1)) - ((g o 0) * (g p1 4))) (((g o 2) * (g p1 4)) - ((g p1 3) * (g o 3)))) * (g o 2)))) o 1 ((g o 1) + ((Int.tdiv (((g p1 3) * (g o 1)) - ((g o 0) * (g p1 4))) (((g o 2) * (g p1 4)) - ((g p1 3) * (g o 3)))) * (g o 3)))) o 2 ((g o 2) + ((Int.tdiv (((g o 2) * ((z_up (z_up g o 0 ((g o 0) + ((Int.tdiv (((g p1 3) * (g o 1)) - ((g o 0) * (g p1 4))) (((g o 2) * (g p1 4)) - ((g p1 3) * (g o 3)))) * (g o 2)))) o 1 ((g o 1) + ((Int.tdiv (((g p1 3) * (g o 1)) - ((g o 0) * (g p1 4))) (((g o 2) * (g p1 4)) - ((g p1 3) * (g o 3)))) * (g o 3)))) p2 4)) - (((z_up (z_up g o 0 ((g o 0) + ((Int.tdiv (((g p1 3) * (g o 1)) - ((g o 0) * (g p1 4))) (((g o 2) * (g p1 4)) - ((g p1 3) * (g o 3)))) * (g o 2)))) o 1 ((g o 1) + ((Int.tdiv (((g p1 3) * (g o 1)) - ((g o 0) * (g p1 4))) (((g o 2) * (g p1 4)) - ((g p1 3) * (g o 3)))) * (g o 3)))) p2 3) * (g o 3))) ((((z_up (z_up g o 0 ((g o 0) + ((Int.tdiv (((g p1 3) * (g o 1)) - ((g o 0) * (g p1 4))) (((g o 2) * (g p1 4)) - ((g p1 3) * (g o 3)))) * (g o 2)))) o 1 ((g o 1) + ((Int.tdiv (((g p1 3) * (g o 1)) - ((g o 0) * (g p1 4))) (((g o 2) * (g p1 4)) - ((g p1 3) * (g o 3)))) * (g o 3)))) p2 3) * ((g o 1) + ((Int.tdiv (((g p1 3) * (g o 1)) - ((g o 0) * (g p1 4))) (((g o 2) * (g p1 4)) - ((g p1 3) * (g o 3)))) * (g o 3)))) - (((g o 0) + ((Int.tdiv (((g p1 3) * (g o 1)) - ((g o 0) * (g p1 4))) (((g o 2) * (g p1 4)) - ((g p1 3) * (g o 3)))) * (g o 2))) * ((z_up (z_up g o 0 ((g o 0) + ((Int.tdiv (((g p1 3) * (g o 1)) - ((g o 0) * (g p1 4))) (((g o 2) * (g p1 4)) - ((g p1 3) * (g o 3)))) * (g o 2)))) o 1 ((g o 1) + ((Int.tdiv (((g p1 3) * (g o 1)) - ((g o 0) * (g p1 4))) (((g o 2) * (g p1 4)) - ((g p1 3) * (g o 3)))) * (g o 3)))) p2 4)))) * ((g o 0) + ((Int.tdiv (((g p1 3) * (g o 1)) - ((g o 0) * (g p1 4))) (((g o 2) * (g p1 4)) - ((g p1 3) * (g o 3)))) * (g o 2)))))) o 3 ((g o 3) + ((Int.tdiv (((g o 2) * ((z_up (z_up g o 0 ((g o 0) + ((Int.tdiv (((g p1 3) * (g o 1)) - ((g o 0) * (g p1 4))) (((g o 2) * (g p1 4)) - ((g p1 3) * (g o 3)))) * (g o 2)))) o 1 ((g o 1) + ((Int.tdiv (((g p1 3) * (g o 1)) - ((g o 0) * (g p1 4))) (((g o 2) * (g p1 4)) - ((g p1 3) * (g o 3)))) * (g o 3)))) p2 4)) - (((z_up (z_up g o 0 ((g o 0) + ((Int.tdiv (((g p1 3) * (g o 1)) - ((g o 0) * (g p1 4))) (((g o 2) * (g p1 4)) - ((g p1 3) * (g o 3)))) * (g o 2)))) o 1 ((g o 1) + ((Int.tdiv (((g p1 3) * (g o 1)) - ((g o 0) * (g p1 4))) (((g o 2) * (g p1 4)) - ((g p1 3) * (g o 3)))) * (g o 3)))) p2 3) * (g o 3))) ((((z_up (z_up g o 0 ((g o 0) + ((Int.tdiv (((g p1 3) * (g o 1)) - ((g o 0) * (g p1 4))) (((g o 2) * (g p1 4)) - ((g p1 3) * (g o 3)))) * (g o 2)))) o 1 ((g o 1) + ((Int.tdiv (((g p1 3) * (g o 1)) - ((g o 0) * (g p1 4))) (((g o 2) * (g p1 4)) - ((g p1 3) * (g o 3)))) * (g o 3)))) p2 3) * ((g o 1) + ((Int.tdiv (((g p1 3) * (g o 1)) - ((g o 0) * (g p1 4))) (((g o 2) * (g p1 4)) - ((g p1 3) * (g o 3)))) * (g o 3)))) - (((g o 0) + ((Int.tdiv (((g p1 3) * (g o 1)) - ((g o 0) * (g p1 4))) (((g o 2) * (g p1 4)) - ((g p1 3) * (g o 3)))) * (g o 2))) * ((z_up (z_up g o 0 ((g o 0) + ((Int.tdiv (((g p1 3) * (g o 1)) - ((g o 0) * (g p1 4))) (((g o 2) * (g p1 4)) - ((g p1 3) * (g o 3)))) * (g o 2)))) o 1 ((g o 1) + ((Int.tdiv (((g p1 3) * (g o 1)) - ((g o 0) * (g p1 4))) (((g o 2) * (g p1 4)) - ((g p1 3) * (g o 3)))) * (g o 3)))) p2 4)))) * ((g o 1) + ((Int.tdiv (((g p1 3) * (g o 1)) - ((g o 0) * (g p1 4))) (((g o 2) * (g p1 4)) - ((g p1 3) * (g o 3)))) * (g o 3)))))) p1 3) * (((z_up (z_up (z_up (z_up g o 0 ((g o 0) + ((Int.tdiv (((g p1 3) * (g o 1)) - ((g o 0) * (g p1 4))) (((g o 2) * (g p1 4)) - ((g p1 3) * (g o 3)))) * (g o 2)))) o 1 ((g o 1) + ((Int.tdiv (((g p1 3) * (g o 1)) - ((g o 0) * (g p1 4))) (((g o 2) * (g p1 4)) - ((g p1 3) * (g o 3)))) * (g o 3)))) o 2 ((g o 2) + ((Int.tdiv (((g o 2) * ((z_up (z_up g o 0 ((g o 0) + ((Int.tdiv (((g p1 3) * (g o 1)) - ((g o 0) * (g p1 4))) (((g o 2) * (g p1 4)) - ((g p1 3) * (g o 3)))) * (g o 2)))) o 1 ((g o 1) + ((Int.tdiv (((g p1 3) * (g o 1)) - ((g o 0) * (g p1 4))) (((g o 2) * (g p1 4)) - ((g p1 3) * (g o 3)))) * (g o 3)))) p2 4)) - (((z_up (z_up g o 0 ((g o 0) + ((Int.tdiv (((g p1 3) * (g o 1)) - ((g o 0) * (g p1 4))) (((g o 2) * (g p1 4)) - ((g p1 3) * (g o 3)))) * (g o 2)))) o 1 ((g o 1) + ((Int.tdiv (((g p1 3) * (g o 1)) - ((g o 0) * (g p1 4))) (((g o 2) * (g p1 4)) - ((g p1 3) * (g o 3)))) * (g o 3)))) p2 3) * (g o 3))) ((((z_up (z_up g o 0 ((g o 0) + ((Int.tdiv (((g p1 3) * (g o 1)) - ((g o 0) * (g p1 4))) (((g o 2) * (g p1 4)) - ((g p1 3) * (g o 3)))) * (g o 2)))) o 1 ((g o 1) + ((Int.tdiv (((g p1 3) * (g o 1)) - ((g o 0) * (g p1 4))) (((g o 2) * (g p1 4)) - ((g p1 3) * (g o 3)))) * (g o 3)))) p2 3) * ((g o 1) + ((Int.tdiv (((g p1 3) * (g o 1)) - ((g o 0) * (g p1 4))) (((g o 2) * (g p1 4)) - ((g p1 3) * (g o 3)))) * (g o 3)))) - (((g o 0) + ((Int.tdiv (((g p1 3) * (g o 1)) - ((g o 0) * (g p1 4))) (((g o 2) * (g p1 4)) - ((g p1 3) * (g o 3)))) * (g o 2))) * ((z_up (z_up g o 0 ((g o 0) + ((Int.tdiv (((g p1 3) * (g o 1)) - ((g o 0) * (g p1 4))) (((g o 2) * (g p1 4)) - ((g p1 3) * (g o 3)))) * (g o 2)))) o 1 ((g o 1) + ((Int.tdiv (((g p1 3) * (g o 1)) - ((g o 0) * (g p1 4))) (((g o 2) * (g p1 4)) - ((g p1 3) * (g o 3)))) * (g o 3)))) p2 4)))) * ((g o 0) + ((Int.tdiv (((g p1 3) * (g o 1)) - ((g o 0) * (g p1 4))) (((g o 2) * (g p1 4)) - ((g p1 3) * (g o 3)))) * (g o 2)))))) o 3 ((g o 3) + ((Int.tdiv (((g o 2) * ((z_up (z_up g o 0 ((g o 0) + ((Int.tdiv (((g p1 3) * (g o 1)) - ((g o 0) * (g p1 4))) (((g o 2) * (g p1 4)) - ((g p1 3) * (g o 3)))) * (g o 2)))) o 1 ((g o 1) + ((Int.tdiv (((g p1 3) * (g o 1)) - ((g o 0) * (g p1 4))) (((g o 2) * (g p1 4)) - ((g p1 3) * (g o 3)))) * (g o 3)))) p2 4)) - (((z_up (z_up g o 0 ((g o 0) + ((Int.tdiv (((g p1 3) * (g o 1)) - ((g o 0) * (g p1 4))) (((g o 2) * (g p1 4)) - ((g p1 3) * (g o 3)))) * (g o 2)))) o 1 ((g o 1) + ((Int.tdiv (((g p1 3) * (g o 1)) - ((g o 0) * (g p1 4))) (((g o 2) * (g p1 4)) - ((g p1 3) * (g o 3)))) * (g o 3)))) p2 3) * (g o 3))) ((((z_up (z_up g o 0 ((g o 0) + ((Int.tdiv (((g p1 3) * (g o 1)) - ((g o 0) * (g p1 4))) (((g o 2) * (g p1 4)) - ((g p1 3) * (g o 3)))) * (g o 2)))) o 1 ((g o 1) + ((Int.tdiv (((g p1 3) * (g o 1)) - ((g o 0) * (g p1 4))) (((g o 2) * (g p1 4)) - ((g p1 3) * (g o 3)))) * (g o 3)))) p2 3) * ((g o 1) + ((Int.tdiv (((g p1 3) * (g o 1)) - ((g o 0) * (g p1 4))) (((g o 2) * (g p1 4)) - ((g p1 3) * (g o 3)))) * (g o 3)))) - (((g o 0) + ((Int.tdiv (((g p1 3) * (g o 1)) - ((g o 0) * (g p1 4))) (((g o 2) * (g p1 4)) - ((g p1 3) * (g o 3)))) * (g o 2))) * ((z_up (z_up g o 0 ((g o 0) + ((Int.tdiv (((g p1 3) * (g o 1)) - ((g o 0) * (g p1 4))) (((g o 2) * (g p1 4)) - ((g p1 3) * (g o 3)))) * (g o 2)))) o 1 ((g o 1) + ((Int.tdiv (((g p1 3) * (g o 1)) - ((g o 0) * (g p1 4))) (((g o 2) * (g p1 4)) - ((g p1 3) * (g o 3)))) * (g o 3)))) p2 4)))) * ((g o 1) + ((Int.tdiv (((g p1 3) * (g o 1)) - ((g o 0) * (g p1 4))) (((g o 2) * (g p1 4)) - ((g p1 3) * (g o 3)))) * (g o 3)))))) o 1) + ((z_up (z_up (z_up (z_up g o 0 ((g o 0) + ((Int.tdiv (((g p1 3) * (g o 1)) - ((g o 0) * (g p1 4))) (((g o 2) * (g p1 4)) - ((g p1 3) * (g o 3)))) * (g o 2)))) o 1 ((g o 1) + ((Int.tdiv (((g p1 3) * (g o 1)) - ((g o 0) * (g p1 4))) (((g o 2) * (g p1 4)) - ((g p1 3) * (g o 3)))) * (g o 3)))) o 2 ((g o 2) + ((Int.tdiv (((g o 2) * ((z_up (z_up g o 0 ((g o 0) + ((Int.tdiv (((g p1 3) * (g o 1)) - ((g o 0) * (g p1 4))) (((g o 2) * (g p1 4)) - ((g p1 3) * (g o 3)))) * (g o 2)))) o 1 ((g o 1) + ((Int.tdiv (((g p1 3) * (g o 1)) - ((g o 0) * (g p1 4))) (((g o 2) * (g p1 4)) - ((g p1 3) * (g o 3)))) * (g o 3)))) p2 4)) - (((z_up (z_up g o 0 ((g o 0) + ((Int.tdiv (((g p1 3) * (g o 1)) - ((g o 0) * (g p1 4))) (((g o 2) * (g p1 4)) - ((g p1 3) * (g o 3)))) * (g o 2)))) o 1 ((g o 1) + ((Int.tdiv (((g p1 3) * (g o 1)) - ((g o 0) * (g p1 4))) (((g o 2) * (g p1 4)) - ((g p1 3) * (g o 3)))) * (g o 3)))) p2 3) * (g o 3))) ((((z_up (z_up g o 0 ((g o 0) + ((Int.tdiv (((g p1 3) * (g o 1)) - ((g o 0) * (g p1 4))) (((g o 2) * (g p1 4)) - ((g p1 3) * (g o 3)))) * (g o 2)))) o 1 ((g o 1) + ((Int.tdiv (((g p1 3) * (g o 1)) - ((g o 0) * (g p1 4))) (((g o 2) * (g p1 4)) - ((g p1 3) * (g o 3)))) * (g o 3)))) p2 3) * ((g o 1) + ((Int.tdiv (((g p1 3) * (g o 1)) - ((g o 0) * (g p1 4))) (((g o 2) * (g p1 4)) - ((g p1 3) * (g o 3)))) * (g o 3)))) - (((g o 0) + ((Int.tdiv (((g p1 3) * (g o 1)) - ((g o 0) * (g p1 4))) (((g o 2) * (g p1 4)) - ((g p1 3) * (g o 3)))) * (g o 2))) * ((z_up (z_up g o 0 ((g o 0) + ((Int.tdiv (((g p1 3) * (g o 1)) - ((g o 0) * (g p1 4))) (((g o 2) * (g p1 4)) - ((g p1 3) * (g o 3)))) * (g o 2)))) o 1 ((g o 1) + ((Int.tdiv (((g p1 3) * (g o 1)) - ((g o 0) * (g p1 4))) (((g o 2) * (g p1 4)) - ((g p1 3) * (g o 3)))) * (g o 3)))) p2 4)))) * ((g o 0) + ((Int.tdiv (((g p1 3) * (g o 1)) - ((g o 0) * (g p1 4))) (((g o 2) * (g p1 4)) - ((g p1 3) * (g o 3)))) * (g o 2)))))) o 3 ((g o 3) + ((Int.tdiv (((g o 2) * ((z_up (z_up g o 0 ((g o 0) + ((Int.tdiv (((g p1 3) * (g o 1)) - ((g o 0) * (g p1 4))) (((g o 2) * (g p1 4)) - ((g p1 3) * (g o 3)))) * (g o 2)))) o 1 ((g o 1) + ((Int.tdiv (((g p1 3) * (g o 1)) - ((g o 0) * (g p1 4))) (((g o 2) * (g p1 4)) - ((g p1 3) * (g o 3)))) * (g o 3)))) p2 4)) - (((z_up (z_up g o 0 ((g o 0) + ((Int.tdiv (((g p1 3) * (g o 1)) - ((g o 0) * (g p1 4))) (((g o 2) * (g p1 4)) - ((g p1 3) * (g o 3)))) * (g o 2)))) o 1 ((g o 1) + ((Int.tdiv (((g p1 3) * (g o 1)) - ((g o 0) * (g p1 4))) (((g o 2) * (g p1 4)) - ((g p1 3) * (g o 3)))) * (g o 3)))) p2 3) * (g o 3))) ((((z_up (z_up g o 0 ((g o 0) + ((Int.tdiv (((g p1 3) * (g o 1)) - ((g o 0) * (g p1 4))) (((g o 2) * (g p1 4)) - ((g p1 3) * (g o 3)))) * (g o 2)))) o 1 ((g o 1) + ((Int.tdiv (((g p1 3) * (g o 1)) - ((g o 0) * (g p1 4))) (((g o 2) * (g p1 4)) - ((g p1 3) * (g o 3)))) * (g o 3)))) p2 3) * ((g o 1) + ((Int.tdiv (((g p1 3) * (g o 1)) - ((g o 0) * (g p1 4))) (((g o 2) * (g p1 4)) - ((g p1 3) * (g o 3)))) * (g o 3)))) - (((g o 0) + ((Int.tdiv (((g p1 3) * (g o 1)) - ((g o 0) * (g p1 4))) (((g o 2) * (g p1 4)) - ((g p1 3) * (g o 3)))) * (g o 2))) * ((z_up (z_up g o 0 ((g o 0) + ((Int.tdiv (((g p1 3) * (g o 1)) - ((g o 0) * (g p1 4))) (((g o 2) * (g p1 4)) - ((g p1 3) * (g o 3)))) * (g o 2)))) o 1 ((g o 1) + ((Int.tdiv (((g p1 3) * (g o 1)) - ((g o 0) * (g p1 4))) (((g o 2) * (g p1 4)) - ((g p1 3) * (g o 3)))) * (g o 3)))) p2 4)))) * ((g o 1) + ((Int.tdiv (((g p1 3) * (g o 1)) - ((g o 0) * (g p1 4))) (((g o 2) * (g p1 4)) - ((g p1 3) * (g o 3)))) * (g o 3)))))) o 3))) ∧ (((z_up (z_up (z_up (z_up g o 0 ((g o 0) + ((Int.tdiv (((g p1 3) * (g o 1)) - ((g o 0) * (g p1 4))) (((g o 2) * (g p1 4)) - ((g p1 3) * (g o 3)))) * (g o 2)))) o 1 ((g o 1) + ((Int.tdiv (((g p1 3) * (g o 1)) - ((g o 0) * (g p1 4))) (((g o 2) * (g p1 4)) - ((g p1 3) * (g o 3)))) * (g o 3)))) o 2 ((g o 2) + ((Int.tdiv (((g o 2) * ((z_up (z_up g o 0 ((g o 0) + ((Int.tdiv (((g p1 3) * (g o 1)) - ((g o 0) * (g p1 4))) (((g o 2) * (g p1 4)) - ((g p1 3) * (g o 3)))) * (g o 2)))) o 1 ((g o 1) + ((Int.tdiv (((g p1 3) * (g o 1)) - ((g o 0) * (g p1 4))) (((g o 2) * (g p1 4)) - ((g p1 3) * (g o 3)))) * (g o 3)))) p2 4)) - (((z_up (z_up g o 0 ((g o 0) + ((Int.tdiv (((g p1 3) * (g o 1)) - ((g o 0) * (g p1 4))) (((g o 2) * (g p1 4)) - ((g p1 3) * (g o 3)))) * (g o 2)))) o 1 ((g o 1) + ((Int.tdiv (((g p1 3) * (g o 1)) - ((g o 0) * (g p1 4))) (((g o 2) * (g p1 4)) - ((g p1 3) * (g o 3)))) * (g o 3)))) p2 3) * (g o 3))) ((((z_up (z_up g o 0 ((g o 0) + ((Int.tdiv (((g p1 3) * (g o 1)) - ((g o 0) * (g p1 4))) (((g o 2) * (g p1 4)) - ((g p1 3) * (g o 3)))) * (g o 2)))) o 1 ((g o 1) + ((Int.tdiv (((g p1 3) * (g o 1)) - ((g o 0) * (g p1 4))) (((g o 2) * (g p1 4)) - ((g p1 3) * (g o 3)))) * (g o 3)))) p2 3) * ((g o 1) + ((Int.tdiv (((g p1 3) * (g o 1)) - ((g o 0) * (g p1 4))) (((g o 2) * (g p1 4)) - ((g p1 3) * (g o 3)))) * (g o 3)))) - (((g o 0) + ((Int.tdiv (((g p1 3) * (g o 1)) - ((g o 0) * (g p1 4))) (((g o 2) * (g p1 4)) - ((g p1 3) * (g o 3)))) * (g o 2))) * ((z_up (z_up g o 0 ((g o 0) + ((Int.tdiv (((g p1 3) * (g o 1)) - ((g o 0) * (g p1 4))) (((g o 2) * (g p1 4)) - ((g p1 3) * (g o 3)))) * (g o 2)))) o 1 ((g o 1) + ((Int.tdiv (((g p1 3) * (g o 1)) - ((g o 0) * (g p1 4))) (((g o 2) * (g p1 4)) - ((g p1 3) * (g o 3)))) * (g o 3)))) p2 4)))) * ((g o 0) + ((Int.tdiv (((g p1 3) * (g o 1)) - ((g o 0) * (g p1 4))) (((g o 2) * (g p1 4)) - ((g p1 3) * (g o 3)))) * (g o 2)))))) o 3 ((g o 3) + ((Int.tdiv (((g o 2) * ((z_up (z_up g o 0 ((g o 0) + ((Int.tdiv (((g p1 3) * (g o 1)) - ((g o 0) * (g p1 4))) (((g o 2) * (g p1 4)) - ((g p1 3) * (g o 3)))) * (g o 2)))) o 1 ((g o 1) + ((Int.tdiv (((g p1 3) * (g o 1)) - ((g o 0) * (g p1 4))) (((g o 2) * (g p1 4)) - ((g p1 3) * (g o 3)))) * (g o 3)))) p2 4)) - (((z_up (z_up g o 0 ((g o 0) + ((Int.tdiv (((g p1 3) * (g o 1)) - ((g o 0) * (g p1 4))) (((g o 2) * (g p1 4)) - ((g p1 3) * (g o 3)))) * (g o 2)))) o 1 ((g o 1) + ((Int.tdiv (((g p1 3) * (g o 1)) - ((g o 0) * (g p1 4))) (((g o 2) * (g p1 4)) - ((g p1 3) * (g o 3)))) * (g o 3)))) p2 3) * (g o 3))) ((((z_up (z_up g o 0 ((g o 0) + ((Int.tdiv (((g p1 3) * (g o 1)) - ((g o 0) * (g p1 4))) (((g o 2) * (g p1 4)) - ((g p1 3) * (g o 3)))) * (g o 2)))) o 1 ((g o 1) + ((Int.tdiv (((g p1 3) * (g o 1)) - ((g o 0) * (g p1 4))) (((g o 2) * (g p1 4)) - ((g p1 3) * (g o 3)))) * (g o 3)))) p2 3) * ((g o 1) + ((Int.tdiv (((g p1 3) * (g o 1)) - ((g o 0) * (g p1 4))) (((g o 2) * (g p1 4)) - ((g p1 3) * (g o 3)))) * (g o 3)))) - (((g o 0) + ((Int.tdiv (((g p1 3) * (g o 1)) - ((g o 0) * (g p1 4))) (((g o 2) * (g p1 4)) - ((g p1 3) * (g o 3)))) * (g o 2))) * ((z_up (z_up g o 0 ((g o 0) + ((Int.tdiv (((g p1 3) * (g o 1)) - ((g o 0) * (g p1 4))) (((g o 2) * (g p1 4)) - ((g p1 3) * (g o 3)))) * (g o 2)))) o 1 ((g o 1) + ((Int.tdiv (((g p1 3) * (g o 1)) - ((g o 0) * (g p1 4))) (((g o 2) * (g p1 4)) - ((g p1 3) * (g o 3)))) * (g o 3)))) p2 4)))) * ((g o 1) + ((Int.tdiv (((g p1 3) * (g o 1)) - ((g o 0) * (g p1 4))) (((g o 2) * (g p1 4)) - ((g p1 3) * (g o 3)))) * (g o 3)))))) p1 3) * (((z_up (z_up (z_up (z_up g o 0 ((g o 0) + ((Int.tdiv (((g p1 3) * (g o 1)) - ((g o 0) * (g p1 4))) (((g o 2) * (g p1 4)) - ((g p1 3) * (g o 3)))) * (g o 2)))) o 1 ((g o 1) + ((Int.tdiv (((g p1 3) * (g o 1)) - ((g o 0) * (g p1 4))) (((g o 2) * (g p1 4)) - ((g p1 3) * (g o 3)))) * (g o 3)))) o 2 ((g o 2) + ((Int.tdiv (((g o 2) * ((z_up (z_up g o 0 ((g o 0) + ((Int.tdiv (((g p1 3) * (g o 1)) - ((g o 0) * (g p1 4))) (((g o 2) * (g p1 4)) - ((g p1 3) * (g o 3)))) * (g o 2)))) o 1 ((g o 1) + ((Int.tdiv (((g p1 3) * (g o 1)) - ((g o 0) * (g p1 4))) (((g o 2) * (g p1 4)) - ((g p1 3) * (g o 3)))) * (g o 3)))) p2 4)) - (((z_up (z_up g o 0 ((g o 0) + ((Int.tdiv (((g p1 3) * (g o 1)) - ((g o 0) * (g p1 4))) (((g o 2) * (g p1 4)) - ((g p1 3) * (g o 3)))) * (g o 2)))) o 1 ((g o 1) + ((Int.tdiv (((g p1 3) * (g o 1)) - ((g o 0) * (g p1 4))) (((g o 2) * (g p1 4)) - ((g p1 3) * (g o 3)))) * (g o 3)))) p2 3) * (g o 3))) ((((z_up (z_up g o 0 ((g o 0) + ((Int.tdiv (((g p1 3) * (g o 1)) - ((g o 0) * (g p1 4))) (((g o 2) * (g p1 4)) - ((g p1 3) * (g o 3)))) * (g o 2)))) o 1 ((g o 1) + ((Int.tdiv (((g p1 3) * (g o 1)) - ((g o 0) * (g p1 4))) (((g o 2) * (g p1 4)) - ((g p1 3) * (g o 3)))) * (g o 3)))) p2 3) * ((g o 1) + ((Int.tdiv (((g p1 3) * (g o 1)) - ((g o 0) * (g p1 4))) (((g o 2) * (g p1 4)) - ((g p1 3) * (g o 3)))) * (g o 3)))) - (((g o 0) + ((Int.tdiv (((g p1 3) * (g o 1)) - ((g o 0) * (g p1 4))) (((g o 2) * (g p1 4)) - ((g p1 3) * (g o 3)))) * (g o 2))) * ((z_up (z_up g o 0 ((g o 0) + ((Int.tdiv (((g p1 3) * (g o 1)) - ((g o 0) * (g p1 4))) (((g o 2) * (g p1 4)) - ((g p1 3) * (g o 3)))) * (g o 2)))) o 1 ((g o 1) + ((Int.tdiv (((g p1 3) * (g o 1)) - ((g o 0) * (g p1 4))) (((g o 2) * (g p1 4)) - ((g p1 3) * (g o 3)))) * (g o 3)))) p2 4)))) * ((g o 0) + ((Int.tdiv (((g p1 3) * (g o 1)) - ((g o 0) * (g p1 4))) (((g o 2) * (g p1 4)) - ((g p1 3) * (g o 3)))) * (g o 2)))))) o 3 ((g o 3) + ((Int.tdiv (((g o 2) * ((z_up (z_up g o 0 ((g o 0) + ((Int.tdiv (((g p1 3) * (g o 1)) - ((g o 0) * (g p1 4))) (((g o 2) * (g p1 4)) - ((g p1 3) * (g o 3)))) * (g o 2)))) o 1 ((g o 1) + ((Int.tdiv (((g p1 3) * (g o 1)) - ((g o 0) * (g p1 4))) (((g o 2) * (g p1 4)) - ((g p1 3) * (g o 3)))) * (g o 3)))) p2 4)) - (((z_up (z_up g o 0 ((g o 0) + ((Int.tdiv (((g p1 3) * (g o 1)) - ((g o 0) * (g p1 4))) (((g o 2) * (g p1 4)) - ((g p1 3) * (g o 3)))) * (g o 2)))) o 1 ((g o 1) + ((Int.tdiv (((g p1 3) * (g o 1)) - ((g o 0) * (g p1 4))) (((g o 2) * (g p1 4)) - ((g p1 3) * (g o 3)))) * (g o 3)))) p2 3) * (g o 3))) ((((z_up (z_up g o 0 ((g o 0) + ((Int.tdiv (((g p1 3) * (g o 1)) - ((g o 0) * (g p1 4))) (((g o 2) * (g p1 4)) - ((g p1 3) * (g o 3)))) * (g o 2)))) o 1 ((g o 1) + ((Int.tdiv (((g p1 3) * (g o 1)) - ((g o 0) * (g p1 4))) (((g o 2) * (g p1 4)) - ((g p1 3) * (g o 3)))) * (g o 3)))) p2 3) * ((g o 1) + ((Int.tdiv (((g p1 3) * (g o 1)) - ((g o 0) * (g p1 4))) (((g o 2) * (g p1 4)) - ((g p1 3) * (g o 3)))) * (g o 3)))) - (((g o 0) + ((Int.tdiv (((g p1 3) * (g o 1)) - ((g o 0) * (g p1 4))) (((g o 2) * (g p1 4)) - ((g p1 3) * (g o 3)))) * (g o 2))) * ((z_up (z_up g o 0 ((g o 0) + ((Int.tdiv (((g p1 3) * (g o 1)) - ((g o 0) * (g p1 4))) (((g o 2) * (g p1 4)) - ((g p1 3) * (g o 3)))) * (g o 2)))) o 1 ((g o 1) + ((Int.tdiv (((g p1 3) * (g o 1)) - ((g o 0) * (g p1 4))) (((g o 2) * (g p1 4)) - ((g p1 3) * (g o 3)))) * (g o 3)))) p2 4)))) * ((g o 1) + ((Int.tdiv (((g p1 3) * (g o 1)) - ((g o 0) * (g p1 4))) (((g o 2) * (g p1 4)) - ((g p1 3) * (g o 3)))) * (g o 3)))))) o 1) + ((z_up (z_up (z_up (z_up g o 0 ((g o 0) + ((Int.tdiv (((g p1 3) * (g o 1)) - ((g o 0) * (g p1 4))) (((g o 2) * (g p1 4)) - ((g p1 3) * (g o 3)))) * (g o 2)))) o 1 ((g o 1) + ((Int.tdiv (((g p1 3) * (g o 1)) - ((g o 0) * (g p1 4))) (((g o 2) * (g p1 4)) - ((g p1 3) * (g o 3)))) * (g o 3)))) o 2 ((g o 2) + ((Int.tdiv (((g o 2) * ((z_up (z_up g o 0 ((g o 0) + ((Int.tdiv (((g p1 3) * (g o 1)) - ((g o 0) * (g p1 4))) (((g o 2) * (g p1 4)) - ((g p1 3) * (g o 3)))) * (g o 2)))) o 1 ((g o 1) + ((Int.tdiv (((g p1 3) * (g o 1)) - ((g o 0) * (g p1 4))) (((g o 2) * (g p1 4)) - ((g p1 3) * (g o 3)))) * (g o 3)))) p2 4)) - (((z_up (z_up g o 0 ((g o 0) + ((Int.tdiv (((g p1 3) * (g o 1)) - ((g o 0) * (g p1 4))) (((g o 2) * (g p1 4)) - ((g p1 3) * (g o 3)))) * (g o 2)))) o 1 ((g o 1) + ((Int.tdiv (((g p1 3) * (g o 1)) - ((g o 0) * (g p1 4))) (((g o 2) * (g p1 4)) - ((g p1 3) * (g o 3)))) * (g o 3)))) p2 3) * (g o 3))) ((((z_up (z_up g o 0 ((g o 0) + ((Int.tdiv (((g p1 3) * (g o 1)) - ((g o 0) * (g p1 4))) (((g o 2) * (g p1 4)) - ((g p1 3) * (g o 3)))) * (g o 2)))) o 1 ((g o 1) + ((Int.tdiv (((g p1 3) * (g o 1)) - ((g o 0) * (g p1 4))) (((g o 2) * (g p1 4)) - ((g p1 3) * (g o 3)))) * (g o 3)))) p2 3) * ((g o 1) + ((Int.tdiv (((g p1 3) * (g o 1)) - ((g o 0) * (g p1 4))) (((g o 2) * (g p1 4)) - ((g p1 3) * (g o 3)))) * (g o 3)))) - (((g o 0) + ((Int.tdiv (((g p1 3) * (g o 1)) - ((g o 0) * (g p1 4))) (((g o 2) * (g p1 4)) - ((g p1 3) * (g o 3)))) * (g o 2))) * ((z_up (z_up g o 0 ((g o 0) + ((Int.tdiv (((g p1 3) * (g o 1)) - ((g o 0) * (g p1 4))) (((g o 2) * (g p1 4)) - ((g p1 3) * (g o 3)))) * (g o 2)))) o 1 ((g o 1) + ((Int.tdiv (((g p1 3) * (g o 1)) - ((g o 0) * (g p1 4))) (((g o 2) * (g p1 4)) - ((g p1 3) * (g o 3)))) * (g o 3)))) p2 4)))) * ((g o 0) + ((Int.tdiv (((g p1 3) * (g o 1)) - ((g o 0) * (g p1 4))) (((g o 2) * (g p1 4)) - ((g p1 3) * (g o 3)))) * (g o 2)))))) o 3 ((g o 3) + ((Int.tdiv (((g o 2) * ((z_up (z_up g o 0 ((g o 0) + ((Int.tdiv (((g p1 3) * (g o 1)) - ((g o 0) * (g p1 4))) (((g o 2) * (g p1 4)) - ((g p1 3) * (g o 3)))) * (g o 2)))) o 1 ((g o 1) + ((Int.tdiv (((g p1 3) * (g o 1)) - ((g o 0) * (g p1 4))) (((g o 2) * (g p1 4)) - ((g p1 3) * (g o 3)))) * (g o 3)))) p2 4)) - (((z_up (z_up g o 0 ((g o 0) + ((Int.tdiv (((g p1 3) * (g o 1)) - ((g o 0) * (g p1 4))) (((g o 2) * (g p1 4)) - ((g p1 3) * (g o 3)))) * (g o 2)))) o 1 ((g o 1) + ((Int.tdiv (((g p1 3) * (g o 1)) - ((g o 0) * (g p1 4))) (((g o 2) * (g p1 4)) - ((g p1 3) * (g o 3)))) * (g o 3)))) p2 3) * (g o 3))) ((((z_up (z_up g o 0 ((g o 0) + ((Int.tdiv (((g p1 3) * (g o 1)) - ((g o 0) * (g p1 4))) (((g o 2) * (g p1 4)) - ((g p1 3) * (g o 3)))) * (g o 2)))) o 1 ((g o 1) + ((Int.tdiv (((g p1 3) * (g o 1)) - ((g o 0) * (g p1 4))) (((g o 2) * (g p1 4)) - ((g p1 3) * (g o 3)))) * (g o 3)))) p2 3) * ((g o 1) + ((Int.tdiv (((g p1 3) * (g o 1)) - ((g o 0) * (g p1 4))) (((g o 2) * (g p1 4)) - ((g p1 3) * (g o 3)))) * (g o 3)))) - (((g o 0) + ((Int.tdiv (((g p1 3) * (g o 1)) - ((g o 0) * (g p1 4))) (((g o 2) * (g p1 4)) - ((g p1 3) * (g o 3)))) * (g o 2))) * ((z_up (z_up g o 0 ((g o 0) + ((Int.tdiv (((g p1 3) * (g o 1)) - ((g o 0) * (g p1 4))) (((g o 2) * (g p1 4)) - ((g p1 3) * (g o 3)))) * (g o 2)))) o 1 ((g o 1) + ((Int.tdiv (((g p1 3) * (g o 1)) - ((g o 0) * (g p1 4))) (((g o 2) * (g p1 4)) - ((g p1 3) * (g o 3)))) * (g o 3)))) p2 4)))) * ((g o 1) + ((Int.tdiv (((g p1 3) * (g o 1)) - ((g o 0) * (g p1 4))) (((g o 2) * (g p1 4)) - ((g p1 3) * (g o 3)))) * (g o 3)))))) o 3))) ≤ 9223372036854775807) ∧ ((-9223372036854775808 ≤ (((((z_up (z_up (z_up (z_up g o 0 ((g o 0) + ((Int.tdiv (((g p1 3) * (g o 1)) - ((g o 0) * (g p1 4))) (((g o 2) * (g p1 4)) - ((g p1 3) * (g o 3)))) * (g o 2)))) o 1 ((g o 1) + ((Int.tdiv (((g p1 3) * (g o 1)) - ((g o 0) * (g p1 4))) (((g o 2) * (g p1 4)) - ((g p1 3) * (g o 3)))) * (g o 3)))) o 2 ((g o 2) + ((Int.tdiv (((g o 2) * ((z_up (z_up g o 0 ((g o 0) + ((Int.tdiv (((g p1 3) * (g o 1)) - ((g o 0) * (g p1 4))) (((g o 2) * (g p1 4)) - ((g p1 3) * (g o 3)))) * (g o 2)))) o 1 ((g o 1) + ((Int.tdiv (((g p1 3) * (g o 1)) - ((g o 0) * (g p1 4))) (((g o 2) * (g p1 4)) - ((g p1 3) * (g o 3)))) * (g o 3)))) p2 4)) - (((z_up (z_up g o 0 ((g o 0) + ((Int.tdiv (((g p1 3) * (g o 1)) - ((g o 0) * (g p1 4))) (((g o 2) * (g p1 4)) - ((g p1 3) * (g o 3)))) * (g o 2)))) o 1 ((g o 1) + ((Int.tdiv (((g p1 3) * (g o 1)) - ((g o 0) * (g p1 4))) (((g o 2) * (g p1 4)) - ((g p1 3) * (g o 3)))) * (g o 3)))) p2 3) * (g o 3))) ((((z_up (z_up g o 0 ((g o 0) + ((Int.tdiv (((g p1 3) * (g o 1)) - ((g o 0) * (g p1 4))) (((g o 2) * (g p1 4)) - ((g p1 3) * (g o 3)))) * (g o 2)))) o 1 ((g o 1) + ((Int.tdiv (((g p1 3) * (g o 1)) - ((g o 0) * (g p1 4))) (((g o 2) * (g p1 4)) - ((g p1 3) * (g o 3)))) * (g o 3)))) p2 3) * ((g o 1) + ((Int.tdiv (((g p1 3) * (g o 1)) - ((g o 0) * (g p1 4))) (((g o 2) * (g p1 4)) - ((g p1 3) * (g o 3)))) * (g o 3)))) - (((g o 0) + ((Int.tdiv (((g p1 3) * (g o 1)) - ((g o 0) * (g p1 4))) (((g o 2) * (g p1 4)) - ((g p1 3) * (g o 3)))) * (g o 2))) * ((z_up (z_up g o 0 ((g o 0) + ((Int.tdiv (((g p1 3) * (g o 1)) - ((g o 0) * (g p1 4))) (((g o 2) * (g p1 4)) - ((g p1 3) * (g o 3)))) * (g o 2)))) o 1 ((g o 1) + ((Int.tdiv (((g p1 3) * (g o 1)) - ((g o 0) * (g p1 4))) (((g o 2) * (g p1 4)) - ((g p1 3) * (g o 3)))) * (g o 3)))) p2 4)))) * ((g o 0) + ((Int.tdiv (((g p1 3) * (g o 1)) - ((g o 0) * (g p1 4))) (((g o 2) * (g p1 4)) - ((g p1 3) * (g o 3)))) * (g o 2)))))) o 3 ((g o 3) + ((Int.tdiv (((g o 2) * ((z_up (z_up g o 0 ((g o 0) + ((Int.tdiv (((g p1 3) * (g o 1)) - ((g o 0) * (g p1 4))) (((g o 2) * (g p1 4)) - ((g p1 3) * (g o 3)))) * (g o 2)))) o 1 ((g o 1) + ((Int.tdiv (((g p1 3) * (g o 1)) - ((g o 0) * (g p1 4))) (((g o 2) * (g p1 4)) - ((g p1 3) * (g o 3)))) * (g o 3)))) p2 4)) - (((z_up (z_up g o 0 ((g o 0) + ((Int.tdiv (((g p1 3) * (g o 1)) - ((g o 0) * (g p1 4))) (((g o 2) * (g p1 4)) - ((g p1 3) * (g o 3)))) * (g o 2)))) o 1 ((g o 1) + ((Int.tdiv (((g p1 3) * (g o 1)) - ((g o 0) * (g p1 4))) (((g o 2) * (g p1 4)) - ((g p1 3) * (g o 3)))) * (g o 3)))) p2 3) * (g o 3))) ((((z_up (z_up g o 0 ((g o 0) + ((Int.tdiv (((g p1 3) * (g o 1)) - ((g o 0) * (g p1 4))) (((g o 2) * (g p1 4)) - ((g p1 3) * (g o 3)))) * (g o 2)))) o 1 ((g o 1) + ((Int.tdiv (((g p1 3) * (g o 1)) - ((g o 0) * (g p1 4))) (((g o 2) * (g p1 4)) - ((g p1 3) * (g o 3)))) * (g o 3)))) p2 3) * ((g o 1) + ((Int.tdiv (((g p1 3) * (g o 1)) - ((g o 0) * (g p1 4))) (((g o 2) * (g p1 4)) - ((g p1 3) * (g o 3)))) * (g o 3)))) - (((g o 0) + ((Int.tdiv (((g p1 3) * (g o 1)) - ((g o 0) * (g p1 4))) (((g o 2) * (g p1 4)) - ((g p1 3) * (g o 3)))) * (g o 2))) * ((z_up (z_up g o 0 ((g o 0) + ((Int.tdiv (((g p1 3) * (g o 1)) - ((g o 0) * (g p1 4))) (((g o 2) * (g p1 4)) - ((g p1 3) * (g o 3)))) * (g o 2)))) o 1 ((g o 1) + ((Int.tdiv (((g p1 3) * (g o 1)) - ((g o 0) * (g p1 4))) (((g o 2) * (g p1 4)) - ((g p1 3) * (g o 3)))) * (g o 3)))) p2 4)))) * ((g o 1) + ((Int.tdiv (((g p1 3) * (g o 1)) - ((g o 0) * (g p1 4))) (((g o 2) * (g p1 4)) - ((g p1 3) * (g o 3)))) * (g o 3)))))) o 0) + ((z_up (z_up (z_up (z_up g o 0 ((g o 0) + ((Int.tdiv (((g p1 3) * (g o 1)) - ((g o 0) * (g p1 4))) (((g o 2) * (g p1 4)) - ((g p1 3) * (g o 3)))) * (g o 2)))) o 1 ((g o 1) + ((Int.tdiv (((g p1 3) * (g o 1)) - ((g o 0) * (g p1 4))) (((g o 2) * (g p1 4)) - ((g p1 3) * (g o 3)))) * (g o 3)))) o 2 ((g o 2) + ((Int.tdiv (((g o 2) * ((z_up (z_up g o 0 ((g o 0) + ((Int.tdiv (((g p1 3) * (g o 1)) - ((g o 0) * (g p1 4))) (((g o 2) * (g p1 4)) - ((g p1 3) * (g o 3)))) * (g o 2)))) o 1 ((g o 1) + ((Int.tdiv (((g p1 3) * (g o 1)) - ((g o 0) * (g p1 4))) (((g o 2) * (g p1 4)) - ((g p1 3) * (g o 3)))) * (g o 3)))) p2 4)) - (((z_up (z_up g o 0 ((g o 0) + ((Int.tdiv (((g p1 3) * (g o 1)) - ((g o 0) * (g p1 4))) (((g o 2) * (g p1 4)) - ((g p1 3) * (g o 3)))) * (g o 2)))) o 1 ((g o 1) + ((Int.tdiv (((g p1 3) * (g o 1)) - ((g o 0) * (g p1 4))) (((g o 2) * (g p1 4)) - ((g p1 3) * (g o 3)))) * (g o 3)))) p2 3) * (g o 3))) ((((z_up (z_up g o 0 ((g o 0) + ((Int.tdiv (((g p1 3) * (g o 1)) - ((g o 0) * (g p1 4))) (((g o 2) * (g p1 4)) - ((g p1 3) * (g o 3)))) * (g o 2)))) o 1 ((g o 1) + ((Int.tdiv (((g p1 3) * (g o 1)) - ((g o 0) * (g p1 4))) (((g o 2) * (g p1 4)) - ((g p1 3) * (g o 3)))) * (g o 3)))) p2 3) * ((g o 1) + ((Int.tdiv (((g p1 3) * (g o 1)) - ((g o 0) * (g p1 4))) (((g o 2) * (g p1 4)) - ((g p1 3) * (g o 3)))) * (g o 3)))) - (((g o 0) + ((Int.tdiv (((g p1 3) * (g o 1)) - ((g o 0) * (g p1 4))) (((g o 2) * (g p1 4)) - ((g p1 3) * (g o 3)))) * (g o 2))) * ((z_up (z_up g o 0 ((g o 0) + ((Int.tdiv (((g p1 3) * (g o 1)) - ((g o 0) * (g p1 4))) (((g o 2) * (g p1 4)) - ((g p1 3) * (g o 3)))) * (g o 2)))) o 1 ((g o 1) + ((Int.tdiv (((g p1 3) * (g o 1)) - ((g o 0) * (g p1 4))) (((g o 2) * (g p1 4)) - ((g p1 3) * (g o 3)))) * (g o 3)))) p2 4)))) * ((g o 0) + ((Int.tdiv (((g p1 3) * (g o 1)) - ((g o 0) * (g p1 4))) (((g o 2) * (g p1 4)) - ((g p1 3) * (g o 3)))) * (g o 2)))))) o 3 ((g o 3) + ((Int.tdiv (((g o 2) * ((z_up (z_up g o 0 ((g o 0) + ((Int.tdiv (((g p1 3) * (g o 1)) - ((g o 0) * (g p1 4))) (((g o 2) * (g p1 4)) - ((g p1 3) * (g o 3)))) * (g o 2)))) o 1 ((g o 1) + ((Int.tdiv (((g p1 3) * (g o 1)) - ((g o 0) * (g p1 4))) (((g o 2) * (g p1 4)) - ((g p1 3) * (g o 3)))) * (g o 3)))) p2 4)) - (((z_up (z_up g o 0 ((g o 0) + ((Int.tdiv (((g p1 3) * (g o 1)) - ((g o 0) * (g p1 4))) (((g o 2) * (g p1 4)) - ((g p1 3) * (g o 3)))) * (g o 2)))) o 1 ((g o 1) + ((Int.tdiv (((g p1 3) * (g o 1)) - ((g o 0) * (g p1 4))) (((g o 2) * (g p1 4)) - ((g p1 3) * (g o 3)))) * (g o 3)))) p2 3) * (g o 3))) ((((z_up (z_up g o 0 ((g o 0) + ((Int.tdiv (((g p1 3) * (g o 1)) - ((g o 0) * (g p1 4))) (((g o 2) * (g p1 4)) - ((g p1 3) * (g o 3)))) * (g o 2)))) o 1 ((g o 1) + ((Int.tdiv (((g p1 3) * (g o 1)) - ((g o 0) * (g p1 4))) (((g o 2) * (g p1 4)) - ((g p1 3) * (g o 3)))) * (g o 3)))) p2 3) * ((g o 1) + ((Int.tdiv (((g p1 3) * (g o 1)) - ((g o 0) * (g p1 4))) (((g o 2) * (g p1 4)) - ((g p1 3) * (g o 3)))) * (g o 3)))) - (((g o 0) + ((Int.tdiv (((g p1 3) * (g o 1)) - ((g o 0) * (g p1 4))) (((g o 2) * (g p1 4)) - ((g p1 3) * (g o 3)))) * (g o 2))) * ((z_up (z_up g o 0 ((g o 0) + ((Int.tdiv (((g p1 3) * (g o 1)) - ((g o 0) * (g p1 4))) (((g o 2) * (g p1 4)) - ((g p1 3) * (g o 3)))) * (g o 2)))) o 1 ((g o 1) + ((Int.tdiv (((g p1 3) * (g o 1)) - ((g o 0) * (g p1 4))) (((g o 2) * (g p1 4)) - ((g p1 3) * (g o 3)))) * (g o 3)))) p2 4)))) * ((g o 1) + ((Int.tdiv (((g p1 3) * (g o 1)) - ((g o 0) * (g p1 4))) (((g o 2) * (g p1 4)) - ((g p1 3) * (g o 3)))) * (g o 3)))))) o 2)) * ((z_up (z_up (z_up (z_up g o 0 ((g o 0) + ((Int.tdiv (((g p1 3) * (g o 1)) - ((g o 0) * (g p1 4))) (((g o 2) * (g p1 4)) - ((g p1 3) * (g o 3)))) * (g o 2)))) o 1 ((g o 1) + ((Int.tdiv (((g p1 3) * (g o 1)) - ((g o 0) * (g p1 4))) (((g o 2) * (g p1 4)) - ((g p1 3) * (g o 3)))) * (g o 3)))) o 2 ((g o 2) + ((Int.tdiv (((g o 2) * ((z_up (z_up g o 0 ((g o 0) + ((Int.tdiv (((g p1 3) * (g o 1)) - ((g o 0) * (g p1 4))) (((g o 2) * (g p1 4)) - ((g p1 3) * (g o 3)))) * (g o 2)))) o 1 ((g o 1) + ((Int.tdiv (((g p1 3) * (g o 1)) - ((g o 0) * (g p1 4))) (((g o 2) * (g p1 4)) - ((g p1 3) * (g o 3)))) * (g o 3)))) p2 4)) - (((z_up (z_up g o 0 ((g o 0) + ((Int.tdiv (((g p1 3) * (g o 1)) - ((g o 0) * (g p1 4))) (((g o 2) * (g p1 4)) - ((g p1 3) * (g o 3)))) * (g o 2)))) o 1 ((g o 1) + ((Int.tdiv (((g p1 3) * (g o 1)) - ((g o 0) * (g p1 4))) (((g o 2) * (g p1 4)) - ((g p1 3) * (g o 3)))) * (g o 3)))) p2 3) * (g o 3))) ((((z_up (z_up g o 0 ((g o 0) + ((Int.tdiv (((g p1 3) * (g o 1)) - ((g o 0) * (g p1 4))) (((g o 2) * (g p1 4)) - ((g p1 3) * (g o 3)))) * (g o 2)))) o 1 ((g o 1) + ((Int.tdiv (((g p1 3) * (g o 1)) - ((g o 0) * (g p1 4))) (((g o 2) * (g p1 4)) - ((g p1 3) * (g o 3)))) * (g o 3)))) p2 3) * ((g o 1) + ((Int.tdiv (((g p1 3) * (g o 1)) - ((g o 0) * (g p1 4))) (((g o 2) * (g p1 4)) - ((g p1 3) * (g o 3)))) * (g o 3)))) - (((g o 0) + ((Int.tdiv (((g p1 3) * (g o 1)) - ((g o 0) * (g p1 4))) (((g o 2) * (g p1 4)) - ((g p1 3) * (g o 3)))) * (g o 2))) * ((z_up (z_up g o 0 ((g o 0) + ((Int.tdiv (((g p1 3) * (g o 1)) - ((g o 0) * (g p1 4))) (((g o 2) * (g p1 4)) - ((g p1 3) * (g o 3)))) * (g o 2)))) o 1 ((g o 1) + ((Int.tdiv (((g p1 3) * (g o 1)) - ((g o 0) * (g p1 4))) (((g o 2) * (g p1 4)) - ((g p1 3) * (g o 3)))) * (g o 3)))) p2 4)))) * ((g o 0) + ((Int.tdiv (((g p1 3) * (g o 1)) - ((g o 0) * (g p1 4))) (((g o 2) * (g p1 4)) - ((g p1 3) * (g o 3)))) * (g o 2)))))) o 3 ((g o 3) + ((Int.tdiv (((g o 2) * ((z_up (z_up g o 0 ((g o 0) + ((Int.tdiv (((g p1 3) * (g o 1)) - ((g o 0) * (g p1 4))) (((g o 2) * (g p1 4)) - ((g p1 3) * (g o 3)))) * (g o 2)))) o 1 ((g o 1) + ((Int.tdiv (((g p1 3) * (g o 1)) - ((g o 0) * (g p1 4))) (((g o 2) * (g p1 4)) - ((g p1 3) * (g o 3)))) * (g o 3)))) p2 4)) - (((z_up (z_up g o 0 ((g o 0) + ((Int.tdiv (((g p1 3) * (g o 1)) - ((g o 0) * (g p1 4))) (((g o 2) * (g p1 4)) - ((g p1 3) * (g o 3)))) * (g o 2)))) o 1 ((g o 1) + ((Int.tdiv (((g p1 3) * (g o 1)) - ((g o 0) * (g p1 4))) (((g o 2) * (g p1 4)) - ((g p1 3) * (g o 3)))) * (g o 3)))) p2 3) * (g o 3))) ((((z_up (z_up g o 0 ((g o 0) + ((Int.tdiv (((g p1 3) * (g o 1)) - ((g o 0) * (g p1 4))) (((g o 2) * (g p1 4)) - ((g p1 3) * (g o 3)))) * (g o 2)))) o 1 ((g o 1) + ((Int.tdiv (((g p1 3) * (g o 1)) - ((g o 0) * (g p1 4))) (((g o 2) * (g p1 4)) - ((g p1 3) * (g o 3)))) * (g o 3)))) p2 3) * ((g o 1) + ((Int.tdiv (((g p1 3) * (g o 1)) - ((g o 0) * (g p1 4))) (((g o 2) * (g p1 4)) - ((g p1 3) * (g o 3)))) * (g o 3)))) - (((g o 0) + ((Int.tdiv (((g p1 3) * (g o 1)) - ((g o 0) * (g p1 4))) (((g o 2) * (g p1 4)) - ((g p1 3) * (g o 3)))) * (g o 2))) * ((z_up (z_up g o 0 ((g o 0) + ((Int.tdiv (((g p1 3) * (g o 1)) - ((g o 0) * (g p1 4))) (((g o 2) * (g p1 4)) - ((g p1 3) * (g o 3)))) * (g o 2)))) o 1 ((g o 1) + ((Int.tdiv (((g p1 3) * (g o 1)) - ((g o 0) * (g p1 4))) (((g o 2) * (g p1 4)) - ((g p1 3) * (g o 3)))) * (g o 3)))) p2 4)))) * ((g o 1) + ((Int.tdiv (((g p1 3) * (g o 1)) - ((g o 0) * (g p1 4))) (((g o 2) * (g p1 4)) - ((g p1 3) * (g o 3)))) * (g o 3)))))) p1 4)) - (((z_up (z_up (z_up (z_up g o 0 ((g o 0) + ((Int.tdiv (((g p1 3) * (g o 1)) - ((g o 0) * (g p1 4))) (((g o 2) * (g p1 4)) - ((g p1 3) * (g o 3)))) * (g o 2)))) o 1 ((g o 1) + ((Int.tdiv (((g p1 3) * (g o 1)) - ((g o 0) * (g p1 4))) (((g o 2) * (g p1 4)) - ((g p1 3) * (g o 3)))) * (g o 3)))) o 2 ((g o 2) + ((Int.tdiv (((g o 2) * ((z_up (z_up g o 0 ((g o 0) + ((Int.tdiv (((g p1 3) * (g o 1)) - ((g o 0) * (g p1 4))) (((g o 2) * (g p1 4)) - ((g p1 3) * (g o 3)))) * (g o 2)))) o 1 ((g o 1) + ((Int.tdiv (((g p1 3) * (g o 1)) - ((g o 0) * (g p1 4))) (((g o 2) * (g p1 4)) - ((g p1 3) * (g o 3)))) * (g o 3)))) p2 4)) - (((z_up (z_up g o 0 ((g o 0) + ((Int.tdiv (((g p1 3) * (g o 1)) - ((g o 0) * (g p1 4))) (((g o 2) * (g p1 4)) - ((g p1 3) * (g o 3)))) * (g o 2)))) o 1 ((g o 1) + ((Int.tdiv (((g p1 3) * (g o 1)) - ((g o 0) * (g p1 4))) (((g o 2) * (g p1 4)) - ((g p1 3) * (g o 3)))) * (g o 3)))) p2 3) * (g o 3))) ((((z_up (z_up g o 0 ((g o 0) + ((Int.tdiv (((g p1 3) * (g o 1)) - ((g o 0) * (g p1 4))) (((g o 2) * (g p1 4)) - ((g p1 3) * (g o 3)))) * (g o 2)))) o 1 ((g o 1) + ((Int.tdiv (((g p1 3) * (g o 1)) - ((g o 0) * (g p1 4))) (((g o 2) * (g p1 4)) - ((g p1 3) * (g o 3)))) * (g o 3)))) p2 3) * ((g o 1) + ((Int.tdiv (((g p1 3) * (g o 1)) - ((g o 0) * (g p1 4))) (((g o 2) * (g p1 4)) - ((g p1 3) * (g o 3)))) * (g o 3)))) - (((g o 0) + ((Int.tdiv (((g p1 3) * (g o 1)) - ((g o 0) * (g p1 4))) (((g o 2) * (g p1 4)) - ((g p1 3) * (g o 3)))) * (g o 2))) * ((z_up (z_up g o 0 ((g o 0) + ((Int.tdiv (((g p1 3) * (g o 1)) - ((g o 0) * (g p1 4))) (((g o 2) * (g p1 4)) - ((g p1 3) * (g o 3)))) * (g o 2)))) o 1 ((g o 1) + ((Int.tdiv (((g p1 3) * (g o 1)) - ((g o 0) * (g p1 4))) (((g o 2) * (g p1 4)) - ((g p1 3) * (g o 3)))) * (g o 3)))) p2 4)))) * ((g o 0) + ((Int.tdiv (((g p1 3) * (g o 1)) - ((g o 0) * (g p1 4))) (((g o 2) * (g p1 4)) - ((g p1 3) * (g o 3)))) * (g o 2)))))) o 3 ((g o 3) + ((Int.tdiv (((g o 2) * ((z_up (z_up g o 0 ((g o 0) + ((Int.tdiv (((g p1 3) * (g o 1)) - ((g o 0) * (g p1 4))) (((g o 2) * (g p1 4)) - ((g p1 3) * (g o 3)))) * (g o 2)))) o 1 ((g o 1) + ((Int.tdiv (((g p1 3) * (g o 1)) - ((g o 0) * (g p1 4))) (((g o 2) * (g p1 4)) - ((g p1 3) * (g o 3)))) * (g o 3)))) p2 4)) - (((z_up (z_up g o 0 ((g o 0) + ((Int.tdiv (((g p1 3) * (g o 1)) - ((g o 0) * (g p1 4))) (((g o 2) * (g p1 4)) - ((g p1 3) * (g o 3)))) * (g o 2)))) o 1 ((g o 1) + ((Int.tdiv (((g p1 3) * (g o 1)) - ((g o 0) * (g p1 4))) (((g o 2) * (g p1 4)) - ((g p1 3) * (g o 3)))) * (g o 3)))) p2 3) * (g o 3))) ((((z_up (z_up g o 0 ((g o 0) + ((Int.tdiv (((g p1 3) * (g o 1)) - ((g o 0) * (g p1 4))) (((g o 2) * (g p1 4)) - ((g p1 3) * (g o 3)))) * (g o 2)))) o 1 ((g o 1) + ((Int.tdiv (((g p1 3) * (g o 1)) - ((g o 0) * (g p1 4))) (((g o 2) * (g p1 4)) - ((g p1 3) * (g o 3)))) * (g o 3)))) p2 3) * ((g o 1) + ((Int.tdiv (((g p1 3) * (g o 1)) - ((g o 0) * (g p1 4))) (((g o 2) * (g p1 4)) - ((g p1 3) * (g o 3)))) * (g o 3)))) - (((g o 0) + ((Int.tdiv (((g p1 3) * (g o 1)) - ((g o 0) * (g p1 4))) (((g o 2) * (g p1 4)) - ((g p1 3) * (g o 3)))) * (g o 2))) * ((z_up (z_up g o 0 ((g o 0) + ((Int.tdiv (((g p1 3) * (g o 1)) - ((g o 0) * (g p1 4))) (((g o 2) * (g p1 4)) - ((g p1 3) * (g o 3)))) * (g o 2)))) o 1 ((g o 1) + ((Int.tdiv (((g p1 3) * (g o 1)) - ((g o 0) * (g p1 4))) (((g o 2) * (g p1 4)) - ((g p1 3) * (g o 3)))) * (g o 3)))) p2 4)))) * ((g o 1) + ((Int.tdiv (((g p1 3) * (g o 1)) - ((g o 0) * (g p1 4))) (((g o 2) * (g p1 4)) - ((g p1 3) * (g o 3)))) * (g o 3)))))) p1 3) * (((z_up (z_up (z_up (z_up g o 0 ((g o 0) + ((Int.tdiv (((g p1 3) * (g o 1)) - ((g o 0) * (g p1 4))) (((g o 2) * (g p1 4)) - ((g p1 3) * (g o 3)))) * (g o 2)))) o 1 ((g o 1) + ((Int.tdiv (((g p1 3) * (g o 1)) - ((g o 0) * (g p1 4))) (((g o 2) * (g p1 4)) - ((g p1 3) * (g o 3)))) * (g o 3)))) o 2 ((g o 2) + ((Int.tdiv (((g o 2) * ((z_up (z_up g o 0 ((g o 0) + ((Int.tdiv (((g p1 3) * (g o 1)) - ((g o 0) * (g p1 4))) (((g o 2) * (g p1 4)) - ((g p1 3) * (g o 3)))) * (g o 2)))) o 1 ((g o 1) + ((Int.tdiv (((g p1 3) * (g o 1)) - ((g o 0) * (g p1 4))) (((g o 2) * (g p1 4)) - ((g p1 3) * (g o 3)))) * (g o 3)))) p2 4)) - (((z_up (z_up g o 0 ((g o 0) + ((Int.tdiv (((g p1 3) * (g o 1)) - ((g o 0) * (g p1 4))) (((g o 2) * (g p1 4)) - ((g p1 3) * (g o 3)))) * (g o 2)))) o 1 ((g o 1) + ((Int.tdiv (((g p1 3) * (g o 1)) - ((g o 0) * (g p1 4))) (((g o 2) * (g p1 4)) - ((g p1 3) * (g o 3)))) * (g o 3)))) p2 3) * (g o 3))) ((((z_up (z_up g o 0 ((g o 0) + ((Int.tdiv (((g p1 3) * (g o 1)) - ((g o 0) * (g p1 4))) (((g o 2) * (g p1 4)) - ((g p1 3) * (g o 3)))) * (g o 2)))) o 1 ((g o 1) + ((Int.tdiv (((g p1 3) * (g o 1)) - ((g o 0) * (g p1 4))) (((g o 2) * (g p1 4)) - ((g p1 3) * (g o 3)))) * (g o 3)))) p2 3) * ((g o 1) + ((Int.tdiv (((g p1 3) * (g o 1)) - ((g o 0) * (g p1 4))) (((g o 2) * (g p1 4)) - ((g p1 3) * (g o 3)))) * (g o 3)))) - (((g o 0) + ((Int.tdiv (((g p1 3) * (g o 1)) - ((g o 0) * (g p1 4))) (((g o 2) * (g p1 4)) - ((g p1 3) * (g o 3)))) * (g o 2))) * ((z_up (z_up g o 0 ((g o 0) + ((Int.tdiv (((g p1 3) * (g o 1)) - ((g o 0) * (g p1 4))) (((g o 2) * (g p1 4)) - ((g p1 3) * (g o 3)))) * (g o 2)))) o 1 ((g o 1) + ((Int.tdiv (((g p1 3) * (g o 1)) - ((g o 0) * (g p1 4))) (((g o 2) * (g p1 4)) - ((g p1 3) * (g o 3)))) * (g o 3)))) p2 4)))) * ((g o 0) + ((Int.tdiv (((g p1 3) * (g o 1)) - ((g o 0) * (g p1 4))) (((g o 2) * (g p1 4)) - ((g p1 3) * (g o 3)))) * (g o 2)))))) o 3 ((g o 3) + ((Int.tdiv (((g o 2) * ((z_up (z_up g o 0 ((g o 0) + ((Int.tdiv (((g p1 3) * (g o 1)) - ((g o 0) * (g p1 4))) (((g o 2) * (g p1 4)) - ((g p1 3) * (g o 3)))) * (g o 2)))) o 1 ((g o 1) + ((Int.tdiv (((g p1 3) * (g o 1)) - ((g o 0) * (g p1 4))) (((g o 2) * (g p1 4)) - ((g p1 3) * (g o 3)))) * (g o 3)))) p2 4)) - (((z_up (z_up g o 0 ((g o 0) + ((Int.tdiv (((g p1 3) * (g o 1)) - ((g o 0) * (g p1 4))) (((g o 2) * (g p1 4)) - ((g p1 3) * (g o 3)))) * (g o 2)))) o 1 ((g o 1) + ((Int.tdiv (((g p1 3) * (g o 1)) - ((g o 0) * (g p1 4))) (((g o 2) * (g p1 4)) - ((g p1 3) * (g o 3)))) * (g o 3)))) p2 3) * (g o 3))) ((((z_up (z_up g o 0 ((g o 0) + ((Int.tdiv (((g p1 3) * (g o 1)) - ((g o 0) * (g p1 4))) (((g o 2) * (g p1 4)) - ((g p1 3) * (g o 3)))) * (g o 2)))) o 1 ((g o 1) + ((Int.tdiv (((g p1 3) * (g o 1)) - ((g o 0) * (g p1 4))) (((g o 2) * (g p1 4)) - ((g p1 3) * (g o 3)))) * (g o 3)))) p2 3) * ((g o 1) + ((Int.tdiv (((g p1 3) * (g o 1)) - ((g o 0) * (g p1 4))) (((g o 2) * (g p1 4)) - ((g p1 3) * (g o 3)))) * (g o 3)))) - (((g o 0) + ((Int.tdiv (((g p1 3) * (g o 1)) - ((g o 0) * (g p1 4))) (((g o 2) * (g p1 4)) - ((g p1 3) * (g o 3)))) * (g o 2))) * ((z_up (z_up g o 0 ((g o 0) + ((Int.tdiv (((g p1 3) * (g o 1)) - ((g o 0) * (g p1 4))) (((g o 2) * (g p1 4)) - ((g p1 3) * (g o 3)))) * (g o 2)))) o 1 ((g o 1) + ((Int.tdiv (((g p1 3) * (g o 1)) - ((g o 0) * (g p1 4))) (((g o 2) * (g p1 4)) - ((g p1 3) * (g o 3)))) * (g o 3)))) p2 4)))) * ((g o 1) + ((Int.tdiv (((g p1 3) * (g o 1)) - ((g o 0) * (g p1 4))) (((g o 2) * (g p1 4)) - ((g p1 3) * (g o 3)))) * (g o 3)))))) o 1) + ((z_up (z_up (z_up (z_up g o 0 ((g o 0) + ((Int.tdiv (((g p1 3) * (g o 1)) - ((g o 0) * (g p1 4))) (((g o 2) * (g p1 4)) - ((g p1 3) * (g o 3)))) * (g o 2)))) o 1 ((g o 1) + ((Int.tdiv (((g p1 3) * (g o 1)) - ((g o 0) * (g p1 4))) (((g o 2) * (g p1 4)) - ((g p1 3) * (g o 3)))) * (g o 3)))) o 2 ((g o 2) + ((Int.tdiv (((g o 2) * ((z_up (z_up g o 0 ((g o 0) + ((Int.tdiv (((g p1 3) * (g o 1)) - ((g o 0) * (g p1 4))) (((g o 2) * (g p1 4)) - ((g p1 3) * (g o 3)))) * (g o 2)))) o 1 ((g o 1) + ((Int.tdiv (((g p1 3) * (g o 1)) - ((g o 0) * (g p1 4))) (((g o 2) * (g p1 4)) - ((g p1 3) * (g o 3)))) * (g o 3)))) p2 4)) - (((z_up (z_up g o 0 ((g o 0) + ((Int.tdiv (((g p1 3) * (g o 1)) - ((g o 0) * (g p1 4))) (((g o 2) * (g p1 4)) - ((g p1 3) * (g o 3)))) * (g o 2)))) o 1 ((g o 1) + ((Int.tdiv (((g p1 3) * (g o 1)) - ((g o 0) * (g p1 4))) (((g o 2) * (g p1 4)) - ((g p1 3) * (g o 3)))) * (g o 3)))) p2 3) * (g o 3))) ((((z_up (z_up g o 0 ((g o 0) + ((Int.tdiv (((g p1 3) * (g o 1)) - ((g o 0) * (g p1 4))) (((g o 2) * (g p1 4)) - ((g p1 3) * (g o 3)))) * (g o 2)))) o 1 ((g o 1) + ((Int.tdiv (((g p1 3) * (g o 1)) - ((g o 0) * (g p1 4))) (((g o 2) * (g p1 4)) - ((g p1 3) * (g o 3)))) * (g o 3)))) p2 3) * ((g o 1) + ((Int.tdiv (((g p1 3) * (g o 1)) - ((g o 0) * (g p1 4))) (((g o 2) * (g p1 4)) - ((g p1 3) * (g o 3)))) * (g o 3)))) - (((g o 0) + ((Int.tdiv (((g p1 3) * (g o 1)) - ((g o 0) * (g p1 4))) (((g o 2) * (g p1 4)) - ((g p1 3) * (g o 3)))) * (g o 2))) * ((z_up (z_up g o 0 ((g o 0) + ((Int.tdiv (((g p1 3) * (g o 1)) - ((g o 0) * (g p1 4))) (((g o 2) * (g p1 4)) - ((g p1 3) * (g o 3)))) * (g o 2)))) o 1 ((g o 1) + ((Int.tdiv (((g p1 3) * (g o 1)) - ((g o 0) * (g p1 4))) (((g o 2) * (g p1 4)) - ((g p1 3) * (g o 3)))) * (g o 3)))) p2 4)))) * ((g o 0) + ((Int.tdiv (((g p1 3) * (g o 1)) - ((g o 0) * (g p1 4))) (((g o 2) * (g p1 4)) - ((g p1 3) * (g o 3)))) * (g o 2)))))) o 3 ((g o 3) + ((Int.tdiv (((g o 2) * ((z_up (z_up g o 0 ((g o 0) + ((Int.tdiv (((g p1 3) * (g o 1)) - ((g o 0) * (g p1 4))) (((g o 2) * (g p1 4)) - ((g p1 3) * (g o 3)))) * (g o 2)))) o 1 ((g o 1) + ((Int.tdiv (((g p1 3) * (g o 1)) - ((g o 0) * (g p1 4))) (((g o 2) * (g p1 4)) - ((g p1 3) * (g o 3)))) * (g o 3)))) p2 4)) - (((z_up (z_up g o 0 ((g o 0) + ((Int.tdiv (((g p1 3) * (g o 1)) - ((g o 0) * (g p1 4))) (((g o 2) * (g p1 4)) - ((g p1 3) * (g o 3)))) * (g o 2)))) o 1 ((g o 1) + ((Int.tdiv (((g p1 3) * (g o 1)) - ((g o 0) * (g p1 4))) (((g o 2) * (g p1 4)) - ((g p1 3) * (g o 3)))) * (g o 3)))) p2 3) * (g o 3))) ((((z_up (z_up g o 0 ((g o 0) + ((Int.tdiv (((g p1 3) * (g o 1)) - ((g o 0) * (g p1 4))) (((g o 2) * (g p1 4)) - ((g p1 3) * (g o 3)))) * (g o 2)))) o 1 ((g o 1) + ((Int.tdiv (((g p1 3) * (g o 1)) - ((g o 0) * (g p1 4))) (((g o 2) * (g p1 4)) - ((g p1 3) * (g o 3)))) * (g o 3)))) p2 3) * ((g o 1) + ((Int.tdiv (((g p1 3) * (g o 1)) - ((g o 0) * (g p1 4))) (((g o 2) * (g p1 4)) - ((g p1 3) * (g o 3)))) * (g o 3)))) - (((g o 0) + ((Int.tdiv (((g p1 3) * (g o 1)) - ((g o 0) * (g p1 4))) (((g o 2) * (g p1 4)) - ((g p1 3) * (g o 3)))) * (g o 2))) * ((z_up (z_up g o 0 ((g o 0) + ((Int.tdiv (((g p1 3) * (g o 1)) - ((g o 0) * (g p1 4))) (((g o 2) * (g p1 4)) - ((g p1 3) * (g o 3)))) * (g o 2)))) o 1 ((g o 1) + ((Int.tdiv (((g p1 3) * (g o 1)) - ((g o 0) * (g p1 4))) (((g o 2) * (g p1 4)) - ((g p1 3) * (g o 3)))) * (g o 3)))) p2 4)))) * ((g o 1) + ((Int.tdiv (((g p1 3) * (g o 1)) - ((g o 0) * (g p1 4))) (((g o 2) * (g p1 4)) - ((g p1 3) * (g o 3)))) * (g o 3)))))) o 3)))) ∧ (((((z_up (z_up (z_up (z_up g o 0 ((g o 0) + ((Int.tdiv (((g p1 3) * (g o 1)) - ((g o 0) * (g p1 4))) (((g o 2) * (g p1 4)) - ((g p1 3) * (g o 3)))) * (g o 2)))) o 1 ((g o 1) + ((Int.tdiv (((g p1 3) * (g o 1)) - ((g o 0) * (g p1 4))) (((g o 2) * (g p1 4)) - ((g p1 3) * (g o 3)))) * (g o 3)))) o 2 ((g o 2) + ((Int.tdiv (((g o 2) * ((z_up (z_up g o 0 ((g o 0) + ((Int.tdiv (((g p1 3) * (g o 1)) - ((g o 0) * (g p1 4))) (((g o 2) * (g p1 4)) - ((g p1 3) * (g o 3)))) * (g o 2)))) o 1 ((g o 1) + ((Int.tdiv (((g p1 3) * (g o 1)) - ((g o 0) * (g p1 4))) (((g o 2) * (g p1 4)) - ((g p1 3) * (g o 3)))) * (g o 3)))) p2 4)) - (((z_up (z_up g o 0 ((g o 0) + ((Int.tdiv (((g p1 3) * (g o 1)) - ((g o 0) * (g p1 4))) (((g o 2) * (g p1 4)) - ((g p1 3) * (g o 3)))) * (g o 2)))) o 1 ((g o 1) + ((Int.tdiv (((g p1 3) * (g o 1)) - ((g o 0) * (g p1 4))) (((g o 2) * (g p1 4)) - ((g p1 3) * (g o 3)))) * (g o 3)))) p2 3) * (g o 3))) ((((z_up (z_up g o 0 ((g o 0) + ((Int.tdiv (((g p1 3) * (g o 1)) - ((g o 0) * (g p1 4))) (((g o 2) * (g p1 4)) - ((g p1 3) * (g o 3)))) * (g o 2)))) o 1 ((g o 1) + ((Int.tdiv (((g p1 3) * (g o 1)) - ((g o 0) * (g p1 4))) (((g o 2) * (g p1 4)) - ((g p1 3) * (g o 3)))) * (g o 3)))) p2 3) * ((g o 1) + ((Int.tdiv (((g p1 3) * (g o 1)) - ((g o 0) * (g p1 4))) (((g o 2) * (g p1 4)) - ((g p1 3) * (g o 3)))) * (g o 3)))) - (((g o 0) + ((Int.tdiv (((g p1 3) * (g o 1)) - ((g o 0) * (g p1 4))) (((g o 2) * (g p1 4)) - ((g p1 3) * (g o 3)))) * (g o 2))) * ((z_up (z_up g o 0 ((g o 0) + ((Int.tdiv (((g p1 3) * (g o 1)) - ((g o 0) * (g p1 4))) (((g o 2) * (g p1 4)) - ((g p1 3) * (g o 3)))) * (g o 2)))) o 1 ((g o 1) + ((Int.tdiv (((g p1 3) * (g o 1)) - ((g o 0) * (g p1 4))) (((g o 2) * (g p1 4)) - ((g p1 3) * (g o 3)))) * (g o 3)))) p2 4)))) * ((g o 0) + ((Int.tdiv (((g p1 3) * (g o 1)) - ((g o 0) * (g p1 4))) (((g o 2) * (g p1 4)) - ((g p1 3) * (g o 3)))) * (g o 2)))))) o 3 ((g o 3) + ((Int.tdiv (((g o 2) * ((z_up (z_up g o 0 ((g o 0) + ((Int.tdiv (((g p1 3) * (g o 1)) - ((g o 0) * (g p1 4))) (((g o 2) * (g p1 4)) - ((g p1 3) * (g o 3)))) * (g o 2)))) o 1 ((g o 1) + ((Int.tdiv (((g p1 3) * (g o 1)) - ((g o 0) * (g p1 4))) (((g o 2) * (g p1 4)) - ((g p1 3) * (g o 3)))) * (g o 3)))) p2 4)) - (((z_up (z_up g o 0 ((g o 0) + ((Int.tdiv (((g p1 3) * (g o 1)) - ((g o 0) * (g p1 4))) (((g o 2) * (g p1 4)) - ((g p1 3) * (g o 3)))) * (g o 2)))) o 1 ((g o 1) + ((Int.tdiv (((g p1 3) * (g o 1)) - ((g o 0) * (g p1 4))) (((g o 2) * (g p1 4)) - ((g p1 3) * (g o 3)))) * (g o 3)))) p2 3) * (g o 3))) ((((z_up (z_up g o 0 ((g o 0) + ((Int.tdiv (((g p1 3) * (g o 1)) - ((g o 0) * (g p1 4))) (((g o 2) * (g p1 4)) - ((g p1 3) * (g o 3)))) * (g o 2)))) o 1 ((g o 1) + ((Int.tdiv (((g p1 3) * (g o 1)) - ((g o 0) * (g p1 4))) (((g o 2) * (g p1 4)) - ((g p1 3) * (g o 3)))) * (g o 3)))) p2 3) * ((g o 1) + ((Int.tdiv (((g p1 3) * (g o 1)) - ((g o 0) * (g p1 4))) (((g o 2) * (g p1 4)) - ((g p1 3) * (g o 3)))) * (g o 3)))) - (((g o 0) + ((Int.tdiv (((g p1 3) * (g o 1)) - ((g o 0) * (g p1 4))) (((g o 2) * (g p1 4)) - ((g p1 3) * (g o 3)))) * (g o 2))) * ((z_up (z_up g o 0 ((g o 0) + ((Int.tdiv (((g p1 3) * (g o 1)) - ((g o 0) * (g p1 4))) (((g o 2) * (g p1 4)) - ((g p1 3) * (g o 3)))) * (g o 2)))) o 1 ((g o 1) + ((Int.tdiv (((g p1 3) * (g o 1)) - ((g o 0) * (g p1 4))) (((g o 2) * (g p1 4)) - ((g p1 3) * (g o 3)))) * (g o 3)))) p2 4)))) * ((g o 1) + ((Int.tdiv (((g p1 3) * (g o 1)) - ((g o 0) * (g p1 4))) (((g o 2) * (g p1 4)) - ((g p1 3) * (g o 3)))) * (g o 3)))))) o 0) + ((z_up (z_up (z_up (z_up g o 0 ((g o 0) + ((Int.tdiv (((g p1 3) * (g o 1)) - ((g o 0) * (g p1 4))) (((g o 2) * (g p1 4)) - ((g p1 3) * (g o 3)))) * (g o 2)))) o 1 ((g o 1) + ((Int.tdiv (((g p1 3) * (g o 1)) - ((g o 0) * (g p1 4))) (((g o 2) * (g p1 4)) - ((g p1 3) * (g o 3)))) * (g o 3)))) o 2 ((g o 2) + ((Int.tdiv (((g o 2) * ((z_up (z_up g o 0 ((g o 0) + ((Int.tdiv (((g p1 3) * (g o 1)) - ((g o 0) * (g p1 4))) (((g o 2) * (g p1 4)) - ((g p1 3) * (g o 3)))) * (g o 2)))) o 1 ((g o 1) + ((Int.tdiv (((g p1 3) * (g o 1)) - ((g o 0) * (g p1 4))) (((g o 2) * (g p1 4)) - ((g p1 3) * (g o 3)))) * (g o 3)))) p2 4)) - (((z_up (z_up g o 0 ((g o 0) + ((Int.tdiv (((g p1 3) * (g o 1)) - ((g o 0) * (g p1 4))) (((g o 2) * (g p1 4)) - ((g p1 3) * (g o 3)))) * (g o 2)))) o 1 ((g o 1) + ((Int.tdiv (((g p1 3) * (g o 1)) - ((g o 0) * (g p1 4))) (((g o 2) * (g p1 4)) - ((g p1 3) * (g o 3)))) * (g o 3)))) p2 3) * (g o 3))) ((((z_up (z_up g o 0 ((g o 0) + ((Int.tdiv (((g p1 3) * (g o 1)) - ((g o 0) * (g p1 4))) (((g o 2) * (g p1 4)) - ((g p1 3) * (g o 3)))) * (g o 2)))) o 1 ((g o 1) + ((Int.tdiv (((g p1 3) * (g o 1)) - ((g o 0) * (g p1 4))) (((g o 2) * (g p1 4)) - ((g p1 3) * (g o 3)))) * (g o 3)))) p2 3) * ((g o 1) + ((Int.tdiv (((g p1 3) * (g o 1)) - ((g o 0) * (g p1 4))) (((g o 2) * (g p1 4)) - ((g p1 3) * (g o 3)))) * (g o 3)))) - (((g o 0) + ((Int.tdiv (((g p1 3) * (g o 1)) - ((g o 0) * (g p1 4))) (((g o 2) * (g p1 4)) - ((g p1 3) * (g o 3)))) * (g o 2))) * ((z_up (z_up g o 0 ((g o 0) + ((Int.tdiv (((g p1 3) * (g o 1)) - ((g o 0) * (g p1 4))) (((g o 2) * (g p1 4)) - ((g p1 3) * (g o 3)))) * (g o 2)))) o 1 ((g o 1) + ((Int.tdiv (((g p1 3) * (g o 1)) - ((g o 0) * (g p1 4))) (((g o 2) * (g p1 4)) - ((g p1 3) * (g o 3)))) * (g o 3)))) p2 4)))) * ((g o 0) + ((Int.tdiv (((g p1 3) * (g o 1)) - ((g o 0) * (g p1 4))) (((g o 2) * (g p1 4)) - ((g p1 3) * (g o 3)))) * (g o 2)))))) o 3 ((g o 3) + ((Int.tdiv (((g o 2) * ((z_up (z_up g o 0 ((g o 0) + ((Int.tdiv (((g p1 3) * (g o 1)) - ((g o 0) * (g p1 4))) (((g o 2) * (g p1 4)) - ((g p1 3) * (g o 3)))) * (g o 2)))) o 1 ((g o 1) + ((Int.tdiv (((g p1 3) * (g o 1)) - ((g o 0) * (g p1 4))) (((g o 2) * (g p1 4)) - ((g p1 3) * (g o 3)))) * (g o 3)))) p2 4)) - (((z_up (z_up g o 0 ((g o 0) + ((Int.tdiv (((g p1 3) * (g o 1)) - ((g o 0) * (g p1 4))) (((g o 2) * (g p1 4)) - ((g p1 3) * (g o 3)))) * (g o 2)))) o 1 ((g o 1) + ((Int.tdiv (((g p1 3) * (g o 1)) - ((g o 0) * (g p1 4))) (((g o 2) * (g p1 4)) - ((g p1 3) * (g o 3)))) * (g o 3)))) p2 3) * (g o 3))) ((((z_up (z_up g o 0 ((g o 0) + ((Int.tdiv (((g p1 3) * (g o 1)) - ((g o 0) * (g p1 4))) (((g o 2) * (g p1 4)) - ((g p1 3) * (g o 3)))) * (g o 2)))) o 1 ((g o 1) + ((Int.tdiv (((g p1 3) * (g o 1)) - ((g o 0) * (g p1 4))) (((g o 2) * (g p1 4)) - ((g p1 3) * (g o 3)))) * (g o 3)))) p2 3) * ((g o 1) + ((Int.tdiv (((g p1 3) * (g o 1)) - ((g o 0) * (g p1 4))) (((g o 2) * (g p1 4)) - ((g p1 3) * (g o 3)))) * (g o 3)))) - (((g o 0) + ((Int.tdiv (((g p1 3) * (g o 1)) - ((g o 0) * (g p1 4))) (((g o 2) * (g p1 4)) - ((g p1 3) * (g o 3)))) * (g o 2))) * ((z_up (z_up g o 0 ((g o 0) + ((Int.tdiv (((g p1 3) * (g o 1)) - ((g o 0) * (g p1 4))) (((g o 2) * (g p1 4)) - ((g p1 3) * (g o 3)))) * (g o 2)))) o 1 ((g o 1) + ((Int.tdiv (((g p1 3) * (g o 1)) - ((g o 0) * (g p1 4))) (((g o 2) * (g p1 4)) - ((g p1 3) * (g o 3)))) * (g o 3)))) p2 4)))) * ((g o 1) + ((Int.tdiv (((g p1 3) * (g o 1)) - ((g o 0) * (g p1 4))) (((g o 2) * (g p1 4)) - ((g p1 3) * (g o 3)))) * (g o 3)))))) o 2)) * ((z_up (z_up (z_up (z_up g o 0 ((g o 0) + ((Int.tdiv (((g p1 3) * (g o 1)) - ((g o 0) * (g p1 4))) (((g o 2) * (g p1 4)) - ((g p1 3) * (g o 3)))) * (g o 2)))) o 1 ((g o 1) + ((Int.tdiv (((g p1 3) * (g o 1)) - ((g o 0) * (g p1 4))) (((g o 2) * (g p1 4)) - ((g p1 3) * (g o 3)))) * (g o 3)))) o 2 ((g o 2) + ((Int.tdiv (((g o 2) * ((z_up (z_up g o 0 ((g o 0) + ((Int.tdiv (((g p1 3) * (g o 1)) - ((g o 0) * (g p1 4))) (((g o 2) * (g p1 4)) - ((g p1 3) * (g o 3)))) * (g o 2)))) o 1 ((g o 1) + ((Int.tdiv (((g p1 3) * (g o 1)) - ((g o 0) * (g p1 4))) (((g o 2) * (g p1 4)) - ((g p1 3) * (g o 3)))) * (g o 3)))) p2 4)) - (((z_up (z_up g o 0 ((g o 0) + ((Int.tdiv (((g p1 3) * (g o 1)) - ((g o 0) * (g p1 4))) (((g o 2) * (g p1 4)) - ((g p1 3) * (g o 3)))) * (g o 2)))) o 1 ((g o 1) + ((Int.tdiv (((g p1 3) * (g o 1)) - ((g o 0) * (g p1 4))) (((g o 2) * (g p1 4)) - ((g p1 3) * (g o 3)))) * (g o 3)))) p2 3) * (g o 3))) ((((z_up (z_up g o 0 ((g o 0) + ((Int.tdiv (((g p1 3) * (g o 1)) - ((g o 0) * (g p1 4))) (((g o 2) * (g p1 4)) - ((g p1 3) * (g o 3)))) * (g o 2)))) o 1 ((g o 1) + ((Int.tdiv (((g p1 3) * (g o 1)) - ((g o 0) * (g p1 4))) (((g o 2) * (g p1 4)) - ((g p1 3) * (g o 3)))) * (g o 3)))) p2 3) * ((g o 1) + ((Int.tdiv (((g p1 3) * (g o 1)) - ((g o 0) * (g p1 4))) (((g o 2) * (g p1 4)) - ((g p1 3) * (g o 3)))) * (g o 3)))) - (((g o 0) + ((Int.tdiv (((g p1 3) * (g o 1)) - ((g o 0) * (g p1 4))) (((g o 2) * (g p1 4)) - ((g p1 3) * (g o 3)))) * (g o 2))) * ((z_up (z_up g o 0 ((g o 0) + ((Int.tdiv (((g p1 3) * (g o 1)) - ((g o 0) * (g p1 4))) (((g o 2) * (g p1 4)) - ((g p1 3) * (g o 3)))) * (g o 2)))) o 1 ((g o 1) + ((Int.tdiv (((g p1 3) * (g o 1)) - ((g o 0) * (g p1 4))) (((g o 2) * (g p1 4)) - ((g p1 3) * (g o 3)))) * (g o 3)))) p2 4)))) * ((g o 0) + ((Int.tdiv (((g p1 3) * (g o 1)) - ((g o 0) * (g p1 4))) (((g o 2) * (g p1 4)) - ((g p1 3) * (g o 3)))) * (g o 2)))))) o 3 ((g o 3) + ((Int.tdiv (((g o 2) * ((z_up (z_up g o 0 ((g o 0) + ((Int.tdiv (((g p1 3) * (g o 1)) - ((g o 0) * (g p1 4))) (((g o 2) * (g p1 4)) - ((g p1 3) * (g o 3)))) * (g o 2)))) o 1 ((g o 1) + ((Int.tdiv (((g p1 3) * (g o 1)) - ((g o 0) * (g p1 4))) (((g o 2) * (g p1 4)) - ((g p1 3) * (g o 3)))) * (g o 3)))) p2 4)) - (((z_up (z_up g o 0 ((g o 0) + ((Int.tdiv (((g p1 3) * (g o 1)) - ((g o 0) * (g p1 4))) (((g o 2) * (g p1 4)) - ((g p1 3) * (g o 3)))) * (g o 2)))) o 1 ((g o 1) + ((Int.tdiv (((g p1 3) * (g o 1)) - ((g o 0) * (g p1 4))) (((g o 2) * (g p1 4)) - ((g p1 3) * (g o 3)))) * (g o 3)))) p2 3) * (g o 3))) ((((z_up (z_up g o 0 ((g o 0) + ((Int.tdiv (((g p1 3) * (g o 1)) - ((g o 0) * (g p1 4))) (((g o 2) * (g p1 4)) - ((g p1 3) * (g o 3)))) * (g o 2)))) o 1 ((g o 1) + ((Int.tdiv (((g p1 3) * (g o 1)) - ((g o 0) * (g p1 4))) (((g o 2) * (g p1 4)) - ((g p1 3) * (g o 3)))) * (g o 3)))) p2 3) * ((g o 1) + ((Int.tdiv (((g p1 3) * (g o 1)) - ((g o 0) * (g p1 4))) (((g o 2) * (g p1 4)) - ((g p1 3) * (g o 3)))) * (g o 3)))) - (((g o 0) + ((Int.tdiv (((g p1 3) * (g o 1)) - ((g o 0) * (g p1 4))) (((g o 2) * (g p1 4)) - ((g p1 3) * (g o 3)))) * (g o 2))) * ((z_up (z_up g o 0 ((g o 0) + ((Int.tdiv (((g p1 3) * (g o 1)) - ((g o 0) * (g p1 4))) (((g o 2) * (g p1 4)) - ((g p1 3) * (g o 3)))) * (g o 2)))) o 1 ((g o 1) + ((Int.tdiv (((g p1 3) * (g o 1)) - ((g o 0) * (g p1 4))) (((g o 2) * (g p1 4)) - ((g p1 3) * (g o 3)))) * (g o 3)))) p2 4)))) * ((g o 1) + ((Int.tdiv (((g p1 3) * (g o 1)) - ((g o 0) * (g p1 4))) (((g o 2) * (g p1 4)) - ((g p1 3) * (g o 3)))) * (g o 3)))))) p1 4)) - (((z_up (z_up (z_up (z_up g o 0 ((g o 0) + ((Int.tdiv (((g p1 3) * (g o 1)) - ((g o 0) * (g p1 4))) (((g o 2) * (g p1 4)) - ((g p1 3) * (g o 3)))) * (g o 2)))) o 1 ((g o 1) + ((Int.tdiv (((g p1 3) * (g o 1)) - ((g o 0) * (g p1 4))) (((g o 2) * (g p1 4)) - ((g p1 3) * (g o 3)))) * (g o 3)))) o 2 ((g o 2) + ((Int.tdiv (((g o 2) * ((z_up (z_up g o 0 ((g o 0) + ((Int.tdiv (((g p1 3) * (g o 1)) - ((g o 0) * (g p1 4))) (((g o 2) * (g p1 4)) - ((g p1 3) * (g o 3)))) * (g o 2)))) o 1 ((g o 1) + ((Int.tdiv (((g p1 3) * (g o 1)) - ((g o 0) * (g p1 4))) (((g o 2) * (g p1 4)) - ((g p1 3) * (g o 3)))) * (g o 3)))) p2 4)) - (((z_up (z_up g o 0 ((g o 0) + ((Int.tdiv (((g p1 3) * (g o 1)) - ((g o 0) * (g p1 4))) (((g o 2) * (g p1 4)) - ((g p1 3) * (g o 3)))) * (g o 2)))) o 1 ((g o 1) + ((Int.tdiv (((g p1 3) * (g o 1)) - ((g o 0) * (g p1 4))) (((g o 2) * (g p1 4)) - ((g p1 3) * (g o 3)))) * (g o 3)))) p2 3) * (g o 3))) ((((z_up (z_up g o 0 ((g o 0) + ((Int.tdiv (((g p1 3) * (g o 1)) - ((g o 0) * (g p1 4))) (((g o 2) * (g p1 4)) - ((g p1 3) * (g o 3)))) * (g o 2)))) o 1 ((g o 1) + ((Int.tdiv (((g p1 3) * (g o 1)) - ((g o 0) * (g p1 4))) (((g o 2) * (g p1 4)) - ((g p1 3) * (g o 3)))) * (g o 3)))) p2 3) * ((g o 1) + ((Int.tdiv (((g p1 3) * (g o 1)) - ((g o 0) * (g p1 4))) (((g o 2) * (g p1 4)) - ((g p1 3) * (g o 3)))) * (g o 3)))) - (((g o 0) + ((Int.tdiv (((g p1 3) * (g o 1)) - ((g o 0) * (g p1 4))) (((g o 2) * (g p1 4)) - ((g p1 3) * (g o 3)))) * (g o 2))) * ((z_up (z_up g o 0 ((g o 0) + ((Int.tdiv (((g p1 3) * (g o 1)) - ((g o 0) * (g p1 4))) (((g o 2) * (g p1 4)) - ((g p1 3) * (g o 3)))) * (g o 2)))) o 1 ((g o 1) + ((Int.tdiv (((g p1 3) * (g o 1)) - ((g o 0) * (g p1 4))) (((g o 2) * (g p1 4)) - ((g p1 3) * (g o 3)))) * (g o 3)))) p2 4)))) * ((g o 0) + ((Int.tdiv (((g p1 3) * (g o 1)) - ((g o 0) * (g p1 4))) (((g o 2) * (g p1 4)) - ((g p1 3) * (g o 3)))) * (g o 2)))))) o 3 ((g o 3) + ((Int.tdiv (((g o 2) * ((z_up (z_up g o 0 ((g o 0) + ((Int.tdiv (((g p1 3) * (g o 1)) - ((g o 0) * (g p1 4))) (((g o 2) * (g p1 4)) - ((g p1 3) * (g o 3)))) * (g o 2)))) o 1 ((g o 1) + ((Int.tdiv (((g p1 3) * (g o 1)) - ((g o 0) * (g p1 4))) (((g o 2) * (g p1 4)) - ((g p1 3) * (g o 3)))) * (g o 3)))) p2 4)) - (((z_up (z_up g o 0 ((g o 0) + ((Int.tdiv (((g p1 3) * (g o 1)) - ((g o 0) * (g p1 4))) (((g o 2) * (g p1 4)) - ((g p1 3) * (g o 3)))) * (g o 2)))) o 1 ((g o 1) + ((Int.tdiv (((g p1 3) * (g o 1)) - ((g o 0) * (g p1 4))) (((g o 2) * (g p1 4)) - ((g p1 3) * (g o 3)))) * (g o 3)))) p2 3) * (g o 3))) ((((z_up (z_up g o 0 ((g o 0) + ((Int.tdiv (((g p1 3) * (g o 1)) - ((g o 0) * (g p1 4))) (((g o 2) * (g p1 4)) - ((g p1 3) * (g o 3)))) * (g o 2)))) o 1 ((g o 1) + ((Int.tdiv (((g p1 3) * (g o 1)) - ((g o 0) * (g p1 4))) (((g o 2) * (g p1 4)) - ((g p1 3) * (g o 3)))) * (g o 3)))) p2 3) * ((g o 1) + ((Int.tdiv (((g p1 3) * (g o 1)) - ((g o 0) * (g p1 4))) (((g o 2) * (g p1 4)) - ((g p1 3) * (g o 3)))) * (g o 3)))) - (((g o 0) + ((Int.tdiv (((g p1 3) * (g o 1)) - ((g o 0) * (g p1 4))) (((g o 2) * (g p1 4)) - ((g p1 3) * (g o 3)))) * (g o 2))) * ((z_up (z_up g o 0 ((g o 0) + ((Int.tdiv (((g p1 3) * (g o 1)) - ((g o 0) * (g p1 4))) (((g o 2) * (g p1 4)) - ((g p1 3) * (g o 3)))) * (g o 2)))) o 1 ((g o 1) + ((Int.tdiv (((g p1 3) * (g o 1)) - ((g o 0) * (g p1 4))) (((g o 2) * (g p1 4)) - ((g p1 3) * (g o 3)))) * (g o 3)))) p2 4)))) * ((g o 1) + ((Int.tdiv (((g p1 3) * (g o 1)) - ((g o 0) * (g p1 4))) (((g o 2) * (g p1 4)) - ((g p1 3) * (g o 3)))) * (g o 3)))))) p1 3) * (((z_up (z_up (z_up (z_up g o 0 ((g o 0) + ((Int.tdiv (((g p1 3) * (g o 1)) - ((g o 0) * (g p1 4))) (((g o 2) * (g p1 4)) - ((g p1 3) * (g o 3)))) * (g o 2)))) o 1 ((g o 1) + ((Int.tdiv (((g p1 3) * (g o 1)) - ((g o 0) * (g p1 4))) (((g o 2) * (g p1 4)) - ((g p1 3) * (g o 3)))) * (g o 3)))) o 2 ((g o 2) + ((Int.tdiv (((g o 2) * ((z_up (z_up g o 0 ((g o 0) + ((Int.tdiv (((g p1 3) * (g o 1)) - ((g o 0) * (g p1 4))) (((g o 2) * (g p1 4)) - ((g p1 3) * (g o 3)))) * (g o 2)))) o 1 ((g o 1) + ((Int.tdiv (((g p1 3) * (g o 1)) - ((g o 0) * (g p1 4))) (((g o 2) * (g p1 4)) - ((g p1 3) * (g o 3)))) * (g o 3)))) p2 4)) - (((z_up (z_up g o 0 ((g o 0) + ((Int.tdiv (((g p1 3) * (g o 1)) - ((g o 0) * (g p1 4))) (((g o 2) * (g p1 4)) - ((g p1 3) * (g o 3)))) * (g o 2)))) o 1 ((g o 1) + ((Int.tdiv (((g p1 3) * (g o 1)) - ((g o 0) * (g p1 4))) (((g o 2) * (g p1 4)) - ((g p1 3) * (g o 3)))) * (g o 3)))) p2 3) * (g o 3))) ((((z_up (z_up g o 0 ((g o 0) + ((Int.tdiv (((g p1 3) * (g o 1)) - ((g o 0) * (g p1 4))) (((g o 2) * (g p1 4)) - ((g p1 3) * (g o 3)))) * (g o 2)))) o 1 ((g o 1) + ((Int.tdiv (((g p1 3) * (g o 1)) - ((g o 0) * (g p1 4))) (((g o 2) * (g p1 4)) - ((g p1 3) * (g o 3)))) * (g o 3)))) p2 3) * ((g o 1) + ((Int.tdiv (((g p1 3) * (g o 1)) - ((g o 0) * (g p1 4))) (((g o 2) * (g p1 4)) - ((g p1 3) * (g o 3)))) * (g o 3)))) - (((g o 0) + ((Int.tdiv (((g p1 3) * (g o 1)) - ((g o 0) * (g p1 4))) (((g o 2) * (g p1 4)) - ((g p1 3) * (g o 3)))) * (g o 2))) * ((z_up (z_up g o 0 ((g o 0) + ((Int.tdiv (((g p1 3) * (g o 1)) - ((g o 0) * (g p1 4))) (((g o 2) * (g p1 4)) - ((g p1 3) * (g o 3)))) * (g o 2)))) o 1 ((g o 1) + ((Int.tdiv (((g p1 3) * (g o 1)) - ((g o 0) * (g p1 4))) (((g o 2) * (g p1 4)) - ((g p1 3) * (g o 3)))) * (g o 3)))) p2 4)))) * ((g o 0) + ((Int.tdiv (((g p1 3) * (g o 1)) - ((g o 0) * (g p1 4))) (((g o 2) * (g p1 4)) - ((g p1 3) * (g o 3)))) * (g o 2)))))) o 3 ((g o 3) + ((Int.tdiv (((g o 2) * ((z_up (z_up g o 0 ((g o 0) + ((Int.tdiv (((g p1 3) * (g o 1)) - ((g o 0) * (g p1 4))) (((g o 2) * (g p1 4)) - ((g p1 3) * (g o 3)))) * (g o 2)))) o 1 ((g o 1) + ((Int.tdiv (((g p1 3) * (g o 1)) - ((g o 0) * (g p1 4))) (((g o 2) * (g p1 4)) - ((g p1 3) * (g o 3)))) * (g o 3)))) p2 4)) - (((z_up (z_up g o 0 ((g o 0) + ((Int.tdiv (((g p1 3) * (g o 1)) - ((g o 0) * (g p1 4))) (((g o 2) * (g p1 4)) - ((g p1 3) * (g o 3)))) * (g o 2)))) o 1 ((g o 1) + ((Int.tdiv (((g p1 3) * (g o 1)) - ((g o 0) * (g p1 4))) (((g o 2) * (g p1 4)) - ((g p1 3) * (g o 3)))) * (g o 3)))) p2 3) * (g o 3))) ((((z_up (z_up g o 0 ((g o 0) + ((Int.tdiv (((g p1 3) * (g o 1)) - ((g o 0) * (g p1 4))) (((g o 2) * (g p1 4)) - ((g p1 3) * (g o 3)))) * (g o 2)))) o 1 ((g o 1) + ((Int.tdiv (((g p1 3) * (g o 1)) - ((g o 0) * (g p1 4))) (((g o 2) * (g p1 4)) - ((g p1 3) * (g o 3)))) * (g o 3)))) p2 3) * ((g o 1) + ((Int.tdiv (((g p1 3) * (g o 1)) - ((g o 0) * (g p1 4))) (((g o 2) * (g p1 4)) - ((g p1 3) * (g o 3)))) * (g o 3)))) - (((g o 0) + ((Int.tdiv (((g p1 3) * (g o 1)) - ((g o 0) * (g p1 4))) (((g o 2) * (g p1 4)) - ((g p1 3) * (g o 3)))) * (g o 2))) * ((z_up (z_up g o 0 ((g o 0) + ((Int.tdiv (((g p1 3) * (g o 1)) - ((g o 0) * (g p1 4))) (((g o 2) * (g p1 4)) - ((g p1 3) * (g o 3)))) * (g o 2)))) o 1 ((g o 1) + ((Int.tdiv (((g p1 3) * (g o 1)) - ((g o 0) * (g p1 4))) (((g o 2) * (g p1 4)) - ((g p1 3) * (g o 3)))) * (g o 3)))) p2 4)))) * ((g o 1) + ((Int.tdiv (((g p1 3) * (g o 1)) - ((g o 0) * (g p1 4))) (((g o 2) * (g p1 4)) - ((g p1 3) * (g o 3)))) * (g o 3)))))) o 1) + ((z_up (z_up (z_up (z_up g o 0 ((g o 0) + ((Int.tdiv (((g p1 3) * (g o 1)) - ((g o 0) * (g p1 4))) (((g o 2) * (g p1 4)) - ((g p1 3) * (g o 3)))) * (g o 2)))) o 1 ((g o 1) + ((Int.tdiv (((g p1 3) * (g o 1)) - ((g o 0) * (g p1 4))) (((g o 2) * (g p1 4)) - ((g p1 3) * (g o 3)))) * (g o 3)))) o 2 ((g o 2) + ((Int.tdiv (((g o 2) * ((z_up (z_up g o 0 ((g o 0) + ((Int.tdiv (((g p1 3) * (g o 1)) - ((g o 0) * (g p1 4))) (((g o 2) * (g p1 4)) - ((g p1 3) * (g o 3)))) * (g o 2)))) o 1 ((g o 1) + ((Int.tdiv (((g p1 3) * (g o 1)) - ((g o 0) * (g p1 4))) (((g o 2) * (g p1 4)) - ((g p1 3) * (g o 3)))) * (g o 3)))) p2 4)) - (((z_up (z_up g o 0 ((g o 0) + ((Int.tdiv (((g p1 3) * (g o 1)) - ((g o 0) * (g p1 4))) (((g o 2) * (g p1 4)) - ((g p1 3) * (g o 3)))) * (g o 2)))) o 1 ((g o 1) + ((Int.tdiv (((g p1 3) * (g o 1)) - ((g o 0) * (g p1 4))) (((g o 2) * (g p1 4)) - ((g p1 3) * (g o 3)))) * (g o 3)))) p2 3) * (g o 3))) ((((z_up (z_up g o 0 ((g o 0) + ((Int.tdiv (((g p1 3) * (g o 1)) - ((g o 0) * (g p1 4))) (((g o 2) * (g p1 4)) - ((g p1 3) * (g o 3)))) * (g o 2)))) o 1 ((g o 1) + ((Int.tdiv (((g p1 3) * (g o 1)) - ((g o 0) * (g p1 4))) (((g o 2) * (g p1 4)) - ((g p1 3) * (g o 3)))) * (g o 3)))) p2 3) * ((g o 1) + ((Int.tdiv (((g p1 3) * (g o 1)) - ((g o 0) * (g p1 4))) (((g o 2) * (g p1 4)) - ((g p1 3) * (g o 3)))) * (g o 3)))) - (((g o 0) + ((Int.tdiv (((g p1 3) * (g o 1)) - ((g o 0) * (g p1 4))) (((g o 2) * (g p1 4)) - ((g p1 3) * (g o 3)))) * (g o 2))) * ((z_up (z_up g o 0 ((g o 0) + ((Int.tdiv (((g p1 3) * (g o 1)) - ((g o 0) * (g p1 4))) (((g o 2) * (g p1 4)) - ((g p1 3) * (g o 3)))) * (g o 2)))) o 1 ((g o 1) + ((Int.tdiv (((g p1 3) * (g o 1)) - ((g o 0) * (g p1 4))) (((g o 2) * (g p1 4)) - ((g p1 3) * (g o 3)))) * (g o 3)))) p2 4)))) * ((g o 0) + ((Int.tdiv (((g p1 3) * (g o 1)) - ((g o 0) * (g p1 4))) (((g o 2) * (g p1 4)) - ((g p1 3) * (g o 3)))) * (g o 2)))))) o 3 ((g o 3) + ((Int.tdiv (((g o 2) * ((z_up (z_up g o 0 ((g o 0) + ((Int.tdiv (((g p1 3) * (g o 1)) - ((g o 0) * (g p1 4))) (((g o 2) * (g p1 4)) - ((g p1 3) * (g o 3)))) * (g o 2)))) o 1 ((g o 1) + ((Int.tdiv (((g p1 3) * (g o 1)) - ((g o 0) * (g p1 4))) (((g o 2) * (g p1 4)) - ((g p1 3) * (g o 3)))) * (g o 3)))) p2 4)) - (((z_up (z_up g o 0 ((g o 0) + ((Int.tdiv (((g p1 3) * (g o 1)) - ((g o 0) * (g p1 4))) (((g o 2) * (g p1 4)) - ((g p1 3) * (g o 3)))) * (g o 2)))) o 1 ((g o 1) + ((Int.tdiv (((g p1 3) * (g o 1)) - ((g o 0) * (g p1 4))) (((g o 2) * (g p1 4)) - ((g p1 3) * (g o 3)))) * (g o 3)))) p2 3) * (g o 3))) ((((z_up (z_up g o 0 ((g o 0) + ((Int.tdiv (((g p1 3) * (g o 1)) - ((g o 0) * (g p1 4))) (((g o 2) * (g p1 4)) - ((g p1 3) * (g o 3)))) * (g o 2)))) o 1 ((g o 1) + ((Int.tdiv (((g p1 3) * (g o 1)) - ((g o 0) * (g p1 4))) (((g o 2) * (g p1 4)) - ((g p1 3) * (g o 3)))) * (g o 3)))) p2 3) * ((g o 1) + ((Int.tdiv (((g p1 3) * (g o 1)) - ((g o 0) * (g p1 4))) (((g o 2) * (g p1 4)) - ((g p1 3) * (g o 3)))) * (g o 3)))) - (((g o 0) + ((Int.tdiv (((g p1 3) * (g o 1)) - ((g o 0) * (g p1 4))) (((g o 2) * (g p1 4)) - ((g p1 3) * (g o 3)))) * (g o 2))) * ((z_up (z_up g o 0 ((g o 0) + ((Int.tdiv (((g p1 3) * (g o 1)) - ((g o 0) * (g p1 4))) (((g o 2) * (g p1 4)) - ((g p1 3) * (g o 3)))) * (g o 2)))) o 1 ((g o 1) + ((Int.tdiv (((g p1 3) * (g o 1)) - ((g o 0) * (g p1 4))) (((g o 2) * (g p1 4)) - ((g p1 3) * (g o 3)))) * (g o 3)))) p2 4)))) * ((g o 1) + ((Int.tdiv (((g p1 3) * (g o 1)) - ((g o 0) * (g p1 4))) (((g o 2) * (g p1 4)) - ((g p1 3) * (g o 3)))) * (g o 3)))))) o 3)))) ≤ 9223372036854775807) ∧ ((((((((z_up (z_up (z_up (z_up g o 0 ((g o 0) + ((Int.tdiv (((g p1 3) * (g o 1)) - ((g o 0) * (g p1 4))) (((g o 2) * (g p1 4)) - ((g p1 3) * (g o 3)))) * (g o 2)))) o 1 ((g o 1) + ((Int.tdiv (((g p1 3) * (g o 1)) - ((g o 0) * (g p1 4))) (((g o 2) * (g p1 4)) - ((g p1 3) * (g o 3)))) * (g o 3)))) o 2 ((g o 2) + ((Int.tdiv (((g o 2) * ((z_up (z_up g o 0 ((g o 0) + ((Int.tdiv (((g p1 3) * (g o 1)) - ((g o 0) * (g p1 4))) (((g o 2) * (g p1 4)) - ((g p1 3) * (g o 3)))) * (g o 2)))) o 1 ((g o 1) + ((Int.tdiv (((g p1 3) * (g o 1)) - ((g o 0) * (g p1 4))) (((g o 2) * (g p1 4)) - ((g p1 3) * (g o 3)))) * (g o 3)))) p2 4)) - (((z_up (z_up g o 0 ((g o 0) + ((Int.tdiv (((g p1 3) * (g o 1)) - ((g o 0) * (g p1 4))) (((g o 2) * (g p1 4)) - ((g p1 3) * (g o 3)))) * (g o 2)))) o 1 ((g o 1) + ((Int.tdiv (((g p1 3) * (g o 1)) - ((g o 0) * (g p1 4))) (((g o 2) * (g p1 4)) - ((g p1 3) * (g o 3)))) * (g o 3)))) p2 3) * (g o 3))) ((((z_up (z_up g o 0 ((g o 0) + ((Int.tdiv (((g p1 3) * (g o 1)) - ((g o 0) * (g p1 4))) (((g o 2) * (g p1 4)) - ((g p1 3) * (g o 3)))) * (g o 2)))) o 1 ((g o 1) + ((Int.tdiv (((g p1 3) * (g o 1)) - ((g o 0) * (g p1 4))) (((g o 2) * (g p1 4)) - ((g p1 3) * (g o 3)))) * (g o 3)))) p2 3) * ((g o 1) + ((Int.tdiv (((g p1 3) * (g o 1)) - ((g o 0) * (g p1 4))) (((g o 2) * (g p1 4)) - ((g p1 3) * (g o 3)))) * (g o 3)))) - (((g o 0) + ((Int.tdiv (((g p1 3) * (g o 1)) - ((g o 0) * (g p1 4))) (((g o 2) * (g p1 4)) - ((g p1 3) * (g o 3)))) * (g o 2))) * ((z_up (z_up g o 0 ((g o 0) + ((Int.tdiv (((g p1 3) * (g o 1)) - ((g o 0) * (g p1 4))) (((g o 2) * (g p1 4)) - ((g p1 3) * (g o 3)))) * (g o 2)))) o 1 ((g o 1) + ((Int.tdiv (((g p1 3) * (g o 1)) - ((g o 0) * (g p1 4))) (((g o 2) * (g p1 4)) - ((g p1 3) * (g o 3)))) * (g o 3)))) p2 4)))) * ((g o 0) + ((Int.tdiv (((g p1 3) * (g o 1)) - ((g o 0) * (g p1 4))) (((g o 2) * (g p1 4)) - ((g p1 3) * (g o 3)))) * (g o 2)))))) o 3 ((g o 3) + ((Int.tdiv (((g o 2) * ((z_up (z_up g o 0 ((g o 0) + ((Int.tdiv (((g p1 3) * (g o 1)) - ((g o 0) * (g p1 4))) (((g o 2) * (g p1 4)) - ((g p1 3) * (g o 3)))) * (g o 2)))) o 1 ((g o 1) + ((Int.tdiv (((g p1 3) * (g o 1)) - ((g o 0) * (g p1 4))) (((g o 2) * (g p1 4)) - ((g p1 3) * (g o 3)))) * (g o 3)))) p2 4)) - (((z_up (z_up g o 0 ((g o 0) + ((Int.tdiv (((g p1 3) * (g o 1)) - ((g o 0) * (g p1 4))) (((g o 2) * (g p1 4)) - ((g p1 3) * (g o 3)))) * (g o 2)))) o 1 ((g o 1) + ((Int.tdiv (((g p1 3) * (g o 1)) - ((g o 0) * (g p1 4))) (((g o 2) * (g p1 4)) - ((g p1 3) * (g o 3)))) * (g o 3)))) p2 3) * (g o 3))) ((((z_up (z_up g o 0 ((g o 0) + ((Int.tdiv (((g p1 3) * (g o 1)) - ((g o 0) * (g p1 4))) (((g o 2) * (g p1 4)) - ((g p1 3) * (g o 3)))) * (g o 2)))) o 1 ((g o 1) + ((Int.tdiv (((g p1 3) * (g o 1)) - ((g o 0) * (g p1 4))) (((g o 2) * (g p1 4)) - ((g p1 3) * (g o 3)))) * (g o 3)))) p2 3) * ((g o 1) + ((Int.tdiv (((g p1 3) * (g o 1)) - ((g o 0) * (g p1 4))) (((g o 2) * (g p1 4)) - ((g p1 3) * (g o 3)))) * (g o 3)))) - (((g o 0) + ((Int.tdiv (((g p1 3) * (g o 1)) - ((g o 0) * (g p1 4))) (((g o 2) * (g p1 4)) - ((g p1 3) * (g o 3)))) * (g o 2))) * ((z_up (z_up g o 0 ((g o 0) + ((Int.tdiv (((g p1 3) * (g o 1)) - ((g o 0) * (g p1 4))) (((g o 2) * (g p1 4)) - ((g p1 3) * (g o 3)))) * (g o 2)))) o 1 ((g o 1) + ((Int.tdiv (((g p1 3) * (g o 1)) - ((g o 0) * (g p1 4))) (((g o 2) * (g p1 4)) - ((g p1 3) * (g o 3)))) * (g o 3)))) p2 4)))) * ((g o 1) + ((Int.tdiv (((g p1 3) * (g o 1)) - ((g o 0) * (g p1 4))) (((g o 2) * (g p1 4)) - ((g p1 3) * (g o 3)))) * (g o 3)))))) o 0) + ((z_up (z_up (z_up (z_up g o 0 ((g o 0) + ((Int.tdiv (((g p1 3) * (g o 1)) - ((g o 0) * (g p1 4))) (((g o 2) * (g p1 4)) - ((g p1 3) * (g o 3)))) * (g o 2)))) o 1 ((g o 1) + ((Int.tdiv (((g p1 3) * (g o 1)) - ((g o 0) * (g p1 4))) (((g o 2) * (g p1 4)) - ((g p1 3) * (g o 3)))) * (g o 3)))) o 2 ((g o 2) + ((Int.tdiv (((g o 2) * ((z_up (z_up g o 0 ((g o 0) + ((Int.tdiv (((g p1 3) * (g o 1)) - ((g o 0) * (g p1 4))) (((g o 2) * (g p1 4)) - ((g p1 3) * (g o 3)))) * (g o 2)))) o 1 ((g o 1) + ((Int.tdiv (((g p1 3) * (g o 1)) - ((g o 0) * (g p1 4))) (((g o 2) * (g p1 4)) - ((g p1 3) * (g o 3)))) * (g o 3)))) p2 4)) - (((z_up (z_up g o 0 ((g o 0) + ((Int.tdiv (((g p1 3) * (g o 1)) - ((g o 0) * (g p1 4))) (((g o 2) * (g p1 4)) - ((g p1 3) * (g o 3)))) * (g o 2)))) o 1 ((g o 1) + ((Int.tdiv (((g p1 3) * (g o 1)) - ((g o 0) * (g p1 4))) (((g o 2) * (g p1 4)) - ((g p1 3) * (g o 3)))) * (g o 3)))) p2 3) * (g o 3))) ((((z_up (z_up g o 0 ((g o 0) + ((Int.tdiv (((g p1 3) * (g o 1)) - ((g o 0) * (g p1 4))) (((g o 2) * (g p1 4)) - ((g p1 3) * (g o 3)))) * (g o 2)))) o 1 ((g o 1) + ((Int.tdiv (((g p1 3) * (g o 1)) - ((g o 0) * (g p1 4))) (((g o 2) * (g p1 4)) - ((g p1 3) * (g o 3)))) * (g o 3)))) p2 3) * ((g o 1) + ((Int.tdiv (((g p1 3) * (g o 1)) - ((g o 0) * (g p1 4))) (((g o 2) * (g p1 4)) - ((g p1 3) * (g o 3)))) * (g o 3)))) - (((g o 0) + ((Int.tdiv (((g p1 3) * (g o 1)) - ((g o 0) * (g p1 4))) (((g o 2) * (g p1 4)) - ((g p1 3) * (g o 3)))) * (g o 2))) * ((z_up (z_up g o 0 ((g o 0) + ((Int.tdiv (((g p1 3) * (g o 1)) - ((g o 0) * (g p1 4))) (((g o 2) * (g p1 4)) - ((g p1 3) * (g o 3)))) * (g o 2)))) o 1 ((g o 1) + ((Int.tdiv (((g p1 3) * (g o 1)) - ((g o 0) * (g p1 4))) (((g o 2) * (g p1 4)) - ((g p1 3) * (g o 3)))) * (g o 3)))) p2 4)))) * ((g o 0) + ((Int.tdiv (((g p1 3) * (g o 1)) - ((g o 0) * (g p1 4))) (((g o 2) * (g p1 4)) - ((g p1 3) * (g o 3)))) * (g o 2)))))) o 3 ((g o 3) + ((Int.tdiv (((g o 2) * ((z_up (z_up g o 0 ((g o 0) + ((Int.tdiv (((g p1 3) * (g o 1)) - ((g o 0) * (g p1 4))) (((g o 2) * (g p1 4)) - ((g p1 3) * (g o 3)))) * (g o 2)))) o 1 ((g o 1) + ((Int.tdiv (((g p1 3) * (g o 1)) - ((g o 0) * (g p1 4))) (((g o 2) * (g p1 4)) - ((g p1 3) * (g o 3)))) * (g o 3)))) p2 4)) - (((z_up (z_up g o 0 ((g o 0) + ((Int.tdiv (((g p1 3) * (g o 1)) - ((g o 0) * (g p1 4))) (((g o 2) * (g p1 4)) - ((g p1 3) * (g o 3)))) * (g o 2)))) o 1 ((g o 1) + ((Int.tdiv (((g p1 3) * (g o 1)) - ((g o 0) * (g p1 4))) (((g o 2) * (g p1 4)) - ((g p1 3) * (g o 3)))) * (g o 3)))) p2 3) * (g o 3))) ((((z_up (z_up g o 0 ((g o 0) + ((Int.tdiv (((g p1 3) * (g o 1)) - ((g o 0) * (g p1 4))) (((g o 2) * (g p1 4)) - ((g p1 3) * (g o 3)))) * (g o 2)))) o 1 ((g o 1) + ((Int.tdiv (((g p1 3) * (g o 1)) - ((g o 0) * (g p1 4))) (((g o 2) * (g p1 4)) - ((g p1 3) * (g o 3)))) * (g o 3)))) p2 3) * ((g o 1) + ((Int.tdiv (((g p1 3) * (g o 1)) - ((g o 0) * (g p1 4))) (((g o 2) * (g p1 4)) - ((g p1 3) * (g o 3)))) * (g o 3)))) - (((g o 0) + ((Int.tdiv (((g p1 3) * (g o 1)) - ((g o 0) * (g p1 4))) (((g o 2) * (g p1 4)) - ((g p1 3) * (g o 3)))) * (g o 2))) * ((z_up (z_up g o 0 ((g o 0) + ((Int.tdiv (((g p1 3) * (g o 1)) - ((g o 0) * (g p1 4))) (((g o 2) * (g p1 4)) - ((g p1 3) * (g o 3)))) * (g o 2)))) o 1 ((g o 1) + ((Int.tdiv (((g p1 3) * (g o 1)) - ((g o 0) * (g p1 4))) (((g o 2) * (g p1 4)) - ((g p1 3) * (g o 3)))) * (g o 3)))) p2 4)))) * ((g o 1) + ((Int.tdiv (((g p1 3) * (g o 1)) - ((g o 0) * (g p1 4))) (((g o 2) * (g p1 4)) - ((g p1 3) * (g o 3)))) * (g o 3)))))) o 2)) * ((z_up (z_up (z_up (z_up g o 0 ((g o 0) + ((Int.tdiv (((g p1 3) * (g o 1)) - ((g o 0) * (g p1 4))) (((g o 2) * (g p1 4)) - ((g p1 3) * (g o 3)))) * (g o 2)))) o 1 ((g o 1) + ((Int.tdiv (((g p1 3) * (g o 1)) - ((g o 0) * (g p1 4))) (((g o 2) * (g p1 4)) - ((g p1 3) * (g o 3)))) * (g o 3)))) o 2 ((g o 2) + ((Int.tdiv (((g o 2) * ((z_up (z_up g o 0 ((g o 0) + ((Int.tdiv (((g p1 3) * (g o 1)) - ((g o 0) * (g p1 4))) (((g o 2) * (g p1 4)) - ((g p1 3) * (g o 3)))) * (g o 2)))) o 1 ((g o 1) + ((Int.tdiv (((g p1 3) * (g o 1)) - ((g o 0) * (g p1 4))) (((g o 2) * (g p1 4)) - ((g p1 3) * (g o 3)))) * (g o 3)))) p2 4)) - (((z_up (z_up g o 0 ((g o 0) + ((Int.tdiv (((g p1 3) * (g o 1)) - ((g o 0) * (g p1 4))) (((g o 2) * (g p1 4)) - ((g p1 3) * (g o 3)))) * (g o 2)))) o 1 ((g o 1) + ((Int.tdiv (((g p1 3) * (g o 1)) - ((g o 0) * (g p1 4))) (((g o 2) * (g p1 4)) - ((g p1 3) * (g o 3)))) * (g o 3)))) p2 3) * (g o 3))) ((((z_up (z_up g o 0 ((g o 0) + ((Int.tdiv (((g p1 3) * (g o 1)) - ((g o 0) * (g p1 4))) (((g o 2) * (g p1 4)) - ((g p1 3) * (g o 3)))) * (g o 2)))) o 1 ((g o 1) + ((Int.tdiv (((g p1 3) * (g o 1)) - ((g o 0) * (g p1 4))) (((g o 2) * (g p1 4)) - ((g p1 3) * (g o 3)))) * (g o 3)))) p2 3) * ((g o 1) + ((Int.tdiv (((g p1 3) * (g o 1)) - ((g o 0) * (g p1 4))) (((g o 2) * (g p1 4)) - ((g p1 3) * (g o 3)))) * (g o 3)))) - (((g o 0) + ((Int.tdiv (((g p1 3) * (g o 1)) - ((g o 0) * (g p1 4))) (((g o 2) * (g p1 4)) - ((g p1 3) * (g o 3)))) * (g o 2))) * ((z_up (z_up g o 0 ((g o 0) + ((Int.tdiv (((g p1 3) * (g o 1)) - ((g o 0) * (g p1 4))) (((g o 2) * (g p1 4)) - ((g p1 3) * (g o 3)))) * (g o 2)))) o 1 ((g o 1) + ((Int.tdiv (((g p1 3) * (g o 1)) - ((g o 0) * (g p1 4))) (((g o 2) * (g p1 4)) - ((g p1 3) * (g o 3)))) * (g o 3)))) p2 4)))) * ((g o 0) + ((Int.tdiv (((g p1 3) * (g o 1)) - ((g o 0) * (g p1 4))) (((g o 2) * (g p1 4)) - ((g p1 3) * (g o 3)))) * (g o 2)))))) o 3 ((g o 3) + ((Int.tdiv (((g o 2) * ((z_up (z_up g o 0 ((g o 0) + ((Int.tdiv (((g p1 3) * (g o 1)) - ((g o 0) * (g p1 4))) (((g o 2) * (g p1 4)) - ((g p1 3) * (g o 3)))) * (g o 2)))) o 1 ((g o 1) + ((Int.tdiv (((g p1 3) * (g o 1)) - ((g o 0) * (g p1 4))) (((g o 2) * (g p1 4)) - ((g p1 3) * (g o 3)))) * (g o 3)))) p2 4)) - (((z_up (z_up g o 0 ((g o 0) + ((Int.tdiv (((g p1 3) * (g o 1)) - ((g o 0) * (g p1 4))) (((g o 2) * (g p1 4)) - ((g p1 3) * (g o 3)))) * (g o 2)))) o 1 ((g o 1) + ((Int.tdiv (((g p1 3) * (g o 1)) - ((g o 0) * (g p1 4))) (((g o 2) * (g p1 4)) - ((g p1 3) * (g o 3)))) * (g o 3)))) p2 3) * (g o 3))) ((((z_up (z_up g o 0 ((g o 0) + ((Int.tdiv (((g p1 3) * (g o 1)) - ((g o 0) * (g p1 4))) (((g o 2) * (g p1 4)) - ((g p1 3) * (g o 3)))) * (g o 2)))) o 1 ((g o 1) + ((Int.tdiv (((g p1 3) * (g o 1)) - ((g o 0) * (g p1 4))) (((g o 2) * (g p1 4)) - ((g p1 3) * (g o 3)))) * (g o 3)))) p2 3) * ((g o 1) + ((Int.tdiv (((g p1 3) * (g o 1)) - ((g o 0) * (g p1 4))) (((g o 2) * (g p1 4)) - ((g p1 3) * (g o 3)))) * (g o 3)))) - (((g o 0) + ((Int.tdiv (((g p1 3) * (g o 1)) - ((g o 0) * (g p1 4))) (((g o 2) * (g p1 4)) - ((g p1 3) * (g o 3)))) * (g o 2))) * ((z_up (z_up g o 0 ((g o 0) + ((Int.tdiv (((g p1 3) * (g o 1)) - ((g o 0) * (g p1 4))) (((g o 2) * (g p1 4)) - ((g p1 3) * (g o 3)))) * (g o 2)))) o 1 ((g o 1) + ((Int.tdiv (((g p1 3) * (g o 1)) - ((g o 0) * (g p1 4))) (((g o 2) * (g p1 4)) - ((g p1 3) * (g o 3)))) * (g o 3)))) p2 4)))) * ((g o 1) + ((Int.tdiv (((g p1 3) * (g o 1)) - ((g o 0) * (g p1 4))) (((g o 2) * (g p1 4)) - ((g p1 3) * (g o 3)))) * (g o 3)))))) p1 4)) - (((z_up (z_up (z_up (z_up g o 0 ((g o 0) + ((Int.tdiv (((g p1 3) * (g o 1)) - ((g o 0) * (g p1 4))) (((g o 2) * (g p1 4)) - ((g p1 3) * (g o 3)))) * (g o 2)))) o 1 ((g o 1) + ((Int.tdiv (((g p1 3) * (g o 1)) - ((g o 0) * (g p1 4))) (((g o 2) * (g p1 4)) - ((g p1 3) * (g o 3)))) * (g o 3)))) o 2 ((g o 2) + ((Int.tdiv (((g o 2) * ((z_up (z_up g o 0 ((g o 0) + ((Int.tdiv (((g p1 3) * (g o 1)) - ((g o 0) * (g p1 4))) (((g o 2) * (g p1 4)) - ((g p1 3) * (g o 3)))) * (g o 2)))) o 1 ((g o 1) + ((Int.tdiv (((g p1 3) * (g o 1)) - ((g o 0) * (g p1 4))) (((g o 2) * (g p1 4)) - ((g p1 3) * (g o 3)))) * (g o 3)))) p2 4)) - (((z_up (z_up g o 0 ((g o 0) + ((Int.tdiv (((g p1 3) * (g o 1)) - ((g o 0) * (g p1 4))) (((g o 2) * (g p1 4)) - ((g p1 3) * (g o 3)))) * (g o 2)))) o 1 ((g o 1) + ((Int.tdiv (((g p1 3) * (g o 1)) - ((g o 0) * (g p1 4))) (((g o 2) * (g p1 4)) - ((g p1 3) * (g o 3)))) * (g o 3)))) p2 3) * (g o 3))) ((((z_up (z_up g o 0 ((g o 0) + ((Int.tdiv (((g p1 3) * (g o 1)) - ((g o 0) * (g p1 4))) (((g o 2) * (g p1 4)) - ((g p1 3) * (g o 3)))) * (g o 2)))) o 1 ((g o 1) + ((Int.tdiv (((g p1 3) * (g o 1)) - ((g o 0) * (g p1 4))) (((g o 2) * (g p1 4)) - ((g p1 3) * (g o 3)))) * (g o 3)))) p2 3) * ((g o 1) + ((Int.tdiv (((g p1 3) * (g o 1)) - ((g o 0) * (g p1 4))) (((g o 2) * (g p1 4)) - ((g p1 3) * (g o 3)))) * (g o 3)))) - (((g o 0) + ((Int.tdiv (((g p1 3) * (g o 1)) - ((g o 0) * (g p1 4))) (((g o 2) * (g p1 4)) - ((g p1 3) * (g o 3)))) * (g o 2))) * ((z_up (z_up g o 0 ((g o 0) + ((Int.tdiv (((g p1 3) * (g o 1)) - ((g o 0) * (g p1 4))) (((g o 2) * (g p1 4)) - ((g p1 3) * (g o 3)))) * (g o 2)))) o 1 ((g o 1) + ((Int.tdiv (((g p1 3) * (g o 1)) - ((g o 0) * (g p1 4))) (((g o 2) * (g p1 4)) - ((g p1 3) * (g o 3)))) * (g o 3)))) p2 4)))) * ((g o 0) + ((Int.tdiv (((g p1 3) * (g o 1)) - ((g o 0) * (g p1 4))) (((g o 2) * (g p1 4)) - ((g p1 3) * (g o 3)))) * (g o 2)))))) o 3 ((g o 3) + ((Int.tdiv (((g o 2) * ((z_up (z_up g o 0 ((g o 0) + ((Int.tdiv (((g p1 3) * (g o 1)) - ((g o 0) * (g p1 4))) (((g o 2) * (g p1 4)) - ((g p1 3) * (g o 3)))) * (g o 2)))) o 1 ((g o 1) + ((Int.tdiv (((g p1 3) * (g o 1)) - ((g o 0) * (g p1 4))) (((g o 2) * (g p1 4)) - ((g p1 3) * (g o 3)))) * (g o 3)))) p2 4)) - (((z_up (z_up g o 0 ((g o 0) + ((Int.tdiv (((g p1 3) * (g o 1)) - ((g o 0) * (g p1 4))) (((g o 2) * (g p1 4)) - ((g p1 3) * (g o 3)))) * (g o 2)))) o 1 ((g o 1) + ((Int.tdiv (((g p1 3) * (g o 1)) - ((g o 0) * (g p1 4))) (((g o 2) * (g p1 4)) - ((g p1 3) * (g o 3)))) * (g o 3)))) p2 3) * (g o 3))) ((((z_up (z_up g o 0 ((g o 0) + ((Int.tdiv (((g p1 3) * (g o 1)) - ((g o 0) * (g p1 4))) (((g o 2) * (g p1 4)) - ((g p1 3) * (g o 3)))) * (g o 2)))) o 1 ((g o 1) + ((Int.tdiv (((g p1 3) * (g o 1)) - ((g o 0) * (g p1 4))) (((g o 2) * (g p1 4)) - ((g p1 3) * (g o 3)))) * (g o 3)))) p2 3) * ((g o 1) + ((Int.tdiv (((g p1 3) * (g o 1)) - ((g o 0) * (g p1 4))) (((g o 2) * (g p1 4)) - ((g p1 3) * (g o 3)))) * (g o 3)))) - (((g o 0) + ((Int.tdiv (((g p1 3) * (g o 1)) - ((g o 0) * (g p1 4))) (((g o 2) * (g p1 4)) - ((g p1 3) * (g o 3)))) * (g o 2))) * ((z_up (z_up g o 0 ((g o 0) + ((Int.tdiv (((g p1 3) * (g o 1)) - ((g o 0) * (g p1 4))) (((g o 2) * (g p1 4)) - ((g p1 3) * (g o 3)))) * (g o 2)))) o 1 ((g o 1) + ((Int.tdiv (((g p1 3) * (g o 1)) - ((g o 0) * (g p1 4))) (((g o 2) * (g p1 4)) - ((g p1 3) * (g o 3)))) * (g o 3)))) p2 4)))) * ((g o 1) + ((Int.tdiv (((g p1 3) * (g o 1)) - ((g o 0) * (g p1 4))) (((g o 2) * (g p1 4)) - ((g p1 3) * (g o 3)))) * (g o 3)))))) p1 3) * (((z_up (z_up (z_up (z_up g o 0 ((g o 0) + ((Int.tdiv (((g p1 3) * (g o 1)) - ((g o 0) * (g p1 4))) (((g o 2) * (g p1 4)) - ((g p1 3) * (g o 3)))) * (g o 2)))) o 1 ((g o 1) + ((Int.tdiv (((g p1 3) * (g o 1)) - ((g o 0) * (g p1 4))) (((g o 2) * (g p1 4)) - ((g p1 3) * (g o 3)))) * (g o 3)))) o 2 ((g o 2) + ((Int.tdiv (((g o 2) * ((z_up (z_up g o 0 ((g o 0) + ((Int.tdiv (((g p1 3) * (g o 1)) - ((g o 0) * (g p1 4))) (((g o 2) * (g p1 4)) - ((g p1 3) * (g o 3)))) * (g o 2)))) o 1 ((g o 1) + ((Int.tdiv (((g p1 3) * (g o 1)) - ((g o 0) * (g p1 4))) (((g o 2) * (g p1 4)) - ((g p1 3) * (g o 3)))) * (g o 3)))) p2 4)) - (((z_up (z_up g o 0 ((g o 0) + ((Int.tdiv (((g p1 3) * (g o 1)) - ((g o 0) * (g p1 4))) (((g o 2) * (g p1 4)) - ((g p1 3) * (g o 3)))) * (g o 2)))) o 1 ((g o 1) + ((Int.tdiv (((g p1 3) * (g o 1)) - ((g o 0) * (g p1 4))) (((g o 2) * (g p1 4)) - ((g p1 3) * (g o 3)))) * (g o 3)))) p2 3) * (g o 3))) ((((z_up (z_up g o 0 ((g o 0) + ((Int.tdiv (((g p1 3) * (g o 1)) - ((g o 0) * (g p1 4))) (((g o 2) * (g p1 4)) - ((g p1 3) * (g o 3)))) * (g o 2)))) o 1 ((g o 1) + ((Int.tdiv (((g p1 3) * (g o 1)) - ((g o 0) * (g p1 4))) (((g o 2) * (g p1 4)) - ((g p1 3) * (g o 3)))) * (g o 3)))) p2 3) * ((g o 1) + ((Int.tdiv (((g p1 3) * (g o 1)) - ((g o 0) * (g p1 4))) (((g o 2) * (g p1 4)) - ((g p1 3) * (g o 3)))) * (g o 3)))) - (((g o 0) + ((Int.tdiv (((g p1 3) * (g o 1)) - ((g o 0) * (g p1 4))) (((g o 2) * (g p1 4)) - ((g p1 3) * (g o 3)))) * (g o 2))) * ((z_up (z_up g o 0 ((g o 0) + ((Int.tdiv (((g p1 3) * (g o 1)) - ((g o 0) * (g p1 4))) (((g o 2) * (g p1 4)) - ((g p1 3) * (g o 3)))) * (g o 2)))) o 1 ((g o 1) + ((Int.tdiv (((g p1 3) * (g o 1)) - ((g o 0) * (g p1 4))) (((g o 2) * (g p1 4)) - ((g p1 3) * (g o 3)))) * (g o 3)))) p2 4)))) * ((g o 0) + ((Int.tdiv (((g p1 3) * (g o 1)) - ((g o 0) * (g p1 4))) (((g o 2) * (g p1 4)) - ((g p1 3) * (g o 3)))) * (g o 2)))))) o 3 ((g o 3) + ((Int.tdiv (((g o 2) * ((z_up (z_up g o 0 ((g o 0) + ((Int.tdiv (((g p1 3) * (g o 1)) - ((g o 0) * (g p1 4))) (((g o 2) * (g p1 4)) - ((g p1 3) * (g o 3)))) * (g o 2)))) o 1 ((g o 1) + ((Int.tdiv (((g p1 3) * (g o 1)) - ((g o 0) * (g p1 4))) (((g o 2) * (g p1 4)) - ((g p1 3) * (g o 3)))) * (g o 3)))) p2 4)) - (((z_up (z_up g o 0 ((g o 0) + ((Int.tdiv (((g p1 3) * (g o 1)) - ((g o 0) * (g p1 4))) (((g o 2) * (g p1 4)) - ((g p1 3) * (g o 3)))) * (g o 2)))) o 1 ((g o 1) + ((Int.tdiv (((g p1 3) * (g o 1)) - ((g o 0) * (g p1 4))) (((g o 2) * (g p1 4)) - ((g p1 3) * (g o 3)))) * (g o 3)))) p2 3) * (g o 3))) ((((z_up (z_up g o 0 ((g o 0) + ((Int.tdiv (((g p1 3) * (g o 1)) - ((g o 0) * (g p1 4))) (((g o 2) * (g p1 4)) - ((g p1 3) * (g o 3)))) * (g o 2)))) o 1 ((g o 1) + ((Int.tdiv (((g p1 3) * (g o 1)) - ((g o 0) * (g p1 4))) (((g o 2) * (g p1 4)) - ((g p1 3) * (g o 3)))) * (g o 3)))) p2 3) * ((g o 1) + ((Int.tdiv (((g p1 3) * (g o 1)) - ((g o 0) * (g p1 4))) (((g o 2) * (g p1 4)) - ((g p1 3) * (g o 3)))) * (g o 3)))) - (((g o 0) + ((Int.tdiv (((g p1 3) * (g o 1)) - ((g o 0) * (g p1 4))) (((g o 2) * (g p1 4)) - ((g p1 3) * (g o 3)))) * (g o 2))) * ((z_up (z_up g o 0 ((g o 0) + ((Int.tdiv (((g p1 3) * (g o 1)) - ((g o 0) * (g p1 4))) (((g o 2) * (g p1 4)) - ((g p1 3) * (g o 3)))) * (g o 2)))) o 1 ((g o 1) + ((Int.tdiv (((g p1 3) * (g o 1)) - ((g o 0) * (g p1 4))) (((g o 2) * (g p1 4)) - ((g p1 3) * (g o 3)))) * (g o 3)))) p2 4)))) * ((g o 1) + ((Int.tdiv (((g p1 3) * (g o 1)) - ((g o 0) * (g p1 4))) (((g o 2) * (g p1 4)) - ((g p1 3) * (g o 3)))) * (g o 3)))))) o 1) + ((z_up (z_up (z_up (z_up g o 0 ((g o 0) + ((Int.tdiv (((g p1 3) * (g o 1)) - ((g o 0) * (g p1 4))) (((g o 2) * (g p1 4)) - ((g p1 3) * (g o 3)))) * (g o 2)))) o 1 ((g o 1) + ((Int.tdiv (((g p1 3) * (g o 1)) - ((g o 0) * (g p1 4))) (((g o 2) * (g p1 4)) - ((g p1 3) * (g o 3)))) * (g o 3)))) o 2 ((g o 2) + ((Int.tdiv (((g o 2) * ((z_up (z_up g o 0 ((g o 0) + ((Int.tdiv (((g p1 3) * (g o 1)) - ((g o 0) * (g p1 4))) (((g o 2) * (g p1 4)) - ((g p1 3) * (g o 3)))) * (g o 2)))) o 1 ((g o 1) + ((Int.tdiv (((g p1 3) * (g o 1)) - ((g o 0) * (g p1 4))) (((g o 2) * (g p1 4)) - ((g p1 3) * (g o 3)))) * (g o 3)))) p2 4)) - (((z_up (z_up g o 0 ((g o 0) + ((Int.tdiv (((g p1 3) * (g o 1)) - ((g o 0) * (g p1 4))) (((g o 2) * (g p1 4)) - ((g p1 3) * (g o 3)))) * (g o 2)))) o 1 ((g o 1) + ((Int.tdiv (((g p1 3) * (g o 1)) - ((g o 0) * (g p1 4))) (((g o 2) * (g p1 4)) - ((g p1 3) * (g o 3)))) * (g o 3)))) p2 3) * (g o 3))) ((((z_up (z_up g o 0 ((g o 0) + ((Int.tdiv (((g p1 3) * (g o 1)) - ((g o 0) * (g p1 4))) (((g o 2) * (g p1 4)) - ((g p1 3) * (g o 3)))) * (g o 2)))) o 1 ((g o 1) + ((Int.tdiv (((g p1 3) * (g o 1)) - ((g o 0) * (g p1 4))) (((g o 2) * (g p1 4)) - ((g p1 3) * (g o 3)))) * (g o 3)))) p2 3) * ((g o 1) + ((Int.tdiv (((g p1 3) * (g o 1)) - ((g o 0) * (g p1 4))) (((g o 2) * (g p1 4)) - ((g p1 3) * (g o 3)))) * (g o 3)))) - (((g o 0) + ((Int.tdiv (((g p1 3) * (g o 1)) - ((g o 0) * (g p1 4))) (((g o 2) * (g p1 4)) - ((g p1 3) * (g o 3)))) * (g o 2))) * ((z_up (z_up g o 0 ((g o 0) + ((Int.tdiv (((g p1 3) * (g o 1)) - ((g o 0) * (g p1 4))) (((g o 2) * (g p1 4)) - ((g p1 3) * (g o 3)))) * (g o 2)))) o 1 ((g o 1) + ((Int.tdiv (((g p1 3) * (g o 1)) - ((g o 0) * (g p1 4))) (((g o 2) * (g p1 4)) - ((g p1 3) * (g o 3)))) * (g o 3)))) p2 4)))) * ((g o 0) + ((Int.tdiv (((g p1 3) * (g o 1)) - ((g o 0) * (g p1 4))) (((g o 2) * (g p1 4)) - ((g p1 3) * (g o 3)))) * (g o 2)))))) o 3 ((g o 3) + ((Int.tdiv (((g o 2) * ((z_up (z_up g o 0 ((g o 0) + ((Int.tdiv (((g p1 3) * (g o 1)) - ((g o 0) * (g p1 4))) (((g o 2) * (g p1 4)) - ((g p1 3) * (g o 3)))) * (g o 2)))) o 1 ((g o 1) + ((Int.tdiv (((g p1 3) * (g o 1)) - ((g o 0) * (g p1 4))) (((g o 2) * (g p1 4)) - ((g p1 3) * (g o 3)))) * (g o 3)))) p2 4)) - (((z_up (z_up g o 0 ((g o 0) + ((Int.tdiv (((g p1 3) * (g o 1)) - ((g o 0) * (g p1 4))) (((g o 2) * (g p1 4)) - ((g p1 3) * (g o 3)))) * (g o 2)))) o 1 ((g o 1) + ((Int.tdiv (((g p1 3) * (g o 1)) - ((g o 0) * (g p1 4))) (((g o 2) * (g p1 4)) - ((g p1 3) * (g o 3)))) * (g o 3)))) p2 3) * (g o 3))) ((((z_up (z_up g o 0 ((g o 0) + ((Int.tdiv (((g p1 3) * (g o 1)) - ((g o 0) * (g p1 4))) (((g o 2) * (g p1 4)) - ((g p1 3) * (g o 3)))) * (g o 2)))) o 1 ((g o 1) + ((Int.tdiv (((g p1 3) * (g o 1)) - ((g o 0) * (g p1 4))) (((g o 2) * (g p1 4)) - ((g p1 3) * (g o 3)))) * (g o 3)))) p2 3) * ((g o 1) + ((Int.tdiv (((g p1 3) * (g o 1)) - ((g o 0) * (g p1 4))) (((g o 2) * (g p1 4)) - ((g p1 3) * (g o 3)))) * (g o 3)))) - (((g o 0) + ((Int.tdiv (((g p1 3) * (g o 1)) - ((g o 0) * (g p1 4))) (((g o 2) * (g p1 4)) - ((g p1 3) * (g o 3)))) * (g o 2))) * ((z_up (z_up g o 0 ((g o 0) + ((Int.tdiv (((g p1 3) * (g o 1)) - ((g o 0) * (g p1 4))) (((g o 2) * (g p1 4)) - ((g p1 3) * (g o 3)))) * (g o 2)))) o 1 ((g o 1) + ((Int.tdiv (((g p1 3) * (g o 1)) - ((g o 0) * (g p1 4))) (((g o 2) * (g p1 4)) - ((g p1 3) * (g o 3)))) * (g o 3)))) p2 4)))) * ((g o 1) + ((Int.tdiv (((g p1 3) * (g o 1)) - ((g o 0) * (g p1 4))) (((g o 2) * (g p1 4)) - ((g p1 3) * (g o 3)))) * (g o 3)))))) o 3)))) ≤ 0) → ((-2147483648 ≤ (x3 + 1) ∧ (x3 + 1) ≤ 2147483647) ∧ L_Sp_squeeze_6 X N σ (x3 + 1) o p1 p2 (z_up (z_up (z_up (z_up g o 0 ((g o 0) + ((Int.tdiv (((g p1 3) * (g o 1)) - ((g o 0) * (g p1 4))) (((g o 2) * (g p1 4)) - ((g p1 3) * (g o 3)))) * (g o 2)))) o 1 ((g o 1) + ((Int.tdiv (((g p1 3) * (g o 1)) - ((g o 0) * (g p1 4))) (((g o 2) * (g p1 4)) - ((g p1 3) * (g o 3)))) * (g o 3)))) o 2 ((g o 2) + ((Int.tdiv (((g o 2) * ((z_up (z_up g o 0 ((g o 0) + ((Int.tdiv (((g p1 3) * (g o 1)) - ((g o 0) * (g p1 4))) (((g o 2) * (g p1 4)) - ((g p1 3) * (g o 3)))) * (g o 2)))) o 1 ((g o 1) + ((Int.tdiv (((g p1 3) * (g o 1)) - ((g o 0) * (g p1 4))) (((g o 2) * (g p1 4)) - ((g p1 3) * (g o 3)))) * (g o 3)))) p2 4)) - (((z_up (z_up g o 0 ((g o 0) + ((Int.tdiv (((g p1 3) * (g o 1)) - ((g o 0) * (g p1 4))) (((g o 2) * (g p1 4)) - ((g p1 3) * (g o 3)))) * (g o 2)))) o 1 ((g o 1) + ((Int.tdiv (((g p1 3) * (g o 1)) - ((g o 0) * (g p1 4))) (((g o 2) * (g p1 4)) - ((g p1 3) * (g o 3)))) * (g o 3)))) p2 3) * (g o 3))) ((((z_up (z_up g o 0 ((g o 0) + ((Int.tdiv (((g p1 3) * (g o 1)) - ((g o 0) * (g p1 4))) (((g o 2) * (g p1 4)) - ((g p1 3) * (g o 3)))) * (g o 2)))) o 1 ((g o 1) + ((Int.tdiv (((g p1 3) * (g o 1)) - ((g o 0) * (g p1 4))) (((g o 2) * (g p1 4)) - ((g p1 3) * (g o 3)))) * (g o 3)))) p2 3) * ((g o 1) + ((Int.tdiv (((g p1 3) * (g o 1)) - ((g o 0) * (g p1 4))) (((g o 2) * (g p1 4)) - ((g p1 3) * (g o 3)))) * (g o 3)))) - (((g o 0) + ((Int.tdiv (((g p1 3) * (g o 1)) - ((g o 0) * (g p1 4))) (((g o 2) * (g p1 4)) - ((g p1 3) * (g o 3)))) * (g o 2))) * ((z_up (z_up g o 0 ((g o 0) + ((Int.tdiv (((g p1 3) * (g o 1)) - ((g o 0) * (g p1 4))) (((g o 2) * (g p1 4)) - ((g p1 3) * (g o 3)))) * (g o 2)))) o 1 ((g o 1) + ((Int.tdiv (((g p1 3) * (g o 1)) - ((g o 0) * (g p1 4))) (((g o 2) * (g p1 4)) - ((g p1 3) * (g o 3)))) * (g o 3)))) p2 4)))) * ((g o 0) + ((Int.tdiv (((g p1 3) * (g o 1)) - ((g o 0) * (g p1 4))) (((g o 2) * (g p1 4)) - ((g p1 3) * (g o 3)))) * (g o 2)))))) o 3 ((g o 3) + ((Int.tdiv (((g o 2) * ((z_up (z_up g o 0 ((g o 0) + ((Int.tdiv (((g p1 3) * (g o 1)) - ((g o 0) * (g p1 4))) (((g o 2) * (g p1 4)) - ((g p1 3) * (g o 3)))) * (g o 2)))) o 1 ((g o 1) + ((Int.tdiv (((g p1 3) * (g o 1)) - ((g o 0) * (g p1 4))) (((g o 2) * (g p1 4)) - ((g p1 3) * (g o 3)))) * (g o 3)))) p2 4)) - (((z_up (z_up g o 0 ((g o 0) + ((Int.tdiv (((g p1 3) * (g o 1)) - ((g o 0) * (g p1 4))) (((g o 2) * (g p1 4)) - ((g p1 3) * (g o 3)))) * (g o 2)))) o 1 ((g o 1) + ((Int.tdiv (((g p1 3) * (g o 1)) - ((g o 0) * (g p1 4))) (((g o 2) * (g p1 4)) - ((g p1 3) * (g o 3)))) * (g o 3)))) p2 3) * (g o 3))) ((((z_up (z_up g o 0 ((g o 0) + ((Int.tdiv (((g p1 3) * (g o 1)) - ((g o 0) * (g p1 4))) (((g o 2) * (g p1 4)) - ((g p1 3) * (g o 3)))) * (g o 2)))) o 1 ((g o 1) + ((Int.tdiv (((g p1 3) * (g o 1)) - ((g o 0) * (g p1 4))) (((g o 2) * (g p1 4)) - ((g p1 3) * (g o 3)))) * (g o 3)))) p2 3) * ((g o 1) + ((Int.tdiv (((g p1 3) * (g o 1)) - ((g o 0) * (g p1 4))) (((g o 2) * (g p1 4)) - ((g p1 3) * (g o 3)))) * (g o 3)))) - (((g o 0) + ((Int.tdiv (((g p1 3) * (g o 1)) - ((g o 0) * (g p1 4))) (((g o 2) * (g p1 4)) - ((g p1 3) * (g o 3)))) * (g o 2))) * ((z_up (z_up g o 0 ((g o 0) + ((Int.tdiv (((g p1 3) * (g o 1)) - ((g o 0) * (g p1 4))) (((g o 2) * (g p1 4)) - ((g p1 3) * (g o 3)))) * (g o 2)))) o 1 ((g o 1) + ((Int.tdiv (((g p1 3) * (g o 1)) - ((g o 0) * (g p1 4))) (((g o 2) * (g p1 4)) - ((g p1 3) * (g o 3)))) * (g o 3)))) p2 4)))) * ((g o 1) + ((Int.tdiv (((g p1 3) * (g o 1)) - ((g o 0) * (g p1 4))) (((g o 2) * (g p1 4)) - ((g p1 3) * (g o 3)))) * (g o 3)))))) Q)) ∧ (¬ ((((((z_up (z_up (z_up (z_up g o 0 ((g o 0) + ((Int.tdiv (((g p1 3) * (g o 1)) - ((g o 0) * (g p1 4))) (((g o 2) * (g p1 4)) - ((g p1 3) * (g o 3)))) * (g o 2)))) o 1 ((g o 1) + ((Int.tdiv (((g p1 3) * (g o 1)) - ((g o 0) * (g p1 4))) (((g o 2) * (g p1 4)) - ((g p1 3) * (g o 3)))) * (g o 3)))) o 2 ((g o 2) + ((Int.tdiv (((g o 2) * ((z_up (z_up g o 0 ((g o 0) + ((Int.tdiv (((g p1 3) * (g o 1)) - ((g o 0) * (g p1 4))) (((g o 2) * (g p1 4)) - ((g p1 3) * (g o 3)))) * (g o 2)))) o 1 ((g o 1) + ((Int.tdiv (((g p1 3) * (g o 1)) - ((g o 0) * (g p1 4))) (((g o 2) * (g p1 4)) - ((g p1 3) * (g o 3)))) * (g o 3)))) p2 4)) - (((z_up (z_up g o 0 ((g o 0) + ((Int.tdiv (((g p1 3) * (g o 1)) - ((g o 0) * (g p1 4))) (((g o 2) * (g p1 4)) - ((g p1 3) * (g o 3)))) * (g o 2)))) o 1 ((g o 1) + ((Int.tdiv (((g p1 3) * (g o 1)) - ((g o 0) * (g p1 4))) (((g o 2) * (g p1 4)) - ((g p1 3) * (g o 3)))) * (g o 3)))) p2 3) * (g o 3))) ((((z_up (z_up g o 0 ((g o 0) + ((Int.tdiv (((g p1 3) * (g o 1)) - ((g o 0) * (g p1 4))) (((g o 2) * (g p1 4)) - ((g p1 3) * (g o 3)))) * (g o 2)))) o 1 ((g o 1) + ((Int.tdiv (((g p1 3) * (g o 1)) - ((g o 0) * (g p1 4))) (((g o 2) * (g p1 4)) - ((g p1 3) * (g o 3)))) * (g o 3)))) p2 3) * ((g o 1) + ((Int.tdiv (((g p1 3) * (g o 1)) - ((g o 0) * (g p1 4))) (((g o 2) * (g p1 4)) - ((g p1 3) * (g o 3)))) * (g o 3)))) - (((g o 0) + ((Int.tdiv (((g p1 3) * (g o 1)) - ((g o 0) * (g p1 4))) (((g o 2) * (g p1 4)) - ((g p1 3) * (g o 3)))) * (g o 2))) * ((z_up (z_up g o 0 ((g o 0) + ((Int.tdiv (((g p1 3) * (g o 1)) - ((g o 0) * (g p1 4))) (((g o 2) * (g p1 4)) - ((g p1 3) * (g o 3)))) * (g o 2)))) o 1 ((g o 1) + ((Int.tdiv (((g p1 3) * (g o 1)) - ((g o 0) * (g p1 4))) (((g o 2) * (g p1 4)) - ((g p1 3) * (g o 3)))) * (g o 3)))) p2 4)))) * ((g o 0) + ((Int.tdiv (((g p1 3) * (g o 1)) - ((g o 0) * (g p1 4))) (((g o 2) * (g p1 4)) - ((g p1 3) * (g o 3)))) * (g o 2)))))) o 3 ((g o 3) + ((Int.tdiv (((g o 2) * ((z_up (z_up g o 0 ((g o 0) + ((Int.tdiv (((g p1 3) * (g o 1)) - ((g o 0) * (g p1 4))) (((g o 2) * (g p1 4)) - ((g p1 3) * (g o 3)))) * (g o 2)))) o 1 ((g o 1) + ((Int.tdiv (((g p1 3) * (g o 1)) - ((g o 0) * (g p1 4))) (((g o 2) * (g p1 4)) - ((g p1 3) * (g o 3)))) * (g o 3)))) p2 4)) - (((z_up (z_up g o 0 ((g o 0) + ((Int.tdiv (((g p1 3) * (g o 1)) - ((g o 0) * (g p1 4))) (((g o 2) * (g p1 4)) - ((g p1 3) * (g o 3)))) * (g o 2)))) o 1 ((g o 1) + ((Int.tdiv (((g p1 3) * (g o 1)) - ((g o 0) * (g p1 4))) (((g o 2) * (g p1 4)) - ((g p1 3) * (g o 3)))) * (g o 3)))) p2 3) * (g o 3))) ((((z_up (z_up g o 0 ((g o 0) + ((Int.tdiv (((g p1 3) * (g o 1)) - ((g o 0) * (g p1 4))) (((g o 2) * (g p1 4)) - ((g p1 3) * (g o 3)))) * (g o 2)))) o 1 ((g o 1) + ((Int.tdiv (((g p1 3) * (g o 1)) - ((g o 0) * (g p1 4))) (((g o 2) * (g p1 4)) - ((g p1 3) * (g o 3)))) * (g o 3)))) p2 3) * ((g o 1) + ((Int.tdiv (((g p1 3) * (g o 1)) - ((g o 0) * (g p1 4))) (((g o 2) * (g p1 4)) - ((g p1 3) * (g o 3)))) * (g o 3)))) - (((g o 0) + ((Int.tdiv (((g p1 3) * (g o 1)) - ((g o 0) * (g p1 4))) (((g o 2) * (g p1 4)) - ((g p1 3) * (g o 3)))) * (g o 2))) * ((z_up (z_up g o 0 ((g o 0) + ((Int.tdiv (((g p1 3) * (g o 1)) - ((g o 0) * (g p1 4))) (((g o 2) * (g p1 4)) - ((g p1 3) * (g o 3)))) * (g o 2)))) o 1 ((g o 1) + ((Int.tdiv (((g p1 3) * (g o 1)) - ((g o 0) * (g p1 4))) (((g o 2) * (g p1 4)) - ((g p1 3) * (g o 3)))) * (g o 3)))) p2 4)))) * ((g o 1) + ((Int.tdiv (((g p1 3) * (g o 1)) - ((g o 0) * (g p1 4))) (((g o 2) * (g p1 4)) - ((g p1 3) * (g o 3)))) * (g o 3)))))) o 0) + ((z_up (z_up (z_up (z_up g o 0 ((g o 0) + ((Int.tdiv (((g p1 3) * (g o 1)) - ((g o 0) * (g p1 4))) (((g o 2) * (g p1 4)) - ((g p1 3) * (g o 3)))) * (g o 2)))) o 1 ((g o 1) + ((Int.tdiv (((g p1 3) * (g o 1)) - ((g o 0) * (g p1 4))) (((g o 2) * (g p1 4)) - ((g p1 3) * (g o 3)))) * (g o 3)))) o 2 ((g o 2) + ((Int.tdiv (((g o 2) * ((z_up (z_up g o 0 ((g o 0) + ((Int.tdiv (((g p1 3) * (g o 1)) - ((g o 0) * (g p1 4))) (((g o 2) * (g p1 4)) - ((g p1 3) * (g o 3)))) * (g o 2)))) o 1 ((g o 1) + ((Int.tdiv (((g p1 3) * (g o 1)) - ((g o 0) * (g p1 4))) (((g o 2) * (g p1 4)) - ((g p1 3) * (g o 3)))) * (g o 3)))) p2 4)) - (((z_up (z_up g o 0 ((g o 0) + ((Int.tdiv (((g p1 3) * (g o 1)) - ((g o 0) * (g p1 4))) (((g o 2) * (g p1 4)) - ((g p1 3) * (g o 3)))) * (g o 2)))) o 1 ((g o 1) + ((Int.tdiv (((g p1 3) * (g o 1)) - ((g o 0) * (g p1 4))) (((g o 2) * (g p1 4)) - ((g p1 3) * (g o 3)))) * (g o 3)))) p2 3) * (g o 3))) ((((z_up (z_up g o 0 ((g o 0) + ((Int.tdiv (((g p1 3) * (g o 1)) - ((g o 0) * (g p1 4))) (((g o 2) * (g p1 4)) - ((g p1 3) * (g o 3)))) * (g o 2)))) o 1 ((g o 1) + ((Int.tdiv (((g p1 3) * (g o 1)) - ((g o 0) * (g p1 4))) (((g o 2) * (g p1 4)) - ((g p1 3) * (g o 3)))) * (g o 3)))) p2 3) * ((g o 1) + ((Int.tdiv (((g p1 3) * (g o 1)) - ((g o 0) * (g p1 4))) (((g o 2) * (g p1 4)) - ((g p1 3) * (g o 3)))) * (g o 3)))) - (((g o 0) + ((Int.tdiv (((g p1 3) * (g o 1)) - ((g o 0) * (g p1 4))) (((g o 2) * (g p1 4)) - ((g p1 3) * (g o 3)))) * (g o 2))) * ((z_up (z_up g o 0 ((g o 0) + ((Int.tdiv (((g p1 3) * (g o 1)) - ((g o 0) * (g p1 4))) (((g o 2) * (g p1 4)) - ((g p1 3) * (g o 3)))) * (g o 2)))) o 1 ((g o 1) + ((Int.tdiv (((g p1 3) * (g o 1)) - ((g o 0) * (g p1 4))) (((g o 2) * (g p1 4)) - ((g p1 3) * (g o 3)))) * (g o 3)))) p2 4)))) * ((g o 0) + ((Int.tdiv (((g p1 3) * (g o 1)) - ((g o 0) * (g p1 4))) (((g o 2) * (g p1 4)) - ((g p1 3) * (g o 3)))) * (g o 2)))))) o 3 ((g o 3) + ((Int.tdiv (((g o 2) * ((z_up (z_up g o 0 ((g o 0) + ((Int.tdiv (((g p1 3) * (g o 1)) - ((g o 0) * (g p1 4))) (((g o 2) * (g p1 4)) - ((g p1 3) * (g o 3)))) * (g o 2)))) o 1 ((g o 1) + ((Int.tdiv (((g p1 3) * (g o 1)) - ((g o 0) * (g p1 4))) (((g o 2) * (g p1 4)) - ((g p1 3) * (g o 3)))) * (g o 3)))) p2 4)) - (((z_up (z_up g o 0 ((g o 0) + ((Int.tdiv (((g p1 3) * (g o 1)) - ((g o 0) * (g p1 4))) (((g o 2) * (g p1 4)) - ((g p1 3) * (g o 3)))) * (g o 2)))) o 1 ((g o 1) + ((Int.tdiv (((g p1 3) * (g o 1)) - ((g o 0) * (g p1 4))) (((g o 2) * (g p1 4)) - ((g p1 3) * (g o 3)))) * (g o 3)))) p2 3) * (g o 3))) ((((z_up (z_up g o 0 ((g o 0) + ((Int.tdiv (((g p1 3) * (g o 1)) - ((g o 0) * (g p1 4))) (((g o 2) * (g p1 4)) - ((g p1 3) * (g o 3)))) * (g o 2)))) o 1 ((g o 1) + ((Int.tdiv (((g p1 3) * (g o 1)) - ((g o 0) * (g p1 4))) (((g o 2) * (g p1 4)) - ((g p1 3) * (g o 3)))) * (g o 3)))) p2 3) * ((g o 1) + ((Int.tdiv (((g p1 3) * (g o 1)) - ((g o 0) * (g p1 4))) (((g o 2) * (g p1 4)) - ((g p1 3) * (g o 3)))) * (g o 3)))) - (((g o 0) + ((Int.tdiv (((g p1 3) * (g o 1)) - ((g o 0) * (g p1 4))) (((g o 2) * (g p1 4)) - ((g p1 3) * (g o 3)))) * (g o 2))) * ((z_up (z_up g o 0 ((g o 0) + ((Int.tdiv (((g p1 3) * (g o 1)) - ((g o 0) * (g p1 4))) (((g o 2) * (g p1 4)) - ((g p1 3) * (g o 3)))) * (g o 2)))) o 1 ((g o 1) + ((Int.tdiv (((g p1 3) * (g o 1)) - ((g o 0) * (g p1 4))) (((g o 2) * (g p1 4)) - ((g p1 3) * (g o 3)))) * (g o 3)))) p2 4)))) * ((g o 1) + ((Int.tdiv (((g p1 3) * (g o 1)) - ((g o 0) * (g p1 4))) (((g o 2) * (g p1 4)) - ((g p1 3) * (g o 3)))) * (g o 3)))))) o 2)) * ((z_up (z_up (z_up (z_up g o 0 ((g o 0) + ((Int.tdiv (((g p1 3) * (g o 1)) - ((g o 0) * (g p1 4))) (((g o 2) * (g p1 4)) - ((g p1 3) * (g o 3)))) * (g o 2)))) o 1 ((g o 1) + ((Int.tdiv (((g p1 3) * (g o 1)) - ((g o 0) * (g p1 4))) (((g o 2) * (g p1 4)) - ((g p1 3) * (g o 3)))) * (g o 3)))) o 2 ((g o 2) + ((Int.tdiv (((g o 2) * ((z_up (z_up g o 0 ((g o 0) + ((Int.tdiv (((g p1 3) * (g o 1)) - ((g o 0) * (g p1 4))) (((g o 2) * (g p1 4)) - ((g p1 3) * (g o 3)))) * (g o 2)))) o 1 ((g o 1) + ((Int.tdiv (((g p1 3) * (g o 1)) - ((g o 0) * (g p1 4))) (((g o 2) * (g p1 4)) - ((g p1 3) * (g o 3)))) * (g o 3)))) p2 4)) - (((z_up (z_up g o 0 ((g o 0) + ((Int.tdiv (((g p1 3) * (g o 1)) - ((g o 0) * (g p1 4))) (((g o 2) * (g p1 4)) - ((g p1 3) * (g o 3)))) * (g o 2)))) o 1 ((g o 1) + ((Int.tdiv (((g p1 3) * (g o 1)) - ((g o 0) * (g p1 4))) (((g o 2) * (g p1 4)) - ((g p1 3) * (g o 3)))) * (g o 3)))) p2 3) * (g o 3))) ((((z_up (z_up g o 0 ((g o 0) + ((Int.tdiv (((g p1 3) * (g o 1)) - ((g o 0) * (g p1 4))) (((g o 2) * (g p1 4)) - ((g p1 3) * (g o 3)))) * (g o 2)))) o 1 ((g o 1) + ((Int.tdiv (((g p1 3) * (g o 1)) - ((g o 0) * (g p1 4))) (((g o 2) * (g p1 4)) - ((g p1 3) * (g o 3)))) * (g o 3)))) p2 3) * ((g o 1) + ((Int.tdiv (((g p1 3) * (g o 1)) - ((g o 0) * (g p1 4))) (((g o 2) * (g p1 4)) - ((g p1 3) * (g o 3)))) * (g o 3)))) - (((g o 0) + ((Int.tdiv (((g p1 3) * (g o 1)) - ((g o 0) * (g p1 4))) (((g o 2) * (g p1 4)) - ((g p1 3) * (g o 3)))) * (g o 2))) * ((z_up (z_up g o 0 ((g o 0) + ((Int.tdiv (((g p1 3) * (g o 1)) - ((g o 0) * (g p1 4))) (((g o 2) * (g p1 4)) - ((g p1 3) * (g o 3)))) * (g o 2)))) o 1 ((g o 1) + ((Int.tdiv (((g p1 3) * (g o 1)) - ((g o 0) * (g p1 4))) (((g o 2) * (g p1 4)) - ((g p1 3) * (g o 3)))) * (g o 3)))) p2 4)))) * ((g o 0) + ((Int.tdiv (((g p1 3) * (g o 1)) - ((g o 0) * (g p1 4))) (((g o 2) * (g p1 4)) - ((g p1 3) * (g o 3)))) * (g o 2)))))) o 3 ((g o 3) + ((Int.tdiv (((g o 2) * ((z_up (z_up g o 0 ((g o 0) + ((Int.tdiv (((g p1 3) * (g o 1)) - ((g o 0) * (g p1 4))) (((g o 2) * (g p1 4)) - ((g p1 3) * (g o 3)))) * (g o 2)))) o 1 ((g o 1) + ((Int.tdiv (((g p1 3) * (g o 1)) - ((g o 0) * (g p1 4))) (((g o 2) * (g p1 4)) - ((g p1 3) * (g o 3)))) * (g o 3)))) p2 4)) - (((z_up (z_up g o 0 ((g o 0) + ((Int.tdiv (((g p1 3) * (g o 1)) - ((g o 0) * (g p1 4))) (((g o 2) * (g p1 4)) - ((g p1 3) * (g o 3)))) * (g o 2)))) o 1 ((g o 1) + ((Int.tdiv (((g p1 3) * (g o 1)) - ((g o 0) * (g p1 4))) (((g o 2) * (g p1 4)) - ((g p1 3) * (g o 3)))) * (g o 3)))) p2 3) * (g o 3))) ((((z_up (z_up g o 0 ((g o 0) + ((Int.tdiv (((g p1 3) * (g o 1)) - ((g o 0) * (g p1 4))) (((g o 2) * (g p1 4)) - ((g p1 3) * (g o 3)))) * (g o 2)))) o 1 ((g o 1) + ((Int.tdiv (((g p1 3) * (g o 1)) - ((g o 0) * (g p1 4))) (((g o 2) * (g p1 4)) - ((g p1 3) * (g o 3)))) * (g o 3)))) p2 3) * ((g o 1) + ((Int.tdiv (((g p1 3) * (g o 1)) - ((g o 0) * (g p1 4))) (((g o 2) * (g p1 4)) - ((g p1 3) * (g o 3)))) * (g o 3)))) - (((g o 0) + ((Int.tdiv (((g p1 3) * (g o 1)) - ((g o 0) * (g p1 4))) (((g o 2) * (g p1 4)) - ((g p1 3) * (g o 3)))) * (g o 2))) * ((z_up (z_up g o 0 ((g o 0) + ((Int.tdiv (((g p1 3) * (g o 1)) - ((g o 0) * (g p1 4))) (((g o 2) * (g p1 4)) - ((g p1 3) * (g o 3)))) * (g o 2)))) o 1 ((g o 1) + ((Int.tdiv (((g p1 3) * (g o 1)) - ((g o 0) * (g p1 4))) (((g o 2) * (g p1 4)) - ((g p1 3) * (g o 3)))) * (g o 3)))) p2 4)))) * ((g o 1) + ((Int.tdiv (((g p1 3) * (g o 1)) - ((g o 0) * (g p1 4))) (((g o 2) * (g p1 4)) - ((g p1 3) * (g o 3)))) * (g o 3)))))) p1 4)) - (((z_up (z_up (z_up (z_up g o 0 ((g o 0) + ((Int.tdiv (((g p1 3) * (g o 1)) - ((g o 0) * (g p1 4))) (((g o 2) * (g p1 4)) - ((g p1 3) * (g o 3)))) * (g o 2)))) o 1 ((g o 1) + ((Int.tdiv (((g p1 3) * (g o 1)) - ((g o 0) * (g p1 4))) (((g o 2) * (g p1 4)) - ((g p1 3) * (g o 3)))) * (g o 3)))) o 2 ((g o 2) + ((Int.tdiv (((g o 2) * ((z_up (z_up g o 0 ((g o 0) + ((Int.tdiv (((g p1 3) * (g o 1)) - ((g o 0) * (g p1 4))) (((g o 2) * (g p1 4)) - ((g p1 3) * (g o 3)))) * (g o 2)))) o 1 ((g o 1) + ((Int.tdiv (((g p1 3) * (g o 1)) - ((g o 0) * (g p1 4))) (((g o 2) * (g p1 4)) - ((g p1 3) * (g o 3)))) * (g o 3)))) p2 4)) - (((z_up (z_up g o 0 ((g o 0) + ((Int.tdiv (((g p1 3) * (g o 1)) - ((g o 0) * (g p1 4))) (((g o 2) * (g p1 4)) - ((g p1 3) * (g o 3)))) * (g o 2)))) o 1 ((g o 1) + ((Int.tdiv (((g p1 3) * (g o 1)) - ((g o 0) * (g p1 4))) (((g o 2) * (g p1 4)) - ((g p1 3) * (g o 3)))) * (g o 3)))) p2 3) * (g o 3))) ((((z_up (z_up g o 0 ((g o 0) + ((Int.tdiv (((g p1 3) * (g o 1)) - ((g o 0) * (g p1 4))) (((g o 2) * (g p1 4)) - ((g p1 3) * (g o 3)))) * (g o 2)))) o 1 ((g o 1) + ((Int.tdiv (((g p1 3) * (g o 1)) - ((g o 0) * (g p1 4))) (((g o 2) * (g p1 4)) - ((g p1 3) * (g o 3)))) * (g o 3)))) p2 3) * ((g o 1) + ((Int.tdiv (((g p1 3) * (g o 1)) - ((g o 0) * (g p1 4))) (((g o 2) * (g p1 4)) - ((g p1 3) * (g o 3)))) * (g o 3)))) - (((g o 0) + ((Int.tdiv (((g p1 3) * (g o 1)) - ((g o 0) * (g p1 4))) (((g o 2) * (g p1 4)) - ((g p1 3) * (g o 3)))) * (g o 2))) * ((z_up (z_up g o 0 ((g o 0) + ((Int.tdiv (((g p1 3) * (g o 1)) - ((g o 0) * (g p1 4))) (((g o 2) * (g p1 4)) - ((g p1 3) * (g o 3)))) * (g o 2)))) o 1 ((g o 1) + ((Int.tdiv (((g p1 3) * (g o 1)) - ((g o 0) * (g p1 4))) (((g o 2) * (g p1 4)) - ((g p1 3) * (g o 3)))) * (g o 3)))) p2 4)))) * ((g o 0) + ((Int.tdiv (((g p1 3) * (g o 1)) - ((g o 0) * (g p1 4))) (((g o 2) * (g p1 4)) - ((g p1 3) * (g o 3)))) * (g o 2)))))) o 3 ((g o 3) + ((Int.tdiv (((g o 2) * ((z_up (z_up g o 0 ((g o 0) + ((Int.tdiv (((g p1 3) * (g o 1)) - ((g o 0) * (g p1 4))) (((g o 2) * (g p1 4)) - ((g p1 3) * (g o 3)))) * (g o 2)))) o 1 ((g o 1) + ((Int.tdiv (((g p1 3) * (g o 1)) - ((g o 0) * (g p1 4))) (((g o 2) * (g p1 4)) - ((g p1 3) * (g o 3)))) * (g o 3)))) p2 4)) - (((z_up (z_up g o 0 ((g o 0) + ((Int.tdiv (((g p1 3) * (g o 1)) - ((g o 0) * (g p1 4))) (((g o 2) * (g p1 4)) - ((g p1 3) * (g o 3)))) * (g o 2)))) o 1 ((g o 1) + ((Int.tdiv (((g p1 3) * (g o 1)) - ((g o 0) * (g p1 4))) (((g o 2) * (g p1 4)) - ((g p1 3) * (g o 3)))) * (g o 3)))) p2 3) * (g o 3))) ((((z_up (z_up g o 0 ((g o 0) + ((Int.tdiv (((g p1 3) * (g o 1)) - ((g o 0) * (g p1 4))) (((g o 2) * (g p1 4)) - ((g p1 3) * (g o 3)))) * (g o 2)))) o 1 ((g o 1) + ((Int.tdiv (((g p1 3) * (g o 1)) - ((g o 0) * (g p1 4))) (((g o 2) * (g p1 4)) - ((g p1 3) * (g o 3)))) * (g o 3)))) p2 3) * ((g o 1) + ((Int.tdiv (((g p1 3) * (g o 1)) - ((g o 0) * (g p1 4))) (((g o 2) * (g p1 4)) - ((g p1 3) * (g o 3)))) * (g o 3)))) - (((g o 0) + ((Int.tdiv (((g p1 3) * (g o 1)) - ((g o 0) * (g p1 4))) (((g o 2) * (g p1 4)) - ((g p1 3) * (g o 3)))) * (g o 2))) * ((z_up (z_up g o 0 ((g o 0) + ((Int.tdiv (((g p1 3) * (g o 1)) - ((g o 0) * (g p1 4))) (((g o 2) * (g p1 4)) - ((g p1 3) * (g o 3)))) * (g o 2)))) o 1 ((g o 1) + ((Int.tdiv (((g p1 3) * (g o 1)) - ((g o 0) * (g p1 4))) (((g o 2) * (g p1 4)) - ((g p1 3) * (g o 3)))) * (g o 3)))) p2 4)))) * ((g o 1) + ((Int.tdiv (((g p1 3) * (g o 1)) - ((g o 0) * (g p1 4))) (((g o 2) * (g p1 4)) - ((g p1 3) * (g o 3)))) * (g o 3)))))) p1 3) * (((z_up (z_up (z_up (z_up g o 0 ((g o 0) + ((Int.tdiv (((g p1 3) * (g o 1)) - ((g o 0) * (g p1 4))) (((g o 2) * (g p1 4)) - ((g p1 3) * (g o 3)))) * (g o 2)))) o 1 ((g o 1) + ((Int.tdiv (((g p1 3) * (g o 1)) - ((g o 0) * (g p1 4))) (((g o 2) * (g p1 4)) - ((g p1 3) * (g o 3)))) * (g o 3)))) o 2 ((g o 2) + ((Int.tdiv (((g o 2) * ((z_up (z_up g o 0 ((g o 0) + ((Int.tdiv (((g p1 3) * (g o 1)) - ((g o 0) * (g p1 4))) (((g o 2) * (g p1 4)) - ((g p1 3) * (g o 3)))) * (g o 2)))) o 1 ((g o 1) + ((Int.tdiv (((g p1 3) * (g o 1)) - ((g o 0) * (g p1 4))) (((g o 2) * (g p1 4)) - ((g p1 3) * (g o 3)))) * (g o 3)))) p2 4)) - (((z_up (z_up g o 0 ((g o 0) + ((Int.tdiv (((g p1 3) * (g o 1)) - ((g o 0) * (g p1 4))) (((g o 2) * (g p1 4)) - ((g p1 3) * (g o 3)))) * (g o 2)))) o 1 ((g o 1) + ((Int.tdiv (((g p1 3) * (g o 1)) - ((g o 0) * (g p1 4))) (((g o 2) * (g p1 4)) - ((g p1 3) * (g o 3)))) * (g o 3)))) p2 3) * (g o 3))) ((((z_up (z_up g o 0 ((g o 0) + ((Int.tdiv (((g p1 3) * (g o 1)) - ((g o 0) * (g p1 4))) (((g o 2) * (g p1 4)) - ((g p1 3) * (g o 3)))) * (g o 2)))) o 1 ((g o 1) + ((Int.tdiv (((g p1 3) * (g o 1)) - ((g o 0) * (g p1 4))) (((g o 2) * (g p1 4)) - ((g p1 3) * (g o 3)))) * (g o 3)))) p2 3) * ((g o 1) + ((Int.tdiv (((g p1 3) * (g o 1)) - ((g o 0) * (g p1 4))) (((g o 2) * (g p1 4)) - ((g p1 3) * (g o 3)))) * (g o 3)))) - (((g o 0) + ((Int.tdiv (((g p1 3) * (g o 1)) - ((g o 0) * (g p1 4))) (((g o 2) * (g p1 4)) - ((g p1 3) * (g o 3)))) * (g o 2))) * ((z_up (z_up g o 0 ((g o 0) + ((Int.tdiv (((g p1 3) * (g o 1)) - ((g o 0) * (g p1 4))) (((g o 2) * (g p1 4)) - ((g p1 3) * (g o 3)))) * (g o 2)))) o 1 ((g o 1) + ((Int.tdiv (((g p1 3) * (g o 1)) - ((g o 0) * (g p1 4))) (((g o 2) * (g p1 4)) - ((g p1 3) * (g o 3)))) * (g o 3)))) p2 4)))) * ((g o 0) + ((Int.tdiv (((g p1 3) * (g o 1)) - ((g o 0) * (g p1 4))) (((g o 2) * (g p1 4)) - ((g p1 3) * (g o 3)))) * (g o 2)))))) o 3 ((g o 3) + ((Int.tdiv (((g o 2) * ((z_up (z_up g o 0 ((g o 0) + ((Int.tdiv (((g p1 3) * (g o 1)) - ((g o 0) * (g p1 4))) (((g o 2) * (g p1 4)) - ((g p1 3) * (g o 3)))) * (g o 2)))) o 1 ((g o 1) + ((Int.tdiv (((g p1 3) * (g o 1)) - ((g o 0) * (g p1 4))) (((g o 2) * (g p1 4)) - ((g p1 3) * (g o 3)))) * (g o 3)))) p2 4)) - (((z_up (z_up g o 0 ((g o 0) + ((Int.tdiv (((g p1 3) * (g o 1)) - ((g o 0) * (g p1 4))) (((g o 2) * (g p1 4)) - ((g p1 3) * (g o 3)))) * (g o 2)))) o 1 ((g o 1) + ((Int.tdiv (((g p1 3) * (g o 1)) - ((g o 0) * (g p1 4))) (((g o 2) * (g p1 4)) - ((g p1 3) * (g o 3)))) * (g o 3)))) p2 3) * (g o 3))) ((((z_up (z_up g o 0 ((g o 0) + ((Int.tdiv (((g p1 3) * (g o 1)) - ((g o 0) * (g p1 4))) (((g o 2) * (g p1 4)) - ((g p1 3) * (g o 3)))) * (g o 2)))) o 1 ((g o 1) + ((Int.tdiv (((g p1 3) * (g o 1)) - ((g o 0) * (g p1 4))) (((g o 2) * (g p1 4)) - ((g p1 3) * (g o 3)))) * (g o 3)))) p2 3) * ((g o 1) + ((Int.tdiv (((g p1 3) * (g o 1)) - ((g o 0) * (g p1 4))) (((g o 2) * (g p1 4)) - ((g p1 3) * (g o 3)))) * (g o 3)))) - (((g o 0) + ((Int.tdiv (((g p1 3) * (g o 1)) - ((g o 0) * (g p1 4))) (((g o 2) * (g p1 4)) - ((g p1 3) * (g o 3)))) * (g o 2))) * ((z_up (z_up g o 0 ((g o 0) + ((Int.tdiv (((g p1 3) * (g o 1)) - ((g o 0) * (g p1 4))) (((g o 2) * (g p1 4)) - ((g p1 3) * (g o 3)))) * (g o 2)))) o 1 ((g o 1) + ((Int.tdiv (((g p1 3) * (g o 1)) - ((g o 0) * (g p1 4))) (((g o 2) * (g p1 4)) - ((g p1 3) * (g o 3)))) * (g o 3)))) p2 4)))) * ((g o 1) + ((Int.tdiv (((g p1 3) * (g o 1)) - ((g o 0) * (g p1 4))) (((g o 2) * (g p1 4)) - ((g p1 3) * (g o 3)))) * (g o 3)))))) o 1) + ((z_up (z_up (z_up (z_up g o 0 ((g o 0) + ((Int.tdiv (((g p1 3) * (g o 1)) - ((g o 0) * (g p1 4))) (((g o 2) * (g p1 4)) - ((g p1 3) * (g o 3)))) * (g o 2)))) o 1 ((g o 1) + ((Int.tdiv (((g p1 3) * (g o 1)) - ((g o 0) * (g p1 4))) (((g o 2) * (g p1 4)) - ((g p1 3) * (g o 3)))) * (g o 3)))) o 2 ((g o 2) + ((Int.tdiv (((g o 2) * ((z_up (z_up g o 0 ((g o 0) + ((Int.tdiv (((g p1 3) * (g o 1)) - ((g o 0) * (g p1 4))) (((g o 2) * (g p1 4)) - ((g p1 3) * (g o 3)))) * (g o 2)))) o 1 ((g o 1) + ((Int.tdiv (((g p1 3) * (g o 1)) - ((g o 0) * (g p1 4))) (((g o 2) * (g p1 4)) - ((g p1 3) * (g o 3)))) * (g o 3)))) p2 4)) - (((z_up (z_up g o 0 ((g o 0) + ((Int.tdiv (((g p1 3) * (g o 1)) - ((g o 0) * (g p1 4))) (((g o 2) * (g p1 4)) - ((g p1 3) * (g o 3)))) * (g o 2)))) o 1 ((g o 1) + ((Int.tdiv (((g p1 3) * (g o 1)) - ((g o 0) * (g p1 4))) (((g o 2) * (g p1 4)) - ((g p1 3) * (g o 3)))) * (g o 3)))) p2 3) * (g o 3))) ((((z_up (z_up g o 0 ((g o 0) + ((Int.tdiv (((g p1 3) * (g o 1)) - ((g o 0) * (g p1 4))) (((g o 2) * (g p1 4)) - ((g p1 3) * (g o 3)))) * (g o 2)))) o 1 ((g o 1) + ((Int.tdiv (((g p1 3) * (g o 1)) - ((g o 0) * (g p1 4))) (((g o 2) * (g p1 4)) - ((g p1 3) * (g o 3)))) * (g o 3)))) p2 3) * ((g o 1) + ((Int.tdiv (((g p1 3) * (g o 1)) - ((g o 0) * (g p1 4))) (((g o 2) * (g p1 4)) - ((g p1 3) * (g o 3)))) * (g o 3)))) - (((g o 0) + ((Int.tdiv (((g p1 3) * (g o 1)) - ((g o 0) * (g p1 4))) (((g o 2) * (g p1 4)) - ((g p1 3) * (g o 3)))) * (g o 2))) * ((z_up (z_up g o 0 ((g o 0) + ((Int.tdiv (((g p1 3) * (g o 1)) - ((g o 0) * (g p1 4))) (((g o 2) * (g p1 4)) - ((g p1 3) * (g o 3)))) * (g o 2)))) o 1 ((g o 1) + ((Int.tdiv (((g p1 3) * (g o 1)) - ((g o 0) * (g p1 4))) (((g o 2) * (g p1 4)) - ((g p1 3) * (g o 3)))) * (g o 3)))) p2 4)))) * ((g o 0) + ((Int.tdiv (((g p1 3) * (g o 1)) - ((g o 0) * (g p1 4))) (((g o 2) * (g p1 4)) - ((g p1 3) * (g o 3)))) * (g o 2)))))) o 3 ((g o 3) + ((Int.tdiv (((g o 2) * ((z_up (z_up g o 0 ((g o 0) + ((Int.tdiv (((g p1 3) * (g o 1)) - ((g o 0) * (g p1 4))) (((g o 2) * (g p1 4)) - ((g p1 3) * (g o 3)))) * (g o 2)))) o 1 ((g o 1) + ((Int.tdiv (((g p1 3) * (g o 1)) - ((g o 0) * (g p1 4))) (((g o 2) * (g p1 4)) - ((g p1 3) * (g o 3)))) * (g o 3)))) p2 4)) - (((z_up (z_up g o 0 ((g o 0) + ((Int.tdiv (((g p1 3) * (g o 1)) - ((g o 0) * (g p1 4))) (((g o 2) * (g p1 4)) - ((g p1 3) * (g o 3)))) * (g o 2)))) o 1 ((g o 1) + ((Int.tdiv (((g p1 3) * (g o 1)) - ((g o 0) * (g p1 4))) (((g o 2) * (g p1 4)) - ((g p1 3) * (g o 3)))) * (g o 3)))) p2 3) * (g o 3))) ((((z_up (z_up g o 0 ((g o 0) + ((Int.tdiv (((g p1 3) * (g o 1)) - ((g o 0) * (g p1 4))) (((g o 2) * (g p1 4)) - ((g p1 3) * (g o 3)))) * (g o 2)))) o 1 ((g o 1) + ((Int.tdiv (((g p1 3) * (g o 1)) - ((g o 0) * (g p1 4))) (((g o 2) * (g p1 4)) - ((g p1 3) * (g o 3)))) * (g o 3)))) p2 3) * ((g o 1) + ((Int.tdiv (((g p1 3) * (g o 1)) - ((g o 0) * (g p1 4))) (((g o 2) * (g p1 4)) - ((g p1 3) * (g o 3)))) * (g o 3)))) - (((g o 0) + ((Int.tdiv (((g p1 3) * (g o 1)) - ((g o 0) * (g p1 4))) (((g o 2) * (g p1 4)) - ((g p1 3) * (g o 3)))) * (g o 2))) * ((z_up (z_up g o 0 ((g o 0) + ((Int.tdiv (((g p1 3) * (g o 1)) - ((g o 0) * (g p1 4))) (((g o 2) * (g p1 4)) - ((g p1 3) * (g o 3)))) * (g o 2)))) o 1 ((g o 1) + ((Int.tdiv (((g p1 3) * (g o 1)) - ((g o 0) * (g p1 4))) (((g o 2) * (g p1 4)) - ((g p1 3) * (g o 3)))) * (g o 3)))) p2 4)))) * ((g o 1) + ((Int.tdiv (((g p1 3) * (g o 1)) - ((g o 0) * (g p1 4))) (((g o 2) * (g p1 4)) - ((g p1 3) * (g o 3)))) * (g o 3)))))) o 3)))) ≤ 0) → Q 0 (z_up (z_up (z_up (z_up g o 0 ((g o 0) + ((Int.tdiv (((g p1 3) * (g o 1)) - ((g o 0) * (g p1 4))) (((g o 2) * (g p1 4)) - ((g p1 3) * (g o 3)))) * (g o 2)))) o 1 ((g o 1) + ((Int.tdiv (((g p1 3) * (g o 1)) - ((g o 0) * (g p1 4))) (((g o 2) * (g p1 4)) - ((g p1 3) * (g o 3)))) * (g o 3)))) o 2 ((g o 2) + ((Int.tdiv (((g o 2) * ((z_up (z_up g o 0 ((g o 0) + ((Int.tdiv (((g p1 3) * (g o 1)) - ((g o 0) * (g p1 4))) (((g o 2) * (g p1 4)) - ((g p1 3) * (g o 3)))) * (g o 2)))) o 1 ((g o 1) + ((Int.tdiv (((g p1 3) * (g o 1)) - ((g o 0) * (g p1 4))) (((g o 2) * (g p1 4)) - ((g p1 3) * (g o 3)))) * (g o 3)))) p2 4)) - (((z_up (z_up g o 0 ((g o 0) + ((Int.tdiv (((g p1 3) * (g o 1)) - ((g o 0) * (g p1 4))) (((g o 2) * (g p1 4)) - ((g p1 3) * (g o 3)))) * (g o 2)))) o 1 ((g o 1) + ((Int.tdiv (((g p1 3) * (g o 1)) - ((g o 0) * (g p1 4))) (((g o 2) * (g p1 4)) - ((g p1 3) * (g o 3)))) * (g o 3)))) p2 3) * (g o 3))) ((((z_up (z_up g o 0 ((g o 0) + ((Int.tdiv (((g p1 3) * (g o 1)) - ((g o 0) * (g p1 4))) (((g o 2) * (g p1 4)) - ((g p1 3) * (g o 3)))) * (g o 2)))) o 1 ((g o 1) + ((Int.tdiv (((g p1 3) * (g o 1)) - ((g o 0) * (g p1 4))) (((g o 2) * (g p1 4)) - ((g p1 3) * (g o 3)))) * (g o 3)))) p2 3) * ((g o 1) + ((Int.tdiv (((g p1 3) * (g o 1)) - ((g o 0) * (g p1 4))) (((g o 2) * (g p1 4)) - ((g p1 3) * (g o 3)))) * (g o 3)))) - (((g o 0) + ((Int.tdiv (((g p1 3) * (g o 1)) - ((g o 0) * (g p1 4))) (((g o 2) * (g p1 4)) - ((g p1 3) * (g o 3)))) * (g o 2))) * ((z_up (z_up g o 0 ((g o 0) + ((Int.tdiv (((g p1 3) * (g o 1)) - ((g o 0) * (g p1 4))) (((g o 2) * (g p1 4)) - ((g p1 3) * (g o 3)))) * (g o 2)))) o 1 ((g o 1) + ((Int.tdiv (((g p1 3) * (g o 1)) - ((g o 0) * (g p1 4))) (((g o 2) * (g p1 4)) - ((g p1 3) * (g o 3)))) * (g o 3)))) p2 4)))) * ((g o 0) + ((Int.tdiv (((g p1 3) * (g o 1)) - ((g o 0) * (g p1 4))) (((g o 2) * (g p1 4)) - ((g p1 3) * (g o 3)))) * (g o 2)))))) o 3 ((g o 3) + ((Int.tdiv (((g o 2) * ((z_up (z_up g o 0 ((g o 0) + ((Int.tdiv (((g p1 3) * (g o 1)) - ((g o 0) * (g p1 4))) (((g o 2) * (g p1 4)) - ((g p1 3) * (g o 3)))) * (g o 2)))) o 1 ((g o 1) + ((Int.tdiv (((g p1 3) * (g o 1)) - ((g o 0) * (g p1 4))) (((g o 2) * (g p1 4)) - ((g p1 3) * (g o 3)))) * (g o 3)))) p2 4)) - (((z_up (z_up g o 0 ((g o 0) + ((Int.tdiv (((g p1 3) * (g o 1)) - ((g o 0) * (g p1 4))) (((g o 2) * (g p1 4)) - ((g p1 3) * (g o 3)))) * (g o 2)))) o 1 ((g o 1) + ((Int.tdiv (((g p1 3) * (g o 1)) - ((g o 0) * (g p1 4))) (((g o 2) * (g p1 4)) - ((g p1 3) * (g o 3)))) * (g o 3)))) p2 3) * (g o 3))) ((((z_up (z_up g o 0 ((g o 0) + ((Int.tdiv (((g p1 3) * (g o 1)) - ((g o 0) * (g p1 4))) (((g o 2) * (g p1 4)) - ((g p1 3) * (g o 3)))) * (g o 2)))) o 1 ((g o 1) + ((Int.tdiv (((g p1 3) * (g o 1)) - ((g o 0) * (g p1 4))) (((g o 2) * (g p1 4)) - ((g p1 3) * (g o 3)))) * (g o 3)))) p2 3) * ((g o 1) + ((Int.tdiv (((g p1 3) * (g o 1)) - ((g o 0) * (g p1 4))) (((g o 2) * (g p1 4)) - ((g p1 3) * (g o 3)))) * (g o 3)))) - (((g o 0) + ((Int.tdiv (((g p1 3) * (g o 1)) - ((g o 0) * (g p1 4))) (((g o 2) * (g p1 4)) - ((g p1 3) * (g o 3)))) * (g o 2))) * ((z_up (z_up g o 0 ((g o 0) + ((Int.tdiv (((g p1 3) * (g o 1)) - ((g o 0) * (g p1 4))) (((g o 2) * (g p1 4)) - ((g p1 3) * (g o 3)))) * (g o 2)))) o 1 ((g o 1) + ((Int.tdiv (((g p1 3) * (g o 1)) - ((g o 0) * (g p1 4))) (((g o 2) * (g p1 4)) - ((g p1 3) * (g o 3)))) * (g o 3)))) p2 4)))) * ((g o 1) + ((Int.tdiv (((g p1 3) * (g o 1)) - ((g o 0) * (g p1 4))) (((g o 2) * (g p1 4)) - ((g p1 3) * (g o 3)))) * (g o 3)))))))))))))))))))))))))))) ∧ (¬ (0 ≤ (((((z_up (z_up g o 0 ((g o 0) + ((Int.tdiv (((g p1 3) * (g o 1)) - ((g o 0) * (g p1 4))) (((g o 2) * (g p1 4)) - ((g p1 3) * (g o 3)))) * (g o 2)))) o 1 ((g o 1) + ((Int.tdiv (((g p1 3) * (g o 1)) - ((g o 0) * (g p1 4))) (((g o 2) * (g p1 4)) - ((g p1 3) * (g o 3)))) * (g o 3)))) o 0) + ((z_up (z_up g o 0 ((g o 0) + ((Int.tdiv (((g p1 3) * (g o 1)) - ((g o 0) * (g p1 4))) (((g o 2) * (g p1 4)) - ((g p1 3) * (g o 3)))) * (g o 2)))) o 1 ((g o 1) + ((Int.tdiv (((g p1 3) * (g o 1)) - ((g o 0) * (g p1 4))) (((g o 2) * (g p1 4)) - ((g p1 3) * (g o 3)))) * (g o 3)))) o 2)) * ((z_up (z_up g o 0 ((g o 0) + ((Int.tdiv (((g p1 3) * (g o 1)) - ((g o 0) * (g p1 4))) (((g o 2) * (g p1 4)) - ((g p1 3) * (g o 3)))) * (g o 2)))) o 1 ((g o 1) + ((Int.tdiv (((g p1 3) * (g o 1)) - ((g o 0) * (g p1 4))) (((g o 2) * (g p1 4)) - ((g p1 3) * (g o 3)))) * (g o 3)))) p2 4)) - (((z_up (z_up g o 0 ((g o 0) + ((Int.tdiv (((g p1 3) * (g o 1)) - ((g o 0) * (g p1 4))) (((g o 2) * (g p1 4)) - ((g p1 3) * (g o 3)))) * (g o 2)))) o 1 ((g o 1) + ((Int.tdiv (((g p1 3) * (g o 1)) - ((g o 0) * (g p1 4))) (((g o 2) * (g p1 4)) - ((g p1 3) * (g o 3)))) * (g o 3)))) p2 3) * (((z_up (z_up g o 0 ((g o 0) + ((Int.tdiv (((g p1 3) * (g o 1)) - ((g o 0) * (g p1 4))) (((g o 2) * (g p1 4)) - ((g p1 3) * (g o 3)))) * (g o 2)))) o 1 ((g o 1) + ((Int.tdiv (((g p1 3) * (g o 1)) - ((g o 0) * (g p1 4))) (((g o 2) * (g p1 4)) - ((g p1 3) * (g o 3)))) * (g o 3)))) o 1) + ((z_up (z_up g o 0 ((g o 0) + ((Int.tdiv (((g p1 3) * (g o 1)) - ((g o 0) * (g p1 4))) (((g o 2) * (g p1 4)) - ((g p1 3) * (g o 3)))) * (g o 2)))) o 1 ((g o 1) + ((Int.tdiv (((g p1 3) * (g o 1)) - ((g o 0) * (g p1 4))) (((g o 2) * (g p1 4)) - ((g p1 3) * (g o 3)))) * (g o 3)))) o 3))))) → Q 0 (z_up (z_up g o 0 ((g o 0) + ((Int.tdiv (((g p1 3) * (g o 1)) - ((g o 0) * (g p1 4))) (((g o 2) * (g p1 4)) - ((g p1 3) * (g o 3)))) * (g o 2)))) o 1 ((g o 1) + ((Int.tdiv (((g p1 3) * (g o 1)) - ((g o 0) * (g p1 4))) (((g o 2) * (g p1 4)) - ((g p1 3) * (g o 3)))) * (g o 3))))))))))))))))))))))))))) : L_Sp_squeeze_6 X N σ x3 o p1 p2 g Q := by
  refine z_iload_n (i := 3) 3 d_Sp_squeeze_6 rfl rfl ?_
  refine z_bipush (n := 100) d_Sp_squeeze_7 (by decide) (by decide) ?_
  refine z_icmp_ge (tgt := 246) d_Sp_squeeze_9 (by decide) (fun c1 => ?_) (fun c1 => ?_)
  · have h := h.1 c1
    exact z_vret d_Sp_squeeze_246 rfl (by decide) (by decide) ⟨rfl, rfl, h⟩
  · have h := h.2 c1
    refine z_aload_n (i := 1) (c := p1) 1 d_Sp_squeeze_12 rfl rfl rfl ?_
    refine z_geti (c := p1) (kI := 3) d_Sp_squeeze_13 fd_Ch_top fl_Sp_30 (Or.inl rfl) rfl rfl (ks_Ch_0 hp1) (kl_Ch_0 hp1) ?_
    refine z_aload_n (i := 1) (c := p1) 1 d_Sp_squeeze_16 rfl rfl rfl ?_
    refine z_geti (c := p1) (kI := 4) d_Sp_squeeze_17 fd_Ch_bottom fl_Sp_38 (Or.inl rfl) rfl rfl (ks_Ch_0 hp1) (kl_Ch_0 hp1) ?_
    refine z_aload_n (i := 0) (c := o) 0 d_Sp_squeeze_20 rfl rfl rfl ?_
    refine z_geti (c := o) (kI := 0) d_Sp_squeeze_21 fd_Sp_lowTop fl_Sp_14 (Or.inl rfl) rfl rfl (ks_Sp_0 ho) (kl_Sp_0 ho) ?_
    refine z_aload_n (i := 0) (c := o) 0 d_Sp_squeeze_24 rfl rfl rfl ?_
    refine z_geti (c := o) (kI := 1) d_Sp_squeeze_25 fd_Sp_lowBottom fl_Sp_18 (Or.inl rfl) rfl rfl (ks_Sp_0 ho) (kl_Sp_0 ho) ?_
    refine z_cSN (as := [(0, g p1 3), (0, g p1 4), (0, g o 0), (0, g o 1)]) (d' := 1) (st := []) d_Sp_squeeze_28 mi_F_cross nl_Sp_44 ms_F_cross rfl rfl rfl rfl rfl (b_F_cross_0  ?_)
    obtain ⟨c2, h⟩ := h
    refine ⟨c2, ?_⟩
    obtain ⟨c3, h⟩ := h
    refine ⟨c3, ?_⟩
    obtain ⟨c4, h⟩ := h
    refine ⟨c4, ?_⟩
    intro _
    show z_U X 2 m_Sp_squeeze 31 [(0, (2, ((o : Nat) : Int))), (1, (2, ((p1 : Nat) : Int))), (2, (2, ((p2 : Nat) : Int))), (3, (0, x3))] [(1, ((g p1 3) * (g o 1)) - ((g o 0) * (g p1 4)))] N σ g Q
    refine z_lstore (ls' := [(4, (1, ((g p1 3) * (g o 1)) - ((g o 0) * (g p1 4)))), (0, (2, ((o : Nat) : Int))), (1, (2, ((p1 : Nat) : Int))), (2, (2, ((p2 : Nat) : Int))), (3, (0, x3))]) d_Sp_squeeze_31 rfl rfl ?_
    refine z_aload_n (i := 0) (c := o) 1 d_Sp_squeeze_33 rfl rfl rfl ?_
    refine z_geti (c := o) (kI := 2) d_Sp_squeeze_34 fd_Sp_highTop fl_Sp_21 (Or.inl rfl) rfl rfl (ks_Sp_0 ho) (kl_Sp_0 ho) ?_
    refine z_aload_n (i := 0) (c := o) 1 d_Sp_squeeze_37 rfl rfl rfl ?_
    refine z_geti (c := o) (kI := 3) d_Sp_squeeze_38 fd_Sp_highBottom fl_Sp_24 (Or.inl rfl) rfl rfl (ks_Sp_0 ho) (kl_Sp_0 ho) ?_
    refine z_aload_n (i := 1) (c := p1) 2 d_Sp_squeeze_41 rfl rfl rfl ?_
    refine z_geti (c := p1) (kI := 3) d_Sp_squeeze_42 fd_Ch_top fl_Sp_30 (Or.inl rfl) rfl rfl (ks_Ch_0 hp1) (kl_Ch_0 hp1) ?_
    refine z_aload_n (i := 1) (c := p1) 2 d_Sp_squeeze_45 rfl rfl rfl ?_
    refine z_geti (c := p1) (kI := 4) d_Sp_squeeze_46 fd_Ch_bottom fl_Sp_38 (Or.inl rfl) rfl rfl (ks_Ch_0 hp1) (kl_Ch_0 hp1) ?_
    refine z_cSN (as := [(0, g o 2), (0, g o 3), (0, g p1 3), (0, g p1 4)]) (d' := 1) (st := []) d_Sp_squeeze_49 mi_F_cross nl_Sp_44 ms_F_cross rfl rfl rfl rfl rfl (b_F_cross_0  ?_)
    obtain ⟨c5, h⟩ := h
    refine ⟨c5, ?_⟩
    obtain ⟨c6, h⟩ := h
    refine ⟨c6, ?_⟩
    obtain ⟨c7, h⟩ := h
    refine ⟨c7, ?_⟩
    intro _
    show z_U X 2 m_Sp_squeeze 52 [(4, (1, ((g p1 3) * (g o 1)) - ((g o 0) * (g p1 4)))), (0, (2, ((o : Nat) : Int))), (1, (2, ((p1 : Nat) : Int))), (2, (2, ((p2 : Nat) : Int))), (3, (0, x3))] [(1, ((g o 2) * (g p1 4)) - ((g p1 3) * (g o 3)))] N σ g Q
    refine z_lstore (ls' := [(6, (1, ((g o 2) * (g p1 4)) - ((g p1 3) * (g o 3)))), (4, (1, ((g p1 3) * (g o 1)) - ((g o 0) * (g p1 4)))), (0, (2, ((o : Nat) : Int))), (1, (2, ((p1 : Nat) : Int))), (2, (2, ((p2 : Nat) : Int))), (3, (0, x3))]) d_Sp_squeeze_52 rfl rfl ?_
    refine z_lload 0 d_Sp_squeeze_54 rfl ?_
    refine z_lconst (v := 0) d_Sp_squeeze_56 (by decide) (by decide) ?_
    refine z_lcmp_le (tgt := 101) d_Sp_squeeze_57 d_Sp_squeeze_58 (by decide) (fun c8 => ?_) (fun c8 => ?_)
    · have h := h.1 c8
      refine z_aload_n (i := 0) (c := o) 2 d_Sp_squeeze_101 rfl rfl rfl ?_
      refine z_cV (c := o) (as := []) (d' := 1) (st := []) d_Sp_squeeze_102 mi_Sp_ownTop ml_Sp_55 mv_Sp_ownTop se_Sp_ownTop rfl rfl rfl rfl (ks_Sp_0 ho) rfl rfl (kl_Sp_0 ho) rfl rfl (b_Sp_ownTop_0 ho ?_)
      obtain ⟨c9, h⟩ := h
      refine ⟨c9, ?_⟩
      intro _
      show z_U X 2 m_Sp_squeeze 105 [(6, (1, ((g o 2) * (g p1 4)) - ((g p1 3) * (g o 3)))), (4, (1, ((g p1 3) * (g o 1)) - ((g o 0) * (g p1 4)))), (0, (2, ((o : Nat) : Int))), (1, (2, ((p1 : Nat) : Int))), (2, (2, ((p2 : Nat) : Int))), (3, (0, x3))] [(0, (g o 0) + (g o 2))] N σ g Q
      refine z_aload_n (i := 0) (c := o) 2 d_Sp_squeeze_105 rfl rfl rfl ?_
      refine z_cV (c := o) (as := []) (d' := 1) (st := [(0, (g o 0) + (g o 2))]) d_Sp_squeeze_106 mi_Sp_ownBottom ml_Sp_52 mv_Sp_ownBottom se_Sp_ownBottom rfl rfl rfl rfl (ks_Sp_0 ho) rfl rfl (kl_Sp_0 ho) rfl rfl (b_Sp_ownBottom_0 ho ?_)
      obtain ⟨c10, h⟩ := h
      refine ⟨c10, ?_⟩
      intro _
      show z_U X 2 m_Sp_squeeze 109 [(6, (1, ((g o 2) * (g p1 4)) - ((g p1 3) * (g o 3)))), (4, (1, ((g p1 3) * (g o 1)) - ((g o 0) * (g p1 4)))), (0, (2, ((o : Nat) : Int))), (1, (2, ((p1 : Nat) : Int))), (2, (2, ((p2 : Nat) : Int))), (3, (0, x3))] [(0, (g o 1) + (g o 3)), (0, (g o 0) + (g o 2))] N σ g Q
      refine z_aload_n (i := 2) (c := p2) 4 d_Sp_squeeze_109 rfl rfl rfl ?_
      refine z_geti (c := p2) (kI := 3) d_Sp_squeeze_110 fd_Ch_top fl_Sp_30 (Or.inl rfl) rfl rfl (ks_Ch_0 hp2) (kl_Ch_0 hp2) ?_
      refine z_aload_n (i := 2) (c := p2) 4 d_Sp_squeeze_113 rfl rfl rfl ?_
      refine z_geti (c := p2) (kI := 4) d_Sp_squeeze_114 fd_Ch_bottom fl_Sp_38 (Or.inl rfl) rfl rfl (ks_Ch_0 hp2) (kl_Ch_0 hp2) ?_
      refine z_cSN (as := [(0, (g o 0) + (g o 2)), (0, (g o 1) + (g o 3)), (0, g p2 3), (0, g p2 4)]) (d' := 1) (st := []) d_Sp_squeeze_117 mi_F_cross nl_Sp_44 ms_F_cross rfl rfl rfl rfl rfl (b_F_cross_0  ?_)
      obtain ⟨c11, h⟩ := h
      refine ⟨c11, ?_⟩
      obtain ⟨c12, h⟩ := h
      refine ⟨c12, ?_⟩
      obtain ⟨c13, h⟩ := h
      refine ⟨c13, ?_⟩
      intro _
      show z_U X 2 m_Sp_squeeze 120 [(6, (1, ((g o 2) * (g p1 4)) - ((g p1 3) * (g o 3)))), (4, (1, ((g p1 3) * (g o 1)) - ((g o 0) * (g p1 4)))), (0, (2, ((o : Nat) : Int))), (1, (2, ((p1 : Nat) : Int))), (2, (2, ((p2 : Nat) : Int))), (3, (0, x3))] [(1, (((g o 0) + (g o 2)) * (g p2 4)) - ((g p2 3) * ((g o 1) + (g o 3))))] N σ g Q
      refine z_lconst (v := 0) d_Sp_squeeze_120 (by decide) (by decide) ?_
      refine z_lcmp_ge (tgt := 126) d_Sp_squeeze_121 d_Sp_squeeze_122 (by decide) (fun c14 => ?_) (fun c14 => ?_)
      · have h := h.1 c14
        refine z_aload_n (i := 0) (c := o) 2 d_Sp_squeeze_126 rfl rfl rfl ?_
        refine z_geti (c := o) (kI := 2) d_Sp_squeeze_127 fd_Sp_highTop fl_Sp_21 (Or.inl rfl) rfl rfl (ks_Sp_0 ho) (kl_Sp_0 ho) ?_
        refine z_aload_n (i := 0) (c := o) 2 d_Sp_squeeze_130 rfl rfl rfl ?_
        refine z_geti (c := o) (kI := 3) d_Sp_squeeze_131 fd_Sp_highBottom fl_Sp_24 (Or.inl rfl) rfl rfl (ks_Sp_0 ho) (kl_Sp_0 ho) ?_
        refine z_aload_n (i := 2) (c := p2) 4 d_Sp_squeeze_134 rfl rfl rfl ?_
        refine z_geti (c := p2) (kI := 3) d_Sp_squeeze_135 fd_Ch_top fl_Sp_30 (Or.inl rfl) rfl rfl (ks_Ch_0 hp2) (kl_Ch_0 hp2) ?_
        refine z_aload_n (i := 2) (c := p2) 4 d_Sp_squeeze_138 rfl rfl rfl ?_
        refine z_geti (c := p2) (kI := 4) d_Sp_squeeze_139 fd_Ch_bottom fl_Sp_38 (Or.inl rfl) rfl rfl (ks_Ch_0 hp2) (kl_Ch_0 hp2) ?_
        refine z_cSN (as := [(0, g o 2), (0, g o 3), (0, g p2 3), (0, g p2 4)]) (d' := 1) (st := []) d_Sp_squeeze_142 mi_F_cross nl_Sp_44 ms_F_cross rfl rfl rfl rfl rfl (b_F_cross_0  ?_)
        obtain ⟨c15, h⟩ := h
        refine ⟨c15, ?_⟩
        obtain ⟨c16, h⟩ := h
        refine ⟨c16, ?_⟩
        obtain ⟨c17, h⟩ := h
        refine ⟨c17, ?_⟩
        intro _
        show z_U X 2 m_Sp_squeeze 145 [(6, (1, ((g o 2) * (g p1 4)) - ((g p1 3) * (g o 3)))), (4, (1, ((g p1 3) * (g o 1)) - ((g o 0) * (g p1 4)))), (0, (2, ((o : Nat) : Int))), (1, (2, ((p1 : Nat) : Int))), (2, (2, ((p2 : Nat) : Int))), (3, (0, x3))] [(1, ((g o 2) * (g p2 4)) - ((g p2 3) * (g o 3)))] N σ g Q
        refine z_lstore (ls' := [(8, (1, ((g o 2) * (g p2 4)) - ((g p2 3) * (g o 3)))), (6, (1, ((g o 2) * (g p1 4)) - ((g p1 3) * (g o 3)))), (4, (1, ((g p1 3) * (g o 1)) - ((g o 0) * (g p1 4)))), (0, (2, ((o : Nat) : Int))), (1, (2, ((p1 : Nat) : Int))), (2, (2, ((p2 : Nat) : Int))), (3, (0, x3))]) d_Sp_squeeze_145 rfl rfl ?_
        refine z_aload_n (i := 2) (c := p2) 5 d_Sp_squeeze_147 rfl rfl rfl ?_
        refine z_geti (c := p2) (kI := 3) d_Sp_squeeze_148 fd_Ch_top fl_Sp_30 (Or.inl rfl) rfl rfl (ks_Ch_0 hp2) (kl_Ch_0 hp2) ?_
        refine z_aload_n (i := 2) (c := p2) 5 d_Sp_squeeze_151 rfl rfl rfl ?_
        refine z_geti (c := p2) (kI := 4) d_Sp_squeeze_152 fd_Ch_bottom fl_Sp_38 (Or.inl rfl) rfl rfl (ks_Ch_0 hp2) (kl_Ch_0 hp2) ?_
        refine z_aload_n (i := 0) (c := o) 3 d_Sp_squeeze_155 rfl rfl rfl ?_
        refine z_geti (c := o) (kI := 0) d_Sp_squeeze_156 fd_Sp_lowTop fl_Sp_14 (Or.inl rfl) rfl rfl (ks_Sp_0 ho) (kl_Sp_0 ho) ?_
        refine z_aload_n (i := 0) (c := o) 3 d_Sp_squeeze_159 rfl rfl rfl ?_
        refine z_geti (c := o) (kI := 1) d_Sp_squeeze_160 fd_Sp_lowBottom fl_Sp_18 (Or.inl rfl) rfl rfl (ks_Sp_0 ho) (kl_Sp_0 ho) ?_
        refine z_cSN (as := [(0, g p2 3), (0, g p2 4), (0, g o 0), (0, g o 1)]) (d' := 1) (st := []) d_Sp_squeeze_163 mi_F_cross nl_Sp_44 ms_F_cross rfl rfl rfl rfl rfl (b_F_cross_0  ?_)
        obtain ⟨c18, h⟩ := h
        refine ⟨c18, ?_⟩
        obtain ⟨c19, h⟩ := h
        refine ⟨c19, ?_⟩
        obtain ⟨c20, h⟩ := h
        refine ⟨c20, ?_⟩
        intro _
        show z_U X 2 m_Sp_squeeze 166 [(8, (1, ((g o 2) * (g p2 4)) - ((g p2 3) * (g o 3)))), (6, (1, ((g o 2) * (g p1 4)) - ((g p1 3) * (g o 3)))), (4, (1, ((g p1 3) * (g o 1)) - ((g o 0) * (g p1 4)))), (0, (2, ((o : Nat) : Int))), (1, (2, ((p1 : Nat) : Int))), (2, (2, ((p2 : Nat) : Int))), (3, (0, x3))] [(1, ((g p2 3) * (g o 1)) - ((g o 0) * (g p2 4)))] N σ g Q
        refine z_lstore (ls' := [(10, (1, ((g p2 3) * (g o 1)) - ((g o 0) * (g p2 4)))), (8, (1, ((g o 2) * (g p2 4)) - ((g p2 3) * (g o 3)))), (6, (1, ((g o 2) * (g p1 4)) - ((g p1 3) * (g o 3)))), (4, (1, ((g p1 3) * (g o 1)) - ((g o 0) * (g p1 4)))), (0, (2, ((o : Nat) : Int))), (1, (2, ((p1 : Nat) : Int))), (2, (2, ((p2 : Nat) : Int))), (3, (0, x3))]) d_Sp_squeeze_166 rfl rfl ?_
        refine z_lload 0 d_Sp_squeeze_168 rfl ?_
        refine z_lconst (v := 0) d_Sp_squeeze_170 (by decide) (by decide) ?_
        refine z_lcmp_le (tgt := 215) d_Sp_squeeze_171 d_Sp_squeeze_172 (by decide) (fun c21 => ?_) (fun c21 => ?_)
        · have h := h.1 c21
          refine z_aload_n (i := 0) (c := o) 4 d_Sp_squeeze_215 rfl rfl rfl ?_
          refine z_cV (c := o) (as := []) (d' := 1) (st := []) d_Sp_squeeze_216 mi_Sp_ownTop ml_Sp_55 mv_Sp_ownTop se_Sp_ownTop rfl rfl rfl rfl (ks_Sp_0 ho) rfl rfl (kl_Sp_0 ho) rfl rfl (b_Sp_ownTop_0 ho ?_)
          refine ⟨c9, ?_⟩
          intro _
          show z_U X 2 m_Sp_squeeze 219 [(10, (1, ((g p2 3) * (g o 1)) - ((g o 0) * (g p2 4)))), (8, (1, ((g o 2) * (g p2 4)) - ((g p2 3) * (g o 3)))), (6, (1, ((g o 2) * (g p1 4)) - ((g p1 3) * (g o 3)))), (4, (1, ((g p1 3) * (g o 1)) - ((g o 0) * (g p1 4)))), (0, (2, ((o : Nat) : Int))), (1, (2, ((p1 : Nat) : Int))), (2, (2, ((p2 : Nat) : Int))), (3, (0, x3))] [(0, (g o 0) + (g o 2))] N σ g Q
          refine z_aload_n (i := 0) (c := o) 4 d_Sp_squeeze_219 rfl rfl rfl ?_
          refine z_cV (c := o) (as := []) (d' := 1) (st := [(0, (g o 0) + (g o 2))]) d_Sp_squeeze_220 mi_Sp_ownBottom ml_Sp_52 mv_Sp_ownBottom se_Sp_ownBottom rfl rfl rfl rfl (ks_Sp_0 ho) rfl rfl (kl_Sp_0 ho) rfl rfl (b_Sp_ownBottom_0 ho ?_)
          refine ⟨c10, ?_⟩
          intro _
          show z_U X 2 m_Sp_squeeze 223 [(10, (1, ((g p2 3) * (g o 1)) - ((g o 0) * (g p2 4)))), (8, (1, ((g o 2) * (g p2 4)) - ((g p2 3) * (g o 3)))), (6, (1, ((g o 2) * (g p1 4)) - ((g p1 3) * (g o 3)))), (4, (1, ((g p1 3) * (g o 1)) - ((g o 0) * (g p1 4)))), (0, (2, ((o : Nat) : Int))), (1, (2, ((p1 : Nat) : Int))), (2, (2, ((p2 : Nat) : Int))), (3, (0, x3))] [(0, (g o 1) + (g o 3)), (0, (g o 0) + (g o 2))] N σ g Q
          refine z_aload_n (i := 1) (c := p1) 5 d_Sp_squeeze_223 rfl rfl rfl ?_
          refine z_geti (c := p1) (kI := 3) d_Sp_squeeze_224 fd_Ch_top fl_Sp_30 (Or.inl rfl) rfl rfl (ks_Ch_0 hp1) (kl_Ch_0 hp1) ?_
          refine z_aload_n (i := 1) (c := p1) 5 d_Sp_squeeze_227 rfl rfl rfl ?_
          refine z_geti (c := p1) (kI := 4) d_Sp_squeeze_228 fd_Ch_bottom fl_Sp_38 (Or.inl rfl) rfl rfl (ks_Ch_0 hp1) (kl_Ch_0 hp1) ?_
          refine z_cSN (as := [(0, (g o 0) + (g o 2)), (0, (g o 1) + (g o 3)), (0, g p1 3), (0, g p1 4)]) (d' := 1) (st := []) d_Sp_squeeze_231 mi_F_cross nl_Sp_44 ms_F_cross rfl rfl rfl rfl rfl (b_F_cross_0  ?_)
          obtain ⟨c22, h⟩ := h
          refine ⟨c22, ?_⟩
          obtain ⟨c23, h⟩ := h
          refine ⟨c23, ?_⟩
          obtain ⟨c24, h⟩ := h
          refine ⟨c24, ?_⟩
          intro _
          show z_U X 2 m_Sp_squeeze 234 [(10, (1, ((g p2 3) * (g o 1)) - ((g o 0) * (g p2 4)))), (8, (1, ((g o 2) * (g p2 4)) - ((g p2 3) * (g o 3)))), (6, (1, ((g o 2) * (g p1 4)) - ((g p1 3) * (g o 3)))), (4, (1, ((g p1 3) * (g o 1)) - ((g o 0) * (g p1 4)))), (0, (2, ((o : Nat) : Int))), (1, (2, ((p1 : Nat) : Int))), (2, (2, ((p2 : Nat) : Int))), (3, (0, x3))] [(1, (((g o 0) + (g o 2)) * (g p1 4)) - ((g p1 3) * ((g o 1) + (g o 3))))] N σ g Q
          refine z_lconst (v := 0) d_Sp_squeeze_234 (by decide) (by decide) ?_
          refine z_lcmp_le (tgt := 240) d_Sp_squeeze_235 d_Sp_squeeze_236 (by decide) (fun c25 => ?_) (fun c25 => ?_)
          · have h := h.1 c25
            obtain ⟨c26, h⟩ := h
            refine z_iinc (n := 1) (ls' := [(3, (0, x3 + 1)), (10, (1, ((g p2 3) * (g o 1)) - ((g o 0) * (g p2 4)))), (8, (1, ((g o 2) * (g p2 4)) - ((g p2 3) * (g o 3)))), (6, (1, ((g o 2) * (g p1 4)) - ((g p1 3) * (g o 3)))), (4, (1, ((g p1 3) * (g o 1)) - ((g o 0) * (g p1 4)))), (0, (2, ((o : Nat) : Int))), (1, (2, ((p1 : Nat) : Int))), (2, (2, ((p2 : Nat) : Int)))]) 7 d_Sp_squeeze_240 rfl c26 rfl rfl ?_
            refine z_goto (tgt := 6) d_Sp_squeeze_243 (by decide) ?_
            refine z_sub (ls' := [(0, (2, ((o : Nat) : Int))), (1, (2, ((p1 : Nat) : Int))), (2, (2, ((p2 : Nat) : Int))), (3, (0, x3 + 1))]) [5, 6, 7, 0] rfl ?_
            exact h
          · have h := h.2 c25
            exact z_vret d_Sp_squeeze_239 rfl (by decide) (by decide) ⟨rfl, rfl, h⟩
        · have h := h.2 c21
          refine z_lload 1 d_Sp_squeeze_175 rfl ?_
          refine z_lload 0 d_Sp_squeeze_177 rfl ?_
          obtain ⟨c27, h⟩ := h
          refine z_ldiv d_Sp_squeeze_179 c27 ?_
          obtain ⟨c28, h⟩ := h
          refine z_l2i' d_Sp_squeeze_180 c28 ?_
          refine z_istore (ls' := [(12, (0, Int.tdiv (((g o 2) * (g p2 4)) - ((g p2 3) * (g o 3))) (((g p2 3) * (g o 1)) - ((g o 0) * (g p2 4))))), (10, (1, ((g p2 3) * (g o 1)) - ((g o 0) * (g p2 4)))), (8, (1, ((g o 2) * (g p2 4)) - ((g p2 3) * (g o 3)))), (6, (1, ((g o 2) * (g p1 4)) - ((g p1 3) * (g o 3)))), (4, (1, ((g p1 3) * (g o 1)) - ((g o 0) * (g p1 4)))), (0, (2, ((o : Nat) : Int))), (1, (2, ((p1 : Nat) : Int))), (2, (2, ((p2 : Nat) : Int))), (3, (0, x3))]) d_Sp_squeeze_181 rfl rfl ?_
          refine z_aload_n (i := 0) (c := o) 5 d_Sp_squeeze_183 rfl rfl rfl ?_
          refine z_dup d_Sp_squeeze_184 rfl ?_
          refine z_geti (c := o) (kI := 2) d_Sp_squeeze_185 fd_Sp_highTop fl_Sp_21 (Or.inl rfl) rfl rfl (ks_Sp_0 ho) (kl_Sp_0 ho) ?_
          refine z_iload 0 d_Sp_squeeze_188 rfl ?_
          refine z_aload_n (i := 0) (c := o) 5 d_Sp_squeeze_190 rfl rfl rfl ?_
          refine z_geti (c := o) (kI := 0) d_Sp_squeeze_191 fd_Sp_lowTop fl_Sp_14 (Or.inl rfl) rfl rfl (ks_Sp_0 ho) (kl_Sp_0 ho) ?_
          obtain ⟨c29, h⟩ := h
          refine z_imul d_Sp_squeeze_194 c29 ?_
          obtain ⟨c30, h⟩ := h
          refine z_iadd d_Sp_squeeze_195 c30 ?_
          refine z_puti (c := o) (kI := 2) d_Sp_squeeze_196 fd_Sp_highTop fl_Sp_21 pf_Sp_highTop rfl rfl rfl rfl (ks_Sp_0 ho) (kl_Sp_0 ho) ?_
          refine z_aload_n (i := 0) (c := o) 5 d_Sp_squeeze_199 rfl rfl rfl ?_
          refine z_dup d_Sp_squeeze_200 rfl ?_
          refine z_geti (c := o) (kI := 3) d_Sp_squeeze_201 fd_Sp_highBottom fl_Sp_24 (Or.inl rfl) rfl rfl (ks_Sp_0 ho) (kl_Sp_0 ho) ?_
          refine z_ti (b := g o 3) (by simp [z_up]) ?_
          refine z_iload 0 d_Sp_squeeze_204 rfl ?_
          refine z_aload_n (i := 0) (c := o) 5 d_Sp_squeeze_206 rfl rfl rfl ?_
          refine z_geti (c := o) (kI := 1) d_Sp_squeeze_207 fd_Sp_lowBottom fl_Sp_18 (Or.inl rfl) rfl rfl (ks_Sp_0 ho) (kl_Sp_0 ho) ?_
          refine z_ti (b := g o 1) (by simp [z_up]) ?_
          obtain ⟨c31, h⟩ := h
          refine z_imul d_Sp_squeeze_210 c31 ?_
          obtain ⟨c32, h⟩ := h
          refine z_iadd d_Sp_squeeze_211 c32 ?_
          refine z_puti (c := o) (kI := 3) d_Sp_squeeze_212 fd_Sp_highBottom fl_Sp_24 pf_Sp_highBottom rfl rfl rfl rfl (ks_Sp_0 ho) (kl_Sp_0 ho) ?_
          refine z_aload_n (i := 0) (c := o) 5 d_Sp_squeeze_215 rfl rfl rfl ?_
          refine z_cV (c := o) (as := []) (d' := 1) (st := []) d_Sp_squeeze_216 mi_Sp_ownTop ml_Sp_55 mv_Sp_ownTop se_Sp_ownTop rfl rfl rfl rfl (ks_Sp_0 ho) rfl rfl (kl_Sp_0 ho) rfl rfl (b_Sp_ownTop_0 ho ?_)
          obtain ⟨c33, h⟩ := h
          refine ⟨c33, ?_⟩
          intro _
          show z_U X 2 m_Sp_squeeze 219 [(12, (0, Int.tdiv (((g o 2) * (g p2 4)) - ((g p2 3) * (g o 3))) (((g p2 3) * (g o 1)) - ((g o 0) * (g p2 4))))), (10, (1, ((g p2 3) * (g o 1)) - ((g o 0) * (g p2 4)))), (8, (1, ((g o 2) * (g p2 4)) - ((g p2 3) * (g o 3)))), (6, (1, ((g o 2) * (g p1 4)) - ((g p1 3) * (g o 3)))), (4, (1, ((g p1 3) * (g o 1)) - ((g o 0) * (g p1 4)))), (0, (2, ((o : Nat) : Int))), (1, (2, ((p1 : Nat) : Int))), (2, (2, ((p2 : Nat) : Int))), (3, (0, x3))] [(0, ((z_up (z_up g o 2 ((g o 2) + ((Int.tdiv (((g o 2) * (g p2 4)) - ((g p2 3) * (g o 3))) (((g p2 3) * (g o 1)) - ((g o 0) * (g p2 4)))) * (g o 0)))) o 3 ((g o 3) + ((Int.tdiv (((g o 2) * (g p2 4)) - ((g p2 3) * (g o 3))) (((g p2 3) * (g o 1)) - ((g o 0) * (g p2 4)))) * (g o 1)))) o 0) + ((z_up (z_up g o 2 ((g o 2) + ((Int.tdiv (((g o 2) * (g p2 4)) - ((g p2 3) * (g o 3))) (((g p2 3) * (g o 1)) - ((g o 0) * (g p2 4)))) * (g o 0)))) o 3 ((g o 3) + ((Int.tdiv (((g o 2) * (g p2 4)) - ((g p2 3) * (g o 3))) (((g p2 3) * (g o 1)) - ((g o 0) * (g p2 4)))) * (g o 1)))) o 2))] N σ (z_up (z_up g o 2 ((g o 2) + ((Int.tdiv (((g o 2) * (g p2 4)) - ((g p2 3) * (g o 3))) (((g p2 3) * (g o 1)) - ((g o 0) * (g p2 4)))) * (g o 0)))) o 3 ((g o 3) + ((Int.tdiv (((g o 2) * (g p2 4)) - ((g p2 3) * (g o 3))) (((g p2 3) * (g o 1)) - ((g o 0) * (g p2 4)))) * (g o 1)))) Q
          refine z_aload_n (i := 0) (c := o) 5 d_Sp_squeeze_219 rfl rfl rfl ?_
          refine z_cV (c := o) (as := []) (d' := 1) (st := [(0, ((z_up (z_up g o 2 ((g o 2) + ((Int.tdiv (((g o 2) * (g p2 4)) - ((g p2 3) * (g o 3))) (((g p2 3) * (g o 1)) - ((g o 0) * (g p2 4)))) * (g o 0)))) o 3 ((g o 3) + ((Int.tdiv (((g o 2) * (g p2 4)) - ((g p2 3) * (g o 3))) (((g p2 3) * (g o 1)) - ((g o 0) * (g p2 4)))) * (g o 1)))) o 0) + ((z_up (z_up g o 2 ((g o 2) + ((Int.tdiv (((g o 2) * (g p2 4)) - ((g p2 3) * (g o 3))) (((g p2 3) * (g o 1)) - ((g o 0) * (g p2 4)))) * (g o 0)))) o 3 ((g o 3) + ((Int.tdiv (((g o 2) * (g p2 4)) - ((g p2 3) * (g o 3))) (((g p2 3) * (g o 1)) - ((g o 0) * (g p2 4)))) * (g o 1)))) o 2))]) d_Sp_squeeze_220 mi_Sp_ownBottom ml_Sp_52 mv_Sp_ownBottom se_Sp_ownBottom rfl rfl rfl rfl (ks_Sp_0 ho) rfl rfl (kl_Sp_0 ho) rfl rfl (b_Sp_ownBottom_0 ho ?_)
          obtain ⟨c34, h⟩ := h
          refine ⟨c34, ?_⟩
          intro _
          show z_U X 2 m_Sp_squeeze 223 [(12, (0, Int.tdiv (((g o 2) * (g p2 4)) - ((g p2 3) * (g o 3))) (((g p2 3) * (g o 1)) - ((g o 0) * (g p2 4))))), (10, (1, ((g p2 3) * (g o 1)) - ((g o 0) * (g p2 4)))), (8, (1, ((g o 2) * (g p2 4)) - ((g p2 3) * (g o 3)))), (6, (1, ((g o 2) * (g p1 4)) - ((g p1 3) * (g o 3)))), (4, (1, ((g p1 3) * (g o 1)) - ((g o 0) * (g p1 4)))), (0, (2, ((o : Nat) : Int))), (1, (2, ((p1 : Nat) : Int))), (2, (2, ((p2 : Nat) : Int))), (3, (0, x3))] [(0, ((z_up (z_up g o 2 ((g o 2) + ((Int.tdiv (((g o 2) * (g p2 4)) - ((g p2 3) * (g o 3))) (((g p2 3) * (g o 1)) - ((g o 0) * (g p2 4)))) * (g o 0)))) o 3 ((g o 3) + ((Int.tdiv (((g o 2) * (g p2 4)) - ((g p2 3) * (g o 3))) (((g p2 3) * (g o 1)) - ((g o 0) * (g p2 4)))) * (g o 1)))) o 1) + ((z_up (z_up g o 2 ((g o 2) + ((Int.tdiv (((g o 2) * (g p2 4)) - ((g p2 3) * (g o 3))) (((g p2 3) * (g o 1)) - ((g o 0) * (g p2 4)))) * (g o 0)))) o 3 ((g o 3) + ((Int.tdiv (((g o 2) * (g p2 4)) - ((g p2 3) * (g o 3))) (((g p2 3) * (g o 1)) - ((g o 0) * (g p2 4)))) * (g o 1)))) o 3)), (0, ((z_up (z_up g o 2 ((g o 2) + ((Int.tdiv (((g o 2) * (g p2 4)) - ((g p2 3) * (g o 3))) (((g p2 3) * (g o 1)) - ((g o 0) * (g p2 4)))) * (g o 0)))) o 3 ((g o 3) + ((Int.tdiv (((g o 2) * (g p2 4)) - ((g p2 3) * (g o 3))) (((g p2 3) * (g o 1)) - ((g o 0) * (g p2 4)))) * (g o 1)))) o 0) + ((z_up (z_up g o 2 ((g o 2) + ((Int.tdiv (((g o 2) * (g p2 4)) - ((g p2 3) * (g o 3))) (((g p2 3) * (g o 1)) - ((g o 0) * (g p2 4)))) * (g o 0)))) o 3 ((g o 3) + ((Int.tdiv (((g o 2) * (g p2 4)) - ((g p2 3) * (g o 3))) (((g p2 3) * (g o 1)) - ((g o 0) * (g p2 4)))) * (g o 1)))) o 2))] N σ (z_up (z_up g o 2 ((g o 2) + ((Int.tdiv (((g o 2) * (g p2 4)) - ((g p2 3) * (g o 3))) (((g p2 3) * (g o 1)) - ((g o 0) * (g p2 4)))) * (g o 0)))) o 3 ((g o 3) + ((Int.tdiv (((g o 2) * (g p2 4)) - ((g p2 3) * (g o 3))) (((g p2 3) * (g o 1)) - ((g o 0) * (g p2 4)))) * (g o 1)))) Q
          refine z_aload_n (i := 1) (c := p1) 6 d_Sp_squeeze_223 rfl rfl rfl ?_
          refine z_geti (c := p1) (kI := 3) d_Sp_squeeze_224 fd_Ch_top fl_Sp_30 (Or.inl rfl) rfl rfl (ks_Ch_0 hp1) (kl_Ch_0 hp1) ?_
          refine z_aload_n (i := 1) (c := p1) 6 d_Sp_squeeze_227 rfl rfl rfl ?_
          refine z_geti (c := p1) (kI := 4) d_Sp_squeeze_228 fd_Ch_bottom fl_Sp_38 (Or.inl rfl) rfl rfl (ks_Ch_0 hp1) (kl_Ch_0 hp1) ?_
          refine z_cSN (as := [(0, ((z_up (z_up g o 2 ((g o 2) + ((Int.tdiv (((g o 2) * (g p2 4)) - ((g p2 3) * (g o 3))) (((g p2 3) * (g o 1)) - ((g o 0) * (g p2 4)))) * (g o 0)))) o 3 ((g o 3) + ((Int.tdiv (((g o 2) * (g p2 4)) - ((g p2 3) * (g o 3))) (((g p2 3) * (g o 1)) - ((g o 0) * (g p2 4)))) * (g o 1)))) o 0) + ((z_up (z_up g o 2 ((g o 2) + ((Int.tdiv (((g o 2) * (g p2 4)) - ((g p2 3) * (g o 3))) (((g p2 3) * (g o 1)) - ((g o 0) * (g p2 4)))) * (g o 0)))) o 3 ((g o 3) + ((Int.tdiv (((g o 2) * (g p2 4)) - ((g p2 3) * (g o 3))) (((g p2 3) * (g o 1)) - ((g o 0) * (g p2 4)))) * (g o 1)))) o 2)), (0, ((z_up (z_up g o 2 ((g o 2) + ((Int.tdiv (((g o 2) * (g p2 4)) - ((g p2 3) * (g o 3))) (((g p2 3) * (g o 1)) - ((g o 0) * (g p2 4)))) * (g o 0)))) o 3 ((g o 3) + ((Int.tdiv (((g o 2) * (g p2 4)) - ((g p2 3) * (g o 3))) (((g p2 3) * (g o 1)) - ((g o 0) * (g p2 4)))) * (g o 1)))) o 1) + ((z_up (z_up g o 2 ((g o 2) + ((Int.tdiv (((g o 2) * (g p2 4)) - ((g p2 3) * (g o 3))) (((g p2 3) * (g o 1)) - ((g o 0) * (g p2 4)))) * (g o 0)))) o 3 ((g o 3) + ((Int.tdiv (((g o 2) * (g p2 4)) - ((g p2 3) * (g o 3))) (((g p2 3) * (g o 1)) - ((g o 0) * (g p2 4)))) * (g o 1)))) o 3)), (0, (z_up (z_up g o 2 ((g o 2) + ((Int.tdiv (((g o 2) * (g p2 4)) - ((g p2 3) * (g o 3))) (((g p2 3) * (g o 1)) - ((g o 0) * (g p2 4)))) * (g o 0)))) o 3 ((g o 3) + ((Int.tdiv (((g o 2) * (g p2 4)) - ((g p2 3) * (g o 3))) (((g p2 3) * (g o 1)) - ((g o 0) * (g p2 4)))) * (g o 1)))) p1 3), (0, (z_up (z_up g o 2 ((g o 2) + ((Int.tdiv (((g o 2) * (g p2 4)) - ((g p2 3) * (g o 3))) (((g p2 3) * (g o 1)) - ((g o 0) * (g p2 4)))) * (g o 0)))) o 3 ((g o 3) + ((Int.tdiv (((g o 2) * (g p2 4)) - ((g p2 3) * (g o 3))) (((g p2 3) * (g o 1)) - ((g o 0) * (g p2 4)))) * (g o 1)))) p1 4)]) (d' := 1) (st := []) d_Sp_squeeze_231 mi_F_cross nl_Sp_44 ms_F_cross rfl rfl rfl rfl rfl (b_F_cross_0  ?_)
          obtain ⟨c35, h⟩ := h
          refine ⟨c35, ?_⟩
          obtain ⟨c36, h⟩ := h
          refine ⟨c36, ?_⟩
          obtain ⟨c37, h⟩ := h
          refine ⟨c37, ?_⟩
          intro _
          show z_U X 2 m_Sp_squeeze 234 [(12, (0, Int.tdiv (((g o 2) * (g p2 4)) - ((g p2 3) * (g o 3))) (((g p2 3) * (g o 1)) - ((g o 0) * (g p2 4))))), (10, (1, ((g p2 3) * (g o 1)) - ((g o 0) * (g p2 4)))), (8, (1, ((g o 2) * (g p2 4)) - ((g p2 3) * (g o 3)))), (6, (1, ((g o 2) * (g p1 4)) - ((g p1 3) * (g o 3)))), (4, (1, ((g p1 3) * (g o 1)) - ((g o 0) * (g p1 4)))), (0, (2, ((o : Nat) : Int))), (1, (2, ((p1 : Nat) : Int))), (2, (2, ((p2 : Nat) : Int))), (3, (0, x3))] [(1, ((((z_up (z_up g o 2 ((g o 2) + ((Int.tdiv (((g o 2) * (g p2 4)) - ((g p2 3) * (g o 3))) (((g p2 3) * (g o 1)) - ((g o 0) * (g p2 4)))) * (g o 0)))) o 3 ((g o 3) + ((Int.tdiv (((g o 2) * (g p2 4)) - ((g p2 3) * (g o 3))) (((g p2 3) * (g o 1)) - ((g o 0) * (g p2 4)))) * (g o 1)))) o 0) + ((z_up (z_up g o 2 ((g o 2) + ((Int.tdiv (((g o 2) * (g p2 4)) - ((g p2 3) * (g o 3))) (((g p2 3) * (g o 1)) - ((g o 0) * (g p2 4)))) * (g o 0)))) o 3 ((g o 3) + ((Int.tdiv (((g o 2) * (g p2 4)) - ((g p2 3) * (g o 3))) (((g p2 3) * (g o 1)) - ((g o 0) * (g p2 4)))) * (g o 1)))) o 2)) * ((z_up (z_up g o 2 ((g o 2) + ((Int.tdiv (((g o 2) * (g p2 4)) - ((g p2 3) * (g o 3))) (((g p2 3) * (g o 1)) - ((g o 0) * (g p2 4)))) * (g o 0)))) o 3 ((g o 3) + ((Int.tdiv (((g o 2) * (g p2 4)) - ((g p2 3) * (g o 3))) (((g p2 3) * (g o 1)) - ((g o 0) * (g p2 4)))) * (g o 1)))) p1 4)) - (((z_up (z_up g o 2 ((g o 2) + ((Int.tdiv (((g o 2) * (g p2 4)) - ((g p2 3) * (g o 3))) (((g p2 3) * (g o 1)) - ((g o 0) * (g p2 4)))) * (g o 0)))) o 3 ((g o 3) + ((Int.tdiv (((g o 2) * (g p2 4)) - ((g p2 3) * (g o 3))) (((g p2 3) * (g o 1)) - ((g o 0) * (g p2 4)))) * (g o 1)))) p1 3) * (((z_up (z_up g o 2 ((g o 2) + ((Int.tdiv (((g o 2) * (g p2 4)) - ((g p2 3) * (g o 3))) (((g p2 3) * (g o 1)) - ((g o 0) * (g p2 4)))) * (g o 0)))) o 3 ((g o 3) + ((Int.tdiv (((g o 2) * (g p2 4)) - ((g p2 3) * (g o 3))) (((g p2 3) * (g o 1)) - ((g o 0) * (g p2 4)))) * (g o 1)))) o 1) + ((z_up (z_up g o 2 ((g o 2) + ((Int.tdiv (((g o 2) * (g p2 4)) - ((g p2 3) * (g o 3))) (((g p2 3) * (g o 1)) - ((g o 0) * (g p2 4)))) * (g o 0)))) o 3 ((g o 3) + ((Int.tdiv (((g o 2) * (g p2 4)) - ((g p2 3) * (g o 3))) (((g p2 3) * (g o 1)) - ((g o 0) * (g p2 4)))) * (g o 1)))) o 3))))] N σ (z_up (z_up g o 2 ((g o 2) + ((Int.tdiv (((g o 2) * (g p2 4)) - ((g p2 3) * (g o 3))) (((g p2 3) * (g o 1)) - ((g o 0) * (g p2 4)))) * (g o 0)))) o 3 ((g o 3) + ((Int.tdiv (((g o 2) * (g p2 4)) - ((g p2 3) * (g o 3))) (((g p2 3) * (g o 1)) - ((g o 0) * (g p2 4)))) * (g o 1)))) Q
          refine z_lconst (v := 0) d_Sp_squeeze_234 (by decide) (by decide) ?_
          refine z_lcmp_le (tgt := 240) d_Sp_squeeze_235 d_Sp_squeeze_236 (by decide) (fun c38 => ?_) (fun c38 => ?_)
          · have h := h.1 c38
            obtain ⟨c39, h⟩ := h
            refine z_iinc (n := 1) (ls' := [(3, (0, x3 + 1)), (12, (0, Int.tdiv (((g o 2) * (g p2 4)) - ((g p2 3) * (g o 3))) (((g p2 3) * (g o 1)) - ((g o 0) * (g p2 4))))), (10, (1, ((g p2 3) * (g o 1)) - ((g o 0) * (g p2 4)))), (8, (1, ((g o 2) * (g p2 4)) - ((g p2 3) * (g o 3)))), (6, (1, ((g o 2) * (g p1 4)) - ((g p1 3) * (g o 3)))), (4, (1, ((g p1 3) * (g o 1)) - ((g o 0) * (g p1 4)))), (0, (2, ((o : Nat) : Int))), (1, (2, ((p1 : Nat) : Int))), (2, (2, ((p2 : Nat) : Int)))]) 8 d_Sp_squeeze_240 rfl c39 rfl rfl ?_
            refine z_goto (tgt := 6) d_Sp_squeeze_243 (by decide) ?_
            refine z_sub (ls' := [(0, (2, ((o : Nat) : Int))), (1, (2, ((p1 : Nat) : Int))), (2, (2, ((p2 : Nat) : Int))), (3, (0, x3 + 1))]) [6, 7, 8, 0] rfl ?_
            exact h
          · have h := h.2 c38
            exact z_vret d_Sp_squeeze_239 rfl (by decide) (by decide) ⟨rfl, rfl, h⟩
      · have h := h.2 c14
        exact z_vret d_Sp_squeeze_125 rfl (by decide) (by decide) ⟨rfl, rfl, h⟩
    · have h := h.2 c8
      refine z_lload 1 d_Sp_squeeze_61 rfl ?_
      refine z_lload 0 d_Sp_squeeze_63 rfl ?_
      obtain ⟨c40, h⟩ := h
      refine z_ldiv d_Sp_squeeze_65 c40 ?_
      obtain ⟨c41, h⟩ := h
      refine z_l2i' d_Sp_squeeze_66 c41 ?_
      refine z_istore (ls' := [(8, (0, Int.tdiv (((g p1 3) * (g o 1)) - ((g o 0) * (g p1 4))) (((g o 2) * (g p1 4)) - ((g p1 3) * (g o 3))))), (6, (1, ((g o 2) * (g p1 4)) - ((g p1 3) * (g o 3)))), (4, (1, ((g p1 3) * (g o 1)) - ((g o 0) * (g p1 4)))), (0, (2, ((o : Nat) : Int))), (1, (2, ((p1 : Nat) : Int))), (2, (2, ((p2 : Nat) : Int))), (3, (0, x3))]) d_Sp_squeeze_67 rfl rfl ?_
      refine z_aload_n (i := 0) (c := o) 3 d_Sp_squeeze_69 rfl rfl rfl ?_
      refine z_dup d_Sp_squeeze_70 rfl ?_
      refine z_geti (c := o) (kI := 0) d_Sp_squeeze_71 fd_Sp_lowTop fl_Sp_14 (Or.inl rfl) rfl rfl (ks_Sp_0 ho) (kl_Sp_0 ho) ?_
      refine z_iload 0 d_Sp_squeeze_74 rfl ?_
      refine z_aload_n (i := 0) (c := o) 3 d_Sp_squeeze_76 rfl rfl rfl ?_
      refine z_geti (c := o) (kI := 2) d_Sp_squeeze_77 fd_Sp_highTop fl_Sp_21 (Or.inl rfl) rfl rfl (ks_Sp_0 ho) (kl_Sp_0 ho) ?_
      obtain ⟨c42, h⟩ := h
      refine z_imul d_Sp_squeeze_80 c42 ?_
      obtain ⟨c43, h⟩ := h
      refine z_iadd d_Sp_squeeze_81 c43 ?_
      refine z_puti (c := o) (kI := 0) d_Sp_squeeze_82 fd_Sp_lowTop fl_Sp_14 pf_Sp_lowTop rfl rfl rfl rfl (ks_Sp_0 ho) (kl_Sp_0 ho) ?_
      refine z_aload_n (i := 0) (c := o) 3 d_Sp_squeeze_85 rfl rfl rfl ?_
      refine z_dup d_Sp_squeeze_86 rfl ?_
      refine z_geti (c := o) (kI := 1) d_Sp_squeeze_87 fd_Sp_lowBottom fl_Sp_18 (Or.inl rfl) rfl rfl (ks_Sp_0 ho) (kl_Sp_0 ho) ?_
      refine z_ti (b := g o 1) (by simp [z_up]) ?_
      refine z_iload 0 d_Sp_squeeze_90 rfl ?_
      refine z_aload_n (i := 0) (c := o) 3 d_Sp_squeeze_92 rfl rfl rfl ?_
      refine z_geti (c := o) (kI := 3) d_Sp_squeeze_93 fd_Sp_highBottom fl_Sp_24 (Or.inl rfl) rfl rfl (ks_Sp_0 ho) (kl_Sp_0 ho) ?_
      refine z_ti (b := g o 3) (by simp [z_up]) ?_
      obtain ⟨c44, h⟩ := h
      refine z_imul d_Sp_squeeze_96 c44 ?_
      obtain ⟨c45, h⟩ := h
      refine z_iadd d_Sp_squeeze_97 c45 ?_
      refine z_puti (c := o) (kI := 1) d_Sp_squeeze_98 fd_Sp_lowBottom fl_Sp_18 pf_Sp_lowBottom rfl rfl rfl rfl (ks_Sp_0 ho) (kl_Sp_0 ho) ?_
      refine z_aload_n (i := 0) (c := o) 3 d_Sp_squeeze_101 rfl rfl rfl ?_
      refine z_cV (c := o) (as := []) (d' := 1) (st := []) d_Sp_squeeze_102 mi_Sp_ownTop ml_Sp_55 mv_Sp_ownTop se_Sp_ownTop rfl rfl rfl rfl (ks_Sp_0 ho) rfl rfl (kl_Sp_0 ho) rfl rfl (b_Sp_ownTop_0 ho ?_)
      obtain ⟨c46, h⟩ := h
      refine ⟨c46, ?_⟩
      intro _
      show z_U X 2 m_Sp_squeeze 105 [(8, (0, Int.tdiv (((g p1 3) * (g o 1)) - ((g o 0) * (g p1 4))) (((g o 2) * (g p1 4)) - ((g p1 3) * (g o 3))))), (6, (1, ((g o 2) * (g p1 4)) - ((g p1 3) * (g o 3)))), (4, (1, ((g p1 3) * (g o 1)) - ((g o 0) * (g p1 4)))), (0, (2, ((o : Nat) : Int))), (1, (2, ((p1 : Nat) : Int))), (2, (2, ((p2 : Nat) : Int))), (3, (0, x3))] [(0, ((z_up (z_up g o 0 ((g o 0) + ((Int.tdiv (((g p1 3) * (g o 1)) - ((g o 0) * (g p1 4))) (((g o 2) * (g p1 4)) - ((g p1 3) * (g o 3)))) * (g o 2)))) o 1 ((g o 1) + ((Int.tdiv (((g p1 3) * (g o 1)) - ((g o 0) * (g p1 4))) (((g o 2) * (g p1 4)) - ((g p1 3) * (g o 3)))) * (g o 3)))) o 0) + ((z_up (z_up g o 0 ((g o 0) + ((Int.tdiv (((g p1 3) * (g o 1)) - ((g o 0) * (g p1 4))) (((g o 2) * (g p1 4)) - ((g p1 3) * (g o 3)))) * (g o 2)))) o 1 ((g o 1) + ((Int.tdiv (((g p1 3) * (g o 1)) - ((g o 0) * (g p1 4))) (((g o 2) * (g p1 4)) - ((g p1 3) * (g o 3)))) * (g o 3)))) o 2))] N σ (z_up (z_up g o 0 ((g o 0) + ((Int.tdiv (((g p1 3) * (g o 1)) - ((g o 0) * (g p1 4))) (((g o 2) * (g p1 4)) - ((g p1 3) * (g o 3)))) * (g o 2)))) o 1 ((g o 1) + ((Int.tdiv (((g p1 3) * (g o 1)) - ((g o 0) * (g p1 4))) (((g o 2) * (g p1 4)) - ((g p1 3) * (g o 3)))) * (g o 3)))) Q
      refine z_aload_n (i := 0) (c := o) 3 d_Sp_squeeze_105 rfl rfl rfl ?_
      refine z_cV (c := o) (as := []) (d' := 1) (st := [(0, ((z_up (z_up g o 0 ((g o 0) + ((Int.tdiv (((g p1 3) * (g o 1)) - ((g o 0) * (g p1 4))) (((g o 2) * (g p1 4)) - ((g p1 3) * (g o 3)))) * (g o 2)))) o 1 ((g o 1) + ((Int.tdiv (((g p1 3) * (g o 1)) - ((g o 0) * (g p1 4))) (((g o 2) * (g p1 4)) - ((g p1 3) * (g o 3)))) * (g o 3)))) o 0) + ((z_up (z_up g o 0 ((g o 0) + ((Int.tdiv (((g p1 3) * (g o 1)) - ((g o 0) * (g p1 4))) (((g o 2) * (g p1 4)) - ((g p1 3) * (g o 3)))) * (g o 2)))) o 1 ((g o 1) + ((Int.tdiv (((g p1 3) * (g o 1)) - ((g o 0) * (g p1 4))) (((g o 2) * (g p1 4)) - ((g p1 3) * (g o 3)))) * (g o 3)))) o 2))]) d_Sp_squeeze_106 mi_Sp_ownBottom ml_Sp_52 mv_Sp_ownBottom se_Sp_ownBottom rfl rfl rfl rfl (ks_Sp_0 ho) rfl rfl (kl_Sp_0 ho) rfl rfl (b_Sp_ownBottom_0 ho ?_)
      obtain ⟨c47, h⟩ := h
      refine ⟨c47, ?_⟩
      intro _
      show z_U X 2 m_Sp_squeeze 109 [(8, (0, Int.tdiv (((g p1 3) * (g o 1)) - ((g o 0) * (g p1 4))) (((g o 2) * (g p1 4)) - ((g p1 3) * (g o 3))))), (6, (1, ((g o 2) * (g p1 4)) - ((g p1 3) * (g o 3)))), (4, (1, ((g p1 3) * (g o 1)) - ((g o 0) * (g p1 4)))), (0, (2, ((o : Nat) : Int))), (1, (2, ((p1 : Nat) : Int))), (2, (2, ((p2 : Nat) : Int))), (3, (0, x3))] [(0, ((z_up (z_up g o 0 ((g o 0) + ((Int.tdiv (((g p1 3) * (g o 1)) - ((g o 0) * (g p1 4))) (((g o 2) * (g p1 4)) - ((g p1 3) * (g o 3)))) * (g o 2)))) o 1 ((g o 1) + ((Int.tdiv (((g p1 3) * (g o 1)) - ((g o 0) * (g p1 4))) (((g o 2) * (g p1 4)) - ((g p1 3) * (g o 3)))) * (g o 3)))) o 1) + ((z_up (z_up g o 0 ((g o 0) + ((Int.tdiv (((g p1 3) * (g o 1)) - ((g o 0) * (g p1 4))) (((g o 2) * (g p1 4)) - ((g p1 3) * (g o 3)))) * (g o 2)))) o 1 ((g o 1) + ((Int.tdiv (((g p1 3) * (g o 1)) - ((g o 0) * (g p1 4))) (((g o 2) * (g p1 4)) - ((g p1 3) * (g o 3)))) * (g o 3)))) o 3)), (0, ((z_up (z_up g o 0 ((g o 0) + ((Int.tdiv (((g p1 3) * (g o 1)) - ((g o 0) * (g p1 4))) (((g o 2) * (g p1 4)) - ((g p1 3) * (g o 3)))) * (g o 2)))) o 1 ((g o 1) + ((Int.tdiv (((g p1 3) * (g o 1)) - ((g o 0) * (g p1 4))) (((g o 2) * (g p1 4)) - ((g p1 3) * (g o 3)))) * (g o 3)))) o 0) + ((z_up (z_up g o 0 ((g o 0) + ((Int.tdiv (((g p1 3) * (g o 1)) - ((g o 0) * (g p1 4))) (((g o 2) * (g p1 4)) - ((g p1 3) * (g o 3)))) * (g o 2)))) o 1 ((g o 1) + ((Int.tdiv (((g p1 3) * (g o 1)) - ((g o 0) * (g p1 4))) (((g o 2) * (g p1 4)) - ((g p1 3) * (g o 3)))) * (g o 3)))) o 2))] N σ (z_up (z_up g o 0 ((g o 0) + ((Int.tdiv (((g p1 3) * (g o 1)) - ((g o 0) * (g p1 4))) (((g o 2) * (g p1 4)) - ((g p1 3) * (g o 3)))) * (g o 2)))) o 1 ((g o 1) + ((Int.tdiv (((g p1 3) * (g o 1)) - ((g o 0) * (g p1 4))) (((g o 2) * (g p1 4)) - ((g p1 3) * (g o 3)))) * (g o 3)))) Q
      refine z_aload_n (i := 2) (c := p2) 5 d_Sp_squeeze_109 rfl rfl rfl ?_
      refine z_geti (c := p2) (kI := 3) d_Sp_squeeze_110 fd_Ch_top fl_Sp_30 (Or.inl rfl) rfl rfl (ks_Ch_0 hp2) (kl_Ch_0 hp2) ?_
      refine z_aload_n (i := 2) (c := p2) 5 d_Sp_squeeze_113 rfl rfl rfl ?_
      refine z_geti (c := p2) (kI := 4) d_Sp_squeeze_114 fd_Ch_bottom fl_Sp_38 (Or.inl rfl) rfl rfl (ks_Ch_0 hp2) (kl_Ch_0 hp2) ?_
      refine z_cSN (as := [(0, ((z_up (z_up g o 0 ((g o 0) + ((Int.tdiv (((g p1 3) * (g o 1)) - ((g o 0) * (g p1 4))) (((g o 2) * (g p1 4)) - ((g p1 3) * (g o 3)))) * (g o 2)))) o 1 ((g o 1) + ((Int.tdiv (((g p1 3) * (g o 1)) - ((g o 0) * (g p1 4))) (((g o 2) * (g p1 4)) - ((g p1 3) * (g o 3)))) * (g o 3)))) o 0) + ((z_up (z_up g o 0 ((g o 0) + ((Int.tdiv (((g p1 3) * (g o 1)) - ((g o 0) * (g p1 4))) (((g o 2) * (g p1 4)) - ((g p1 3) * (g o 3)))) * (g o 2)))) o 1 ((g o 1) + ((Int.tdiv (((g p1 3) * (g o 1)) - ((g o 0) * (g p1 4))) (((g o 2) * (g p1 4)) - ((g p1 3) * (g o 3)))) * (g o 3)))) o 2)), (0, ((z_up (z_up g o 0 ((g o 0) + ((Int.tdiv (((g p1 3) * (g o 1)) - ((g o 0) * (g p1 4))) (((g o 2) * (g p1 4)) - ((g p1 3) * (g o 3)))) * (g o 2)))) o 1 ((g o 1) + ((Int.tdiv (((g p1 3) * (g o 1)) - ((g o 0) * (g p1 4))) (((g o 2) * (g p1 4)) - ((g p1 3) * (g o 3)))) * (g o 3)))) o 1) + ((z_up (z_up g o 0 ((g o 0) + ((Int.tdiv (((g p1 3) * (g o 1)) - ((g o 0) * (g p1 4))) (((g o 2) * (g p1 4)) - ((g p1 3) * (g o 3)))) * (g o 2)))) o 1 ((g o 1) + ((Int.tdiv (((g p1 3) * (g o 1)) - ((g o 0) * (g p1 4))) (((g o 2) * (g p1 4)) - ((g p1 3) * (g o 3)))) * (g o 3)))) o 3)), (0, (z_up (z_up g o 0 ((g o 0) + ((Int.tdiv (((g p1 3) * (g o 1)) - ((g o 0) * (g p1 4))) (((g o 2) * (g p1 4)) - ((g p1 3) * (g o 3)))) * (g o 2)))) o 1 ((g o 1) + ((Int.tdiv (((g p1 3) * (g o 1)) - ((g o 0) * (g p1 4))) (((g o 2) * (g p1 4)) - ((g p1 3) * (g o 3)))) * (g o 3)))) p2 3), (0, (z_up (z_up g o 0 ((g o 0) + ((Int.tdiv (((g p1 3) * (g o 1)) - ((g o 0) * (g p1 4))) (((g o 2) * (g p1 4)) - ((g p1 3) * (g o 3)))) * (g o 2)))) o 1 ((g o 1) + ((Int.tdiv (((g p1 3) * (g o 1)) - ((g o 0) * (g p1 4))) (((g o 2) * (g p1 4)) - ((g p1 3) * (g o 3)))) * (g o 3)))) p2 4)]) (d' := 1) (st := []) d_Sp_squeeze_117 mi_F_cross nl_Sp_44 ms_F_cross rfl rfl rfl rfl rfl (b_F_cross_0  ?_)
      obtain ⟨c48, h⟩ := h
      refine ⟨c48, ?_⟩
      obtain ⟨c49, h⟩ := h
      refine ⟨c49, ?_⟩
      obtain ⟨c50, h⟩ := h
      refine ⟨c50, ?_⟩
      intro _
      show z_U X 2 m_Sp_squeeze 120 [(8, (0, Int.tdiv (((g p1 3) * (g o 1)) - ((g o 0) * (g p1 4))) (((g o 2) * (g p1 4)) - ((g p1 3) * (g o 3))))), (6, (1, ((g o 2) * (g p1 4)) - ((g p1 3) * (g o 3)))), (4, (1, ((g p1 3) * (g o 1)) - ((g o 0) * (g p1 4)))), (0, (2, ((o : Nat) : Int))), (1, (2, ((p1 : Nat) : Int))), (2, (2, ((p2 : Nat) : Int))), (3, (0, x3))] [(1, ((((z_up (z_up g o 0 ((g o 0) + ((Int.tdiv (((g p1 3) * (g o 1)) - ((g o 0) * (g p1 4))) (((g o 2) * (g p1 4)) - ((g p1 3) * (g o 3)))) * (g o 2)))) o 1 ((g o 1) + ((Int.tdiv (((g p1 3) * (g o 1)) - ((g o 0) * (g p1 4))) (((g o 2) * (g p1 4)) - ((g p1 3) * (g o 3)))) * (g o 3)))) o 0) + ((z_up (z_up g o 0 ((g o 0) + ((Int.tdiv (((g p1 3) * (g o 1)) - ((g o 0) * (g p1 4))) (((g o 2) * (g p1 4)) - ((g p1 3) * (g o 3)))) * (g o 2)))) o 1 ((g o 1) + ((Int.tdiv (((g p1 3) * (g o 1)) - ((g o 0) * (g p1 4))) (((g o 2) * (g p1 4)) - ((g p1 3) * (g o 3)))) * (g o 3)))) o 2)) * ((z_up (z_up g o 0 ((g o 0) + ((Int.tdiv (((g p1 3) * (g o 1)) - ((g o 0) * (g p1 4))) (((g o 2) * (g p1 4)) - ((g p1 3) * (g o 3)))) * (g o 2)))) o 1 ((g o 1) + ((Int.tdiv (((g p1 3) * (g o 1)) - ((g o 0) * (g p1 4))) (((g o 2) * (g p1 4)) - ((g p1 3) * (g o 3)))) * (g o 3)))) p2 4)) - (((z_up (z_up g o 0 ((g o 0) + ((Int.tdiv (((g p1 3) * (g o 1)) - ((g o 0) * (g p1 4))) (((g o 2) * (g p1 4)) - ((g p1 3) * (g o 3)))) * (g o 2)))) o 1 ((g o 1) + ((Int.tdiv (((g p1 3) * (g o 1)) - ((g o 0) * (g p1 4))) (((g o 2) * (g p1 4)) - ((g p1 3) * (g o 3)))) * (g o 3)))) p2 3) * (((z_up (z_up g o 0 ((g o 0) + ((Int.tdiv (((g p1 3) * (g o 1)) - ((g o 0) * (g p1 4))) (((g o 2) * (g p1 4)) - ((g p1 3) * (g o 3)))) * (g o 2)))) o 1 ((g o 1) + ((Int.tdiv (((g p1 3) * (g o 1)) - ((g o 0) * (g p1 4))) (((g o 2) * (g p1 4)) - ((g p1 3) * (g o 3)))) * (g o 3)))) o 1) + ((z_up (z_up g o 0 ((g o 0) + ((Int.tdiv (((g p1 3) * (g o 1)) - ((g o 0) * (g p1 4))) (((g o 2) * (g p1 4)) - ((g p1 3) * (g o 3)))) * (g o 2)))) o 1 ((g o 1) + ((Int.tdiv (((g p1 3) * (g o 1)) - ((g o 0) * (g p1 4))) (((g o 2) * (g p1 4)) - ((g p1 3) * (g o 3)))) * (g o 3)))) o 3))))] N σ (z_up (z_up g o 0 ((g o 0) + ((Int.tdiv (((g p1 3) * (g o 1)) - ((g o 0) * (g p1 4))) (((g o 2) * (g p1 4)) - ((g p1 3) * (g o 3)))) * (g o 2)))) o 1 ((g o 1) + ((Int.tdiv (((g p1 3) * (g o 1)) - ((g o 0) * (g p1 4))) (((g o 2) * (g p1 4)) - ((g p1 3) * (g o 3)))) * (g o 3)))) Q
      refine z_lconst (v := 0) d_Sp_squeeze_120 (by decide) (by decide) ?_
      refine z_lcmp_ge (tgt := 126) d_Sp_squeeze_121 d_Sp_squeeze_122 (by decide) (fun c51 => ?_) (fun c51 => ?_)
      · have h := h.1 c51
        refine z_aload_n (i := 0) (c := o) 3 d_Sp_squeeze_126 rfl rfl rfl ?_
        refine z_geti (c := o) (kI := 2) d_Sp_squeeze_127 fd_Sp_highTop fl_Sp_21 (Or.inl rfl) rfl rfl (ks_Sp_0 ho) (kl_Sp_0 ho) ?_
        refine z_ti (b := g o 2) (by simp [z_up]) ?_
        refine z_aload_n (i := 0) (c := o) 3 d_Sp_squeeze_130 rfl rfl rfl ?_
        refine z_geti (c := o) (kI := 3) d_Sp_squeeze_131 fd_Sp_highBottom fl_Sp_24 (Or.inl rfl) rfl rfl (ks_Sp_0 ho) (kl_Sp_0 ho) ?_
        refine z_ti (b := g o 3) (by simp [z_up]) ?_
        refine z_aload_n (i := 2) (c := p2) 5 d_Sp_squeeze_134 rfl rfl rfl ?_
        refine z_geti (c := p2) (kI := 3) d_Sp_squeeze_135 fd_Ch_top fl_Sp_30 (Or.inl rfl) rfl rfl (ks_Ch_0 hp2) (kl_Ch_0 hp2) ?_
        refine z_aload_n (i := 2) (c := p2) 5 d_Sp_squeeze_138 rfl rfl rfl ?_
        refine z_geti (c := p2) (kI := 4) d_Sp_squeeze_139 fd_Ch_bottom fl_Sp_38 (Or.inl rfl) rfl rfl (ks_Ch_0 hp2) (kl_Ch_0 hp2) ?_
        refine z_cSN (as := [(0, g o 2), (0, g o 3), (0, (z_up (z_up g o 0 ((g o 0) + ((Int.tdiv (((g p1 3) * (g o 1)) - ((g o 0) * (g p1 4))) (((g o 2) * (g p1 4)) - ((g p1 3) * (g o 3)))) * (g o 2)))) o 1 ((g o 1) + ((Int.tdiv (((g p1 3) * (g o 1)) - ((g o 0) * (g p1 4))) (((g o 2) * (g p1 4)) - ((g p1 3) * (g o 3)))) * (g o 3)))) p2 3), (0, (z_up (z_up g o 0 ((g o 0) + ((Int.tdiv (((g p1 3) * (g o 1)) - ((g o 0) * (g p1 4))) (((g o 2) * (g p1 4)) - ((g p1 3) * (g o 3)))) * (g o 2)))) o 1 ((g o 1) + ((Int.tdiv (((g p1 3) * (g o 1)) - ((g o 0) * (g p1 4))) (((g o 2) * (g p1 4)) - ((g p1 3) * (g o 3)))) * (g o 3)))) p2 4)]) (d' := 1) (st := []) d_Sp_squeeze_142 mi_F_cross nl_Sp_44 ms_F_cross rfl rfl rfl rfl rfl (b_F_cross_0  ?_)
        obtain ⟨c52, h⟩ := h
        refine ⟨c52, ?_⟩
        obtain ⟨c53, h⟩ := h
        refine ⟨c53, ?_⟩
        obtain ⟨c54, h⟩ := h
        refine ⟨c54, ?_⟩
        intro _
        show z_U X 2 m_Sp_squeeze 145 [(8, (0, Int.tdiv (((g p1 3) * (g o 1)) - ((g o 0) * (g p1 4))) (((g o 2) * (g p1 4)) - ((g p1 3) * (g o 3))))), (6, (1, ((g o 2) * (g p1 4)) - ((g p1 3) * (g o 3)))), (4, (1, ((g p1 3) * (g o 1)) - ((g o 0) * (g p1 4)))), (0, (2, ((o : Nat) : Int))), (1, (2, ((p1 : Nat) : Int))), (2, (2, ((p2 : Nat) : Int))), (3, (0, x3))] [(1, ((g o 2) * ((z_up (z_up g o 0 ((g o 0) + ((Int.tdiv (((g p1 3) * (g o 1)) - ((g o 0) * (g p1 4))) (((g o 2) * (g p1 4)) - ((g p1 3) * (g o 3)))) * (g o 2)))) o 1 ((g o 1) + ((Int.tdiv (((g p1 3) * (g o 1)) - ((g o 0) * (g p1 4))) (((g o 2) * (g p1 4)) - ((g p1 3) * (g o 3)))) * (g o 3)))) p2 4)) - (((z_up (z_up g o 0 ((g o 0) + ((Int.tdiv (((g p1 3) * (g o 1)) - ((g o 0) * (g p1 4))) (((g o 2) * (g p1 4)) - ((g p1 3) * (g o 3)))) * (g o 2)))) o 1 ((g o 1) + ((Int.tdiv (((g p1 3) * (g o 1)) - ((g o 0) * (g p1 4))) (((g o 2) * (g p1 4)) - ((g p1 3) * (g o 3)))) * (g o 3)))) p2 3) * (g o 3)))] N σ (z_up (z_up g o 0 ((g o 0) + ((Int.tdiv (((g p1 3) * (g o 1)) - ((g o 0) * (g p1 4))) (((g o 2) * (g p1 4)) - ((g p1 3) * (g o 3)))) * (g o 2)))) o 1 ((g o 1) + ((Int.tdiv (((g p1 3) * (g o 1)) - ((g o 0) * (g p1 4))) (((g o 2) * (g p1 4)) - ((g p1 3) * (g o 3)))) * (g o 3)))) Q
        refine z_lstore (ls' := [(8, (1, ((g o 2) * ((z_up (z_up g o 0 ((g o 0) + ((Int.tdiv (((g p1 3) * (g o 1)) - ((g o 0) * (g p1 4))) (((g o 2) * (g p1 4)) - ((g p1 3) * (g o 3)))) * (g o 2)))) o 1 ((g o 1) + ((Int.tdiv (((g p1 3) * (g o 1)) - ((g o 0) * (g p1 4))) (((g o 2) * (g p1 4)) - ((g p1 3) * (g o 3)))) * (g o 3)))) p2 4)) - (((z_up (z_up g o 0 ((g o 0) + ((Int.tdiv (((g p1 3) * (g o 1)) - ((g o 0) * (g p1 4))) (((g o 2) * (g p1 4)) - ((g p1 3) * (g o 3)))) * (g o 2)))) o 1 ((g o 1) + ((Int.tdiv (((g p1 3) * (g o 1)) - ((g o 0) * (g p1 4))) (((g o 2) * (g p1 4)) - ((g p1 3) * (g o 3)))) * (g o 3)))) p2 3) * (g o 3)))), (6, (1, ((g o 2) * (g p1 4)) - ((g p1 3) * (g o 3)))), (4, (1, ((g p1 3) * (g o 1)) - ((g o 0) * (g p1 4)))), (0, (2, ((o : Nat) : Int))), (1, (2, ((p1 : Nat) : Int))), (2, (2, ((p2 : Nat) : Int))), (3, (0, x3))]) d_Sp_squeeze_145 rfl rfl ?_
        refine z_aload_n (i := 2) (c := p2) 5 d_Sp_squeeze_147 rfl rfl rfl ?_
        refine z_geti (c := p2) (kI := 3) d_Sp_squeeze_148 fd_Ch_top fl_Sp_30 (Or.inl rfl) rfl rfl (ks_Ch_0 hp2) (kl_Ch_0 hp2) ?_
        refine z_aload_n (i := 2) (c := p2) 5 d_Sp_squeeze_151 rfl rfl rfl ?_
        refine z_geti (c := p2) (kI := 4) d_Sp_squeeze_152 fd_Ch_bottom fl_Sp_38 (Or.inl rfl) rfl rfl (ks_Ch_0 hp2) (kl_Ch_0 hp2) ?_
        refine z_aload_n (i := 0) (c := o) 3 d_Sp_squeeze_155 rfl rfl rfl ?_
        refine z_geti (c := o) (kI := 0) d_Sp_squeeze_156 fd_Sp_lowTop fl_Sp_14 (Or.inl rfl) rfl rfl (ks_Sp_0 ho) (kl_Sp_0 ho) ?_
        refine z_ti (b := (g o 0) + ((Int.tdiv (((g p1 3) * (g o 1)) - ((g o 0) * (g p1 4))) (((g o 2) * (g p1 4)) - ((g p1 3) * (g o 3)))) * (g o 2))) (by simp [z_up]) ?_
        refine z_aload_n (i := 0) (c := o) 3 d_Sp_squeeze_159 rfl rfl rfl ?_
        refine z_geti (c := o) (kI := 1) d_Sp_squeeze_160 fd_Sp_lowBottom fl_Sp_18 (Or.inl rfl) rfl rfl (ks_Sp_0 ho) (kl_Sp_0 ho) ?_
        refine z_ti (b := (g o 1) + ((Int.tdiv (((g p1 3) * (g o 1)) - ((g o 0) * (g p1 4))) (((g o 2) * (g p1 4)) - ((g p1 3) * (g o 3)))) * (g o 3))) (by simp [z_up]) ?_
        refine z_cSN (as := [(0, (z_up (z_up g o 0 ((g o 0) + ((Int.tdiv (((g p1 3) * (g o 1)) - ((g o 0) * (g p1 4))) (((g o 2) * (g p1 4)) - ((g p1 3) * (g o 3)))) * (g o 2)))) o 1 ((g o 1) + ((Int.tdiv (((g p1 3) * (g o 1)) - ((g o 0) * (g p1 4))) (((g o 2) * (g p1 4)) - ((g p1 3) * (g o 3)))) * (g o 3)))) p2 3), (0, (z_up (z_up g o 0 ((g o 0) + ((Int.tdiv (((g p1 3) * (g o 1)) - ((g o 0) * (g p1 4))) (((g o 2) * (g p1 4)) - ((g p1 3) * (g o 3)))) * (g o 2)))) o 1 ((g o 1) + ((Int.tdiv (((g p1 3) * (g o 1)) - ((g o 0) * (g p1 4))) (((g o 2) * (g p1 4)) - ((g p1 3) * (g o 3)))) * (g o 3)))) p2 4), (0, (g o 0) + ((Int.tdiv (((g p1 3) * (g o 1)) - ((g o 0) * (g p1 4))) (((g o 2) * (g p1 4)) - ((g p1 3) * (g o 3)))) * (g o 2))), (0, (g o 1) + ((Int.tdiv (((g p1 3) * (g o 1)) - ((g o 0) * (g p1 4))) (((g o 2) * (g p1 4)) - ((g p1 3) * (g o 3)))) * (g o 3)))]) (d' := 1) (st := []) d_Sp_squeeze_163 mi_F_cross nl_Sp_44 ms_F_cross rfl rfl rfl rfl rfl (b_F_cross_0  ?_)
        obtain ⟨c55, h⟩ := h
        refine ⟨c55, ?_⟩
        obtain ⟨c56, h⟩ := h
        refine ⟨c56, ?_⟩
        obtain ⟨c57, h⟩ := h
        refine ⟨c57, ?_⟩
        intro _
        show z_U X 2 m_Sp_squeeze 166 [(8, (1, ((g o 2) * ((z_up (z_up g o 0 ((g o 0) + ((Int.tdiv (((g p1 3) * (g o 1)) - ((g o 0) * (g p1 4))) (((g o 2) * (g p1 4)) - ((g p1 3) * (g o 3)))) * (g o 2)))) o 1 ((g o 1) + ((Int.tdiv (((g p1 3) * (g o 1)) - ((g o 0) * (g p1 4))) (((g o 2) * (g p1 4)) - ((g p1 3) * (g o 3)))) * (g o 3)))) p2 4)) - (((z_up (z_up g o 0 ((g o 0) + ((Int.tdiv (((g p1 3) * (g o 1)) - ((g o 0) * (g p1 4))) (((g o 2) * (g p1 4)) - ((g p1 3) * (g o 3)))) * (g o 2)))) o 1 ((g o 1) + ((Int.tdiv (((g p1 3) * (g o 1)) - ((g o 0) * (g p1 4))) (((g o 2) * (g p1 4)) - ((g p1 3) * (g o 3)))) * (g o 3)))) p2 3) * (g o 3)))), (6, (1, ((g o 2) * (g p1 4)) - ((g p1 3) * (g o 3)))), (4, (1, ((g p1 3) * (g o 1)) - ((g o 0) * (g p1 4)))), (0, (2, ((o : Nat) : Int))), (1, (2, ((p1 : Nat) : Int))), (2, (2, ((p2 : Nat) : Int))), (3, (0, x3))] [(1, (((z_up (z_up g o 0 ((g o 0) + ((Int.tdiv (((g p1 3) * (g o 1)) - ((g o 0) * (g p1 4))) (((g o 2) * (g p1 4)) - ((g p1 3) * (g o 3)))) * (g o 2)))) o 1 ((g o 1) + ((Int.tdiv (((g p1 3) * (g o 1)) - ((g o 0) * (g p1 4))) (((g o 2) * (g p1 4)) - ((g p1 3) * (g o 3)))) * (g o 3)))) p2 3) * ((g o 1) + ((Int.tdiv (((g p1 3) * (g o 1)) - ((g o 0) * (g p1 4))) (((g o 2) * (g p1 4)) - ((g p1 3) * (g o 3)))) * (g o 3)))) - (((g o 0) + ((Int.tdiv (((g p1 3) * (g o 1)) - ((g o 0) * (g p1 4))) (((g o 2) * (g p1 4)) - ((g p1 3) * (g o 3)))) * (g o 2))) * ((z_up (z_up g o 0 ((g o 0) + ((Int.tdiv (((g p1 3) * (g o 1)) - ((g o 0) * (g p1 4))) (((g o 2) * (g p1 4)) - ((g p1 3) * (g o 3)))) * (g o 2)))) o 1 ((g o 1) + ((Int.tdiv (((g p1 3) * (g o 1)) - ((g o 0) * (g p1 4))) (((g o 2) * (g p1 4)) - ((g p1 3) * (g o 3)))) * (g o 3)))) p2 4)))] N σ (z_up (z_up g o 0 ((g o 0) + ((Int.tdiv (((g p1 3) * (g o 1)) - ((g o 0) * (g p1 4))) (((g o 2) * (g p1 4)) - ((g p1 3) * (g o 3)))) * (g o 2)))) o 1 ((g o 1) + ((Int.tdiv (((g p1 3) * (g o 1)) - ((g o 0) * (g p1 4))) (((g o 2) * (g p1 4)) - ((g p1 3) * (g o 3)))) * (g o 3)))) Q
        refine z_lstore (ls' := [(10, (1, (((z_up (z_up g o 0 ((g o 0) + ((Int.tdiv (((g p1 3) * (g o 1)) - ((g o 0) * (g p1 4))) (((g o 2) * (g p1 4)) - ((g p1 3) * (g o 3)))) * (g o 2)))) o 1 ((g o 1) + ((Int.tdiv (((g p1 3) * (g o 1)) - ((g o 0) * (g p1 4))) (((g o 2) * (g p1 4)) - ((g p1 3) * (g o 3)))) * (g o 3)))) p2 3) * ((g o 1) + ((Int.tdiv (((g p1 3) * (g o 1)) - ((g o 0) * (g p1 4))) (((g o 2) * (g p1 4)) - ((g p1 3) * (g o 3)))) * (g o 3)))) - (((g o 0) + ((Int.tdiv (((g p1 3) * (g o 1)) - ((g o 0) * (g p1 4))) (((g o 2) * (g p1 4)) - ((g p1 3) * (g o 3)))) * (g o 2))) * ((z_up (z_up g o 0 ((g o 0) + ((Int.tdiv (((g p1 3) * (g o 1)) - ((g o 0) * (g p1 4))) (((g o 2) * (g p1 4)) - ((g p1 3) * (g o 3)))) * (g o 2)))) o 1 ((g o 1) + ((Int.tdiv (((g p1 3) * (g o 1)) - ((g o 0) * (g p1 4))) (((g o 2) * (g p1 4)) - ((g p1 3) * (g o 3)))) * (g o 3)))) p2 4)))), (8, (1, ((g o 2) * ((z_up (z_up g o 0 ((g o 0) + ((Int.tdiv (((g p1 3) * (g o 1)) - ((g o 0) * (g p1 4))) (((g o 2) * (g p1 4)) - ((g p1 3) * (g o 3)))) * (g o 2)))) o 1 ((g o 1) + ((Int.tdiv (((g p1 3) * (g o 1)) - ((g o 0) * (g p1 4))) (((g o 2) * (g p1 4)) - ((g p1 3) * (g o 3)))) * (g o 3)))) p2 4)) - (((z_up (z_up g o 0 ((g o 0) + ((Int.tdiv (((g p1 3) * (g o 1)) - ((g o 0) * (g p1 4))) (((g o 2) * (g p1 4)) - ((g p1 3) * (g o 3)))) * (g o 2)))) o 1 ((g o 1) + ((Int.tdiv (((g p1 3) * (g o 1)) - ((g o 0) * (g p1 4))) (((g o 2) * (g p1 4)) - ((g p1 3) * (g o 3)))) * (g o 3)))) p2 3) * (g o 3)))), (6, (1, ((g o 2) * (g p1 4)) - ((g p1 3) * (g o 3)))), (4, (1, ((g p1 3) * (g o 1)) - ((g o 0) * (g p1 4)))), (0, (2, ((o : Nat) : Int))), (1, (2, ((p1 : Nat) : Int))), (2, (2, ((p2 : Nat) : Int))), (3, (0, x3))]) d_Sp_squeeze_166 rfl rfl ?_
        refine z_lload 0 d_Sp_squeeze_168 rfl ?_
        refine z_lconst (v := 0) d_Sp_squeeze_170 (by decide) (by decide) ?_
        refine z_lcmp_le (tgt := 215) d_Sp_squeeze_171 d_Sp_squeeze_172 (by decide) (fun c58 => ?_) (fun c58 => ?_)
        · have h := h.1 c58
          refine z_aload_n (i := 0) (c := o) 4 d_Sp_squeeze_215 rfl rfl rfl ?_
          refine z_cV (c := o) (as := []) (d' := 1) (st := []) d_Sp_squeeze_216 mi_Sp_ownTop ml_Sp_55 mv_Sp_ownTop se_Sp_ownTop rfl rfl rfl rfl (ks_Sp_0 ho) rfl rfl (kl_Sp_0 ho) rfl rfl (b_Sp_ownTop_0 ho ?_)
          refine ⟨c46, ?_⟩
          intro _
          show z_U X 2 m_Sp_squeeze 219 [(10, (1, (((z_up (z_up g o 0 ((g o 0) + ((Int.tdiv (((g p1 3) * (g o 1)) - ((g o 0) * (g p1 4))) (((g o 2) * (g p1 4)) - ((g p1 3) * (g o 3)))) * (g o 2)))) o 1 ((g o 1) + ((Int.tdiv (((g p1 3) * (g o 1)) - ((g o 0) * (g p1 4))) (((g o 2) * (g p1 4)) - ((g p1 3) * (g o 3)))) * (g o 3)))) p2 3) * ((g o 1) + ((Int.tdiv (((g p1 3) * (g o 1)) - ((g o 0) * (g p1 4))) (((g o 2) * (g p1 4)) - ((g p1 3) * (g o 3)))) * (g o 3)))) - (((g o 0) + ((Int.tdiv (((g p1 3) * (g o 1)) - ((g o 0) * (g p1 4))) (((g o 2) * (g p1 4)) - ((g p1 3) * (g o 3)))) * (g o 2))) * ((z_up (z_up g o 0 ((g o 0) + ((Int.tdiv (((g p1 3) * (g o 1)) - ((g o 0) * (g p1 4))) (((g o 2) * (g p1 4)) - ((g p1 3) * (g o 3)))) * (g o 2)))) o 1 ((g o 1) + ((Int.tdiv (((g p1 3) * (g o 1)) - ((g o 0) * (g p1 4))) (((g o 2) * (g p1 4)) - ((g p1 3) * (g o 3)))) * (g o 3)))) p2 4)))), (8, (1, ((g o 2) * ((z_up (z_up g o 0 ((g o 0) + ((Int.tdiv (((g p1 3) * (g o 1)) - ((g o 0) * (g p1 4))) (((g o 2) * (g p1 4)) - ((g p1 3) * (g o 3)))) * (g o 2)))) o 1 ((g o 1) + ((Int.tdiv (((g p1 3) * (g o 1)) - ((g o 0) * (g p1 4))) (((g o 2) * (g p1 4)) - ((g p1 3) * (g o 3)))) * (g o 3)))) p2 4)) - (((z_up (z_up g o 0 ((g o 0) + ((Int.tdiv (((g p1 3) * (g o 1)) - ((g o 0) * (g p1 4))) (((g o 2) * (g p1 4)) - ((g p1 3) * (g o 3)))) * (g o 2)))) o 1 ((g o 1) + ((Int.tdiv (((g p1 3) * (g o 1)) - ((g o 0) * (g p1 4))) (((g o 2) * (g p1 4)) - ((g p1 3) * (g o 3)))) * (g o 3)))) p2 3) * (g o 3)))), (6, (1, ((g o 2) * (g p1 4)) - ((g p1 3) * (g o 3)))), (4, (1, ((g p1 3) * (g o 1)) - ((g o 0) * (g p1 4)))), (0, (2, ((o : Nat) : Int))), (1, (2, ((p1 : Nat) : Int))), (2, (2, ((p2 : Nat) : Int))), (3, (0, x3))] [(0, ((z_up (z_up g o 0 ((g o 0) + ((Int.tdiv (((g p1 3) * (g o 1)) - ((g o 0) * (g p1 4))) (((g o 2) * (g p1 4)) - ((g p1 3) * (g o 3)))) * (g o 2)))) o 1 ((g o 1) + ((Int.tdiv (((g p1 3) * (g o 1)) - ((g o 0) * (g p1 4))) (((g o 2) * (g p1 4)) - ((g p1 3) * (g o 3)))) * (g o 3)))) o 0) + ((z_up (z_up g o 0 ((g o 0) + ((Int.tdiv (((g p1 3) * (g o 1)) - ((g o 0) * (g p1 4))) (((g o 2) * (g p1 4)) - ((g p1 3) * (g o 3)))) * (g o 2)))) o 1 ((g o 1) + ((Int.tdiv (((g p1 3) * (g o 1)) - ((g o 0) * (g p1 4))) (((g o 2) * (g p1 4)) - ((g p1 3) * (g o 3)))) * (g o 3)))) o 2))] N σ (z_up (z_up g o 0 ((g o 0) + ((Int.tdiv (((g p1 3) * (g o 1)) - ((g o 0) * (g p1 4))) (((g o 2) * (g p1 4)) - ((g p1 3) * (g o 3)))) * (g o 2)))) o 1 ((g o 1) + ((Int.tdiv (((g p1 3) * (g o 1)) - ((g o 0) * (g p1 4))) (((g o 2) * (g p1 4)) - ((g p1 3) * (g o 3)))) * (g o 3)))) Q
          refine z_aload_n (i := 0) (c := o) 4 d_Sp_squeeze_219 rfl rfl rfl ?_
          refine z_cV (c := o) (as := []) (d' := 1) (st := [(0, ((z_up (z_up g o 0 ((g o 0) + ((Int.tdiv (((g p1 3) * (g o 1)) - ((g o 0) * (g p1 4))) (((g o 2) * (g p1 4)) - ((g p1 3) * (g o 3)))) * (g o 2)))) o 1 ((g o 1) + ((Int.tdiv (((g p1 3) * (g o 1)) - ((g o 0) * (g p1 4))) (((g o 2) * (g p1 4)) - ((g p1 3) * (g o 3)))) * (g o 3)))) o 0) + ((z_up (z_up g o 0 ((g o 0) + ((Int.tdiv (((g p1 3) * (g o 1)) - ((g o 0) * (g p1 4))) (((g o 2) * (g p1 4)) - ((g p1 3) * (g o 3)))) * (g o 2)))) o 1 ((g o 1) + ((Int.tdiv (((g p1 3) * (g o 1)) - ((g o 0) * (g p1 4))) (((g o 2) * (g p1 4)) - ((g p1 3) * (g o 3)))) * (g o 3)))) o 2))]) d_Sp_squeeze_220 mi_Sp_ownBottom ml_Sp_52 mv_Sp_ownBottom se_Sp_ownBottom rfl rfl rfl rfl (ks_Sp_0 ho) rfl rfl (kl_Sp_0 ho) rfl rfl (b_Sp_ownBottom_0 ho ?_)
          refine ⟨c47, ?_⟩
          intro _
          show z_U X 2 m_Sp_squeeze 223 [(10, (1, (((z_up (z_up g o 0 ((g o 0) + ((Int.tdiv (((g p1 3) * (g o 1)) - ((g o 0) * (g p1 4))) (((g o 2) * (g p1 4)) - ((g p1 3) * (g o 3)))) * (g o 2)))) o 1 ((g o 1) + ((Int.tdiv (((g p1 3) * (g o 1)) - ((g o 0) * (g p1 4))) (((g o 2) * (g p1 4)) - ((g p1 3) * (g o 3)))) * (g o 3)))) p2 3) * ((g o 1) + ((Int.tdiv (((g p1 3) * (g o 1)) - ((g o 0) * (g p1 4))) (((g o 2) * (g p1 4)) - ((g p1 3) * (g o 3)))) * (g o 3)))) - (((g o 0) + ((Int.tdiv (((g p1 3) * (g o 1)) - ((g o 0) * (g p1 4))) (((g o 2) * (g p1 4)) - ((g p1 3) * (g o 3)))) * (g o 2))) * ((z_up (z_up g o 0 ((g o 0) + ((Int.tdiv (((g p1 3) * (g o 1)) - ((g o 0) * (g p1 4))) (((g o 2) * (g p1 4)) - ((g p1 3) * (g o 3)))) * (g o 2)))) o 1 ((g o 1) + ((Int.tdiv (((g p1 3) * (g o 1)) - ((g o 0) * (g p1 4))) (((g o 2) * (g p1 4)) - ((g p1 3) * (g o 3)))) * (g o 3)))) p2 4)))), (8, (1, ((g o 2) * ((z_up (z_up g o 0 ((g o 0) + ((Int.tdiv (((g p1 3) * (g o 1)) - ((g o 0) * (g p1 4))) (((g o 2) * (g p1 4)) - ((g p1 3) * (g o 3)))) * (g o 2)))) o 1 ((g o 1) + ((Int.tdiv (((g p1 3) * (g o 1)) - ((g o 0) * (g p1 4))) (((g o 2) * (g p1 4)) - ((g p1 3) * (g o 3)))) * (g o 3)))) p2 4)) - (((z_up (z_up g o 0 ((g o 0) + ((Int.tdiv (((g p1 3) * (g o 1)) - ((g o 0) * (g p1 4))) (((g o 2) * (g p1 4)) - ((g p1 3) * (g o 3)))) * (g o 2)))) o 1 ((g o 1) + ((Int.tdiv (((g p1 3) * (g o 1)) - ((g o 0) * (g p1 4))) (((g o 2) * (g p1 4)) - ((g p1 3) * (g o 3)))) * (g o 3)))) p2 3) * (g o 3)))), (6, (1, ((g o 2) * (g p1 4)) - ((g p1 3) * (g o 3)))), (4, (1, ((g p1 3) * (g o 1)) - ((g o 0) * (g p1 4)))), (0, (2, ((o : Nat) : Int))), (1, (2, ((p1 : Nat) : Int))), (2, (2, ((p2 : Nat) : Int))), (3, (0, x3))] [(0, ((z_up (z_up g o 0 ((g o 0) + ((Int.tdiv (((g p1 3) * (g o 1)) - ((g o 0) * (g p1 4))) (((g o 2) * (g p1 4)) - ((g p1 3) * (g o 3)))) * (g o 2)))) o 1 ((g o 1) + ((Int.tdiv (((g p1 3) * (g o 1)) - ((g o 0) * (g p1 4))) (((g o 2) * (g p1 4)) - ((g p1 3) * (g o 3)))) * (g o 3)))) o 1) + ((z_up (z_up g o 0 ((g o 0) + ((Int.tdiv (((g p1 3) * (g o 1)) - ((g o 0) * (g p1 4))) (((g o 2) * (g p1 4)) - ((g p1 3) * (g o 3)))) * (g o 2)))) o 1 ((g o 1) + ((Int.tdiv (((g p1 3) * (g o 1)) - ((g o 0) * (g p1 4))) (((g o 2) * (g p1 4)) - ((g p1 3) * (g o 3)))) * (g o 3)))) o 3)), (0, ((z_up (z_up g o 0 ((g o 0) + ((Int.tdiv (((g p1 3) * (g o 1)) - ((g o 0) * (g p1 4))) (((g o 2) * (g p1 4)) - ((g p1 3) * (g o 3)))) * (g o 2)))) o 1 ((g o 1) + ((Int.tdiv (((g p1 3) * (g o 1)) - ((g o 0) * (g p1 4))) (((g o 2) * (g p1 4)) - ((g p1 3) * (g o 3)))) * (g o 3)))) o 0) + ((z_up (z_up g o 0 ((g o 0) + ((Int.tdiv (((g p1 3) * (g o 1)) - ((g o 0) * (g p1 4))) (((g o 2) * (g p1 4)) - ((g p1 3) * (g o 3)))) * (g o 2)))) o 1 ((g o 1) + ((Int.tdiv (((g p1 3) * (g o 1)) - ((g o 0) * (g p1 4))) (((g o 2) * (g p1 4)) - ((g p1 3) * (g o 3)))) * (g o 3)))) o 2))] N σ (z_up (z_up g o 0 ((g o 0) + ((Int.tdiv (((g p1 3) * (g o 1)) - ((g o 0) * (g p1 4))) (((g o 2) * (g p1 4)) - ((g p1 3) * (g o 3)))) * (g o 2)))) o 1 ((g o 1) + ((Int.tdiv (((g p1 3) * (g o 1)) - ((g o 0) * (g p1 4))) (((g o 2) * (g p1 4)) - ((g p1 3) * (g o 3)))) * (g o 3)))) Q
          refine z_aload_n (i := 1) (c := p1) 5 d_Sp_squeeze_223 rfl rfl rfl ?_
          refine z_geti (c := p1) (kI := 3) d_Sp_squeeze_224 fd_Ch_top fl_Sp_30 (Or.inl rfl) rfl rfl (ks_Ch_0 hp1) (kl_Ch_0 hp1) ?_
          refine z_aload_n (i := 1) (c := p1) 5 d_Sp_squeeze_227 rfl rfl rfl ?_
          refine z_geti (c := p1) (kI := 4) d_Sp_squeeze_228 fd_Ch_bottom fl_Sp_38 (Or.inl rfl) rfl rfl (ks_Ch_0 hp1) (kl_Ch_0 hp1) ?_
          refine z_cSN (as := [(0, ((z_up (z_up g o 0 ((g o 0) + ((Int.tdiv (((g p1 3) * (g o 1)) - ((g o 0) * (g p1 4))) (((g o 2) * (g p1 4)) - ((g p1 3) * (g o 3)))) * (g o 2)))) o 1 ((g o 1) + ((Int.tdiv (((g p1 3) * (g o 1)) - ((g o 0) * (g p1 4))) (((g o 2) * (g p1 4)) - ((g p1 3) * (g o 3)))) * (g o 3)))) o 0) + ((z_up (z_up g o 0 ((g o 0) + ((Int.tdiv (((g p1 3) * (g o 1)) - ((g o 0) * (g p1 4))) (((g o 2) * (g p1 4)) - ((g p1 3) * (g o 3)))) * (g o 2)))) o 1 ((g o 1) + ((Int.tdiv (((g p1 3) * (g o 1)) - ((g o 0) * (g p1 4))) (((g o 2) * (g p1 4)) - ((g p1 3) * (g o 3)))) * (g o 3)))) o 2)), (0, ((z_up (z_up g o 0 ((g o 0) + ((Int.tdiv (((g p1 3) * (g o 1)) - ((g o 0) * (g p1 4))) (((g o 2) * (g p1 4)) - ((g p1 3) * (g o 3)))) * (g o 2)))) o 1 ((g o 1) + ((Int.tdiv (((g p1 3) * (g o 1)) - ((g o 0) * (g p1 4))) (((g o 2) * (g p1 4)) - ((g p1 3) * (g o 3)))) * (g o 3)))) o 1) + ((z_up (z_up g o 0 ((g o 0) + ((Int.tdiv (((g p1 3) * (g o 1)) - ((g o 0) * (g p1 4))) (((g o 2) * (g p1 4)) - ((g p1 3) * (g o 3)))) * (g o 2)))) o 1 ((g o 1) + ((Int.tdiv (((g p1 3) * (g o 1)) - ((g o 0) * (g p1 4))) (((g o 2) * (g p1 4)) - ((g p1 3) * (g o 3)))) * (g o 3)))) o 3)), (0, (z_up (z_up g o 0 ((g o 0) + ((Int.tdiv (((g p1 3) * (g o 1)) - ((g o 0) * (g p1 4))) (((g o 2) * (g p1 4)) - ((g p1 3) * (g o 3)))) * (g o 2)))) o 1 ((g o 1) + ((Int.tdiv (((g p1 3) * (g o 1)) - ((g o 0) * (g p1 4))) (((g o 2) * (g p1 4)) - ((g p1 3) * (g o 3)))) * (g o 3)))) p1 3), (0, (z_up (z_up g o 0 ((g o 0) + ((Int.tdiv (((g p1 3) * (g o 1)) - ((g o 0) * (g p1 4))) (((g o 2) * (g p1 4)) - ((g p1 3) * (g o 3)))) * (g o 2)))) o 1 ((g o 1) + ((Int.tdiv (((g p1 3) * (g o 1)) - ((g o 0) * (g p1 4))) (((g o 2) * (g p1 4)) - ((g p1 3) * (g o 3)))) * (g o 3)))) p1 4)]) (d' := 1) (st := []) d_Sp_squeeze_231 mi_F_cross nl_Sp_44 ms_F_cross rfl rfl rfl rfl rfl (b_F_cross_0  ?_)
          obtain ⟨c59, h⟩ := h
          refine ⟨c59, ?_⟩
          obtain ⟨c60, h⟩ := h
          refine ⟨c60, ?_⟩
          obtain ⟨c61, h⟩ := h
          refine ⟨c61, ?_⟩
          intro _
          show z_U X 2 m_Sp_squeeze 234 [(10, (1, (((z_up (z_up g o 0 ((g o 0) + ((Int.tdiv (((g p1 3) * (g o 1)) - ((g o 0) * (g p1 4))) (((g o 2) * (g p1 4)) - ((g p1 3) * (g o 3)))) * (g o 2)))) o 1 ((g o 1) + ((Int.tdiv (((g p1 3) * (g o 1)) - ((g o 0) * (g p1 4))) (((g o 2) * (g p1 4)) - ((g p1 3) * (g o 3)))) * (g o 3)))) p2 3) * ((g o 1) + ((Int.tdiv (((g p1 3) * (g o 1)) - ((g o 0) * (g p1 4))) (((g o 2) * (g p1 4)) - ((g p1 3) * (g o 3)))) * (g o 3)))) - (((g o 0) + ((Int.tdiv (((g p1 3) * (g o 1)) - ((g o 0) * (g p1 4))) (((g o 2) * (g p1 4)) - ((g p1 3) * (g o 3)))) * (g o 2))) * ((z_up (z_up g o 0 ((g o 0) + ((Int.tdiv (((g p1 3) * (g o 1)) - ((g o 0) * (g p1 4))) (((g o 2) * (g p1 4)) - ((g p1 3) * (g o 3)))) * (g o 2)))) o 1 ((g o 1) + ((Int.tdiv (((g p1 3) * (g o 1)) - ((g o 0) * (g p1 4))) (((g o 2) * (g p1 4)) - ((g p1 3) * (g o 3)))) * (g o 3)))) p2 4)))), (8, (1, ((g o 2) * ((z_up (z_up g o 0 ((g o 0) + ((Int.tdiv (((g p1 3) * (g o 1)) - ((g o 0) * (g p1 4))) (((g o 2) * (g p1 4)) - ((g p1 3) * (g o 3)))) * (g o 2)))) o 1 ((g o 1) + ((Int.tdiv (((g p1 3) * (g o 1)) - ((g o 0) * (g p1 4))) (((g o 2) * (g p1 4)) - ((g p1 3) * (g o 3)))) * (g o 3)))) p2 4)) - (((z_up (z_up g o 0 ((g o 0) + ((Int.tdiv (((g p1 3) * (g o 1)) - ((g o 0) * (g p1 4))) (((g o 2) * (g p1 4)) - ((g p1 3) * (g o 3)))) * (g o 2)))) o 1 ((g o 1) + ((Int.tdiv (((g p1 3) * (g o 1)) - ((g o 0) * (g p1 4))) (((g o 2) * (g p1 4)) - ((g p1 3) * (g o 3)))) * (g o 3)))) p2 3) * (g o 3)))), (6, (1, ((g o 2) * (g p1 4)) - ((g p1 3) * (g o 3)))), (4, (1, ((g p1 3) * (g o 1)) - ((g o 0) * (g p1 4)))), (0, (2, ((o : Nat) : Int))), (1, (2, ((p1 : Nat) : Int))), (2, (2, ((p2 : Nat) : Int))), (3, (0, x3))] [(1, ((((z_up (z_up g o 0 ((g o 0) + ((Int.tdiv (((g p1 3) * (g o 1)) - ((g o 0) * (g p1 4))) (((g o 2) * (g p1 4)) - ((g p1 3) * (g o 3)))) * (g o 2)))) o 1 ((g o 1) + ((Int.tdiv (((g p1 3) * (g o 1)) - ((g o 0) * (g p1 4))) (((g o 2) * (g p1 4)) - ((g p1 3) * (g o 3)))) * (g o 3)))) o 0) + ((z_up (z_up g o 0 ((g o 0) + ((Int.tdiv (((g p1 3) * (g o 1)) - ((g o 0) * (g p1 4))) (((g o 2) * (g p1 4)) - ((g p1 3) * (g o 3)))) * (g o 2)))) o 1 ((g o 1) + ((Int.tdiv (((g p1 3) * (g o 1)) - ((g o 0) * (g p1 4))) (((g o 2) * (g p1 4)) - ((g p1 3) * (g o 3)))) * (g o 3)))) o 2)) * ((z_up (z_up g o 0 ((g o 0) + ((Int.tdiv (((g p1 3) * (g o 1)) - ((g o 0) * (g p1 4))) (((g o 2) * (g p1 4)) - ((g p1 3) * (g o 3)))) * (g o 2)))) o 1 ((g o 1) + ((Int.tdiv (((g p1 3) * (g o 1)) - ((g o 0) * (g p1 4))) (((g o 2) * (g p1 4)) - ((g p1 3) * (g o 3)))) * (g o 3)))) p1 4)) - (((z_up (z_up g o 0 ((g o 0) + ((Int.tdiv (((g p1 3) * (g o 1)) - ((g o 0) * (g p1 4))) (((g o 2) * (g p1 4)) - ((g p1 3) * (g o 3)))) * (g o 2)))) o 1 ((g o 1) + ((Int.tdiv (((g p1 3) * (g o 1)) - ((g o 0) * (g p1 4))) (((g o 2) * (g p1 4)) - ((g p1 3) * (g o 3)))) * (g o 3)))) p1 3) * (((z_up (z_up g o 0 ((g o 0) + ((Int.tdiv (((g p1 3) * (g o 1)) - ((g o 0) * (g p1 4))) (((g o 2) * (g p1 4)) - ((g p1 3) * (g o 3)))) * (g o 2)))) o 1 ((g o 1) + ((Int.tdiv (((g p1 3) * (g o 1)) - ((g o 0) * (g p1 4))) (((g o 2) * (g p1 4)) - ((g p1 3) * (g o 3)))) * (g o 3)))) o 1) + ((z_up (z_up g o 0 ((g o 0) + ((Int.tdiv (((g p1 3) * (g o 1)) - ((g o 0) * (g p1 4))) (((g o 2) * (g p1 4)) - ((g p1 3) * (g o 3)))) * (g o 2)))) o 1 ((g o 1) + ((Int.tdiv (((g p1 3) * (g o 1)) - ((g o 0) * (g p1 4))) (((g o 2) * (g p1 4)) - ((g p1 3) * (g o 3)))) * (g o 3)))) o 3))))] N σ (z_up (z_up g o 0 ((g o 0) + ((Int.tdiv (((g p1 3) * (g o 1)) - ((g o 0) * (g p1 4))) (((g o 2) * (g p1 4)) - ((g p1 3) * (g o 3)))) * (g o 2)))) o 1 ((g o 1) + ((Int.tdiv (((g p1 3) * (g o 1)) - ((g o 0) * (g p1 4))) (((g o 2) * (g p1 4)) - ((g p1 3) * (g o 3)))) * (g o 3)))) Q
          refine z_lconst (v := 0) d_Sp_squeeze_234 (by decide) (by decide) ?_
          refine z_lcmp_le (tgt := 240) d_Sp_squeeze_235 d_Sp_squeeze_236 (by decide) (fun c62 => ?_) (fun c62 => ?_)
          · have h := h.1 c62
            obtain ⟨c63, h⟩ := h
            refine z_iinc (n := 1) (ls' := [(3, (0, x3 + 1)), (10, (1, (((z_up (z_up g o 0 ((g o 0) + ((Int.tdiv (((g p1 3) * (g o 1)) - ((g o 0) * (g p1 4))) (((g o 2) * (g p1 4)) - ((g p1 3) * (g o 3)))) * (g o 2)))) o 1 ((g o 1) + ((Int.tdiv (((g p1 3) * (g o 1)) - ((g o 0) * (g p1 4))) (((g o 2) * (g p1 4)) - ((g p1 3) * (g o 3)))) * (g o 3)))) p2 3) * ((g o 1) + ((Int.tdiv (((g p1 3) * (g o 1)) - ((g o 0) * (g p1 4))) (((g o 2) * (g p1 4)) - ((g p1 3) * (g o 3)))) * (g o 3)))) - (((g o 0) + ((Int.tdiv (((g p1 3) * (g o 1)) - ((g o 0) * (g p1 4))) (((g o 2) * (g p1 4)) - ((g p1 3) * (g o 3)))) * (g o 2))) * ((z_up (z_up g o 0 ((g o 0) + ((Int.tdiv (((g p1 3) * (g o 1)) - ((g o 0) * (g p1 4))) (((g o 2) * (g p1 4)) - ((g p1 3) * (g o 3)))) * (g o 2)))) o 1 ((g o 1) + ((Int.tdiv (((g p1 3) * (g o 1)) - ((g o 0) * (g p1 4))) (((g o 2) * (g p1 4)) - ((g p1 3) * (g o 3)))) * (g o 3)))) p2 4)))), (8, (1, ((g o 2) * ((z_up (z_up g o 0 ((g o 0) + ((Int.tdiv (((g p1 3) * (g o 1)) - ((g o 0) * (g p1 4))) (((g o 2) * (g p1 4)) - ((g p1 3) * (g o 3)))) * (g o 2)))) o 1 ((g o 1) + ((Int.tdiv (((g p1 3) * (g o 1)) - ((g o 0) * (g p1 4))) (((g o 2) * (g p1 4)) - ((g p1 3) * (g o 3)))) * (g o 3)))) p2 4)) - (((z_up (z_up g o 0 ((g o 0) + ((Int.tdiv (((g p1 3) * (g o 1)) - ((g o 0) * (g p1 4))) (((g o 2) * (g p1 4)) - ((g p1 3) * (g o 3)))) * (g o 2)))) o 1 ((g o 1) + ((Int.tdiv (((g p1 3) * (g o 1)) - ((g o 0) * (g p1 4))) (((g o 2) * (g p1 4)) - ((g p1 3) * (g o 3)))) * (g o 3)))) p2 3) * (g o 3)))), (6, (1, ((g o 2) * (g p1 4)) - ((g p1 3) * (g o 3)))), (4, (1, ((g p1 3) * (g o 1)) - ((g o 0) * (g p1 4)))), (0, (2, ((o : Nat) : Int))), (1, (2, ((p1 : Nat) : Int))), (2, (2, ((p2 : Nat) : Int)))]) 7 d_Sp_squeeze_240 rfl c63 rfl rfl ?_
            refine z_goto (tgt := 6) d_Sp_squeeze_243 (by decide) ?_
            refine z_sub (ls' := [(0, (2, ((o : Nat) : Int))), (1, (2, ((p1 : Nat) : Int))), (2, (2, ((p2 : Nat) : Int))), (3, (0, x3 + 1))]) [5, 6, 7, 0] rfl ?_
            exact h
          · have h := h.2 c62
            exact z_vret d_Sp_squeeze_239 rfl (by decide) (by decide) ⟨rfl, rfl, h⟩
        · have h := h.2 c58
          refine z_lload 1 d_Sp_squeeze_175 rfl ?_
          refine z_lload 0 d_Sp_squeeze_177 rfl ?_
          obtain ⟨c64, h⟩ := h
          refine z_ldiv d_Sp_squeeze_179 c64 ?_
          obtain ⟨c65, h⟩ := h
          refine z_l2i' d_Sp_squeeze_180 c65 ?_
          refine z_istore (ls' := [(12, (0, Int.tdiv (((g o 2) * ((z_up (z_up g o 0 ((g o 0) + ((Int.tdiv (((g p1 3) * (g o 1)) - ((g o 0) * (g p1 4))) (((g o 2) * (g p1 4)) - ((g p1 3) * (g o 3)))) * (g o 2)))) o 1 ((g o 1) + ((Int.tdiv (((g p1 3) * (g o 1)) - ((g o 0) * (g p1 4))) (((g o 2) * (g p1 4)) - ((g p1 3) * (g o 3)))) * (g o 3)))) p2 4)) - (((z_up (z_up g o 0 ((g o 0) + ((Int.tdiv (((g p1 3) * (g o 1)) - ((g o 0) * (g p1 4))) (((g o 2) * (g p1 4)) - ((g p1 3) * (g o 3)))) * (g o 2)))) o 1 ((g o 1) + ((Int.tdiv (((g p1 3) * (g o 1)) - ((g o 0) * (g p1 4))) (((g o 2) * (g p1 4)) - ((g p1 3) * (g o 3)))) * (g o 3)))) p2 3) * (g o 3))) ((((z_up (z_up g o 0 ((g o 0) + ((Int.tdiv (((g p1 3) * (g o 1)) - ((g o 0) * (g p1 4))) (((g o 2) * (g p1 4)) - ((g p1 3) * (g o 3)))) * (g o 2)))) o 1 ((g o 1) + ((Int.tdiv (((g p1 3) * (g o 1)) - ((g o 0) * (g p1 4))) (((g o 2) * (g p1 4)) - ((g p1 3) * (g o 3)))) * (g o 3)))) p2 3) * ((g o 1) + ((Int.tdiv (((g p1 3) * (g o 1)) - ((g o 0) * (g p1 4))) (((g o 2) * (g p1 4)) - ((g p1 3) * (g o 3)))) * (g o 3)))) - (((g o 0) + ((Int.tdiv (((g p1 3) * (g o 1)) - ((g o 0) * (g p1 4))) (((g o 2) * (g p1 4)) - ((g p1 3) * (g o 3)))) * (g o 2))) * ((z_up (z_up g o 0 ((g o 0) + ((Int.tdiv (((g p1 3) * (g o 1)) - ((g o 0) * (g p1 4))) (((g o 2) * (g p1 4)) - ((g p1 3) * (g o 3)))) * (g o 2)))) o 1 ((g o 1) + ((Int.tdiv (((g p1 3) * (g o 1)) - ((g o 0) * (g p1 4))) (((g o 2) * (g p1 4)) - ((g p1 3) * (g o 3)))) * (g o 3)))) p2 4))))), (10, (1, (((z_up (z_up g o 0 ((g o 0) + ((Int.tdiv (((g p1 3) * (g o 1)) - ((g o 0) * (g p1 4))) (((g o 2) * (g p1 4)) - ((g p1 3) * (g o 3)))) * (g o 2)))) o 1 ((g o 1) + ((Int.tdiv (((g p1 3) * (g o 1)) - ((g o 0) * (g p1 4))) (((g o 2) * (g p1 4)) - ((g p1 3) * (g o 3)))) * (g o 3)))) p2 3) * ((g o 1) + ((Int.tdiv (((g p1 3) * (g o 1)) - ((g o 0) * (g p1 4))) (((g o 2) * (g p1 4)) - ((g p1 3) * (g o 3)))) * (g o 3)))) - (((g o 0) + ((Int.tdiv (((g p1 3) * (g o 1)) - ((g o 0) * (g p1 4))) (((g o 2) * (g p1 4)) - ((g p1 3) * (g o 3)))) * (g o 2))) * ((z_up (z_up g o 0 ((g o 0) + ((Int.tdiv (((g p1 3) * (g o 1)) - ((g o 0) * (g p1 4))) (((g o 2) * (g p1 4)) - ((g p1 3) * (g o 3)))) * (g o 2)))) o 1 ((g o 1) + ((Int.tdiv (((g p1 3) * (g o 1)) - ((g o 0) * (g p1 4))) (((g o 2) * (g p1 4)) - ((g p1 3) * (g o 3)))) * (g o 3)))) p2 4)))), (8, (1, ((g o 2) * ((z_up (z_up g o 0 ((g o 0) + ((Int.tdiv (((g p1 3) * (g o 1)) - ((g o 0) * (g p1 4))) (((g o 2) * (g p1 4)) - ((g p1 3) * (g o 3)))) * (g o 2)))) o 1 ((g o 1) + ((Int.tdiv (((g p1 3) * (g o 1)) - ((g o 0) * (g p1 4))) (((g o 2) * (g p1 4)) - ((g p1 3) * (g o 3)))) * (g o 3)))) p2 4)) - (((z_up (z_up g o 0 ((g o 0) + ((Int.tdiv (((g p1 3) * (g o 1)) - ((g o 0) * (g p1 4))) (((g o 2) * (g p1 4)) - ((g p1 3) * (g o 3)))) * (g o 2)))) o 1 ((g o 1) + ((Int.tdiv (((g p1 3) * (g o 1)) - ((g o 0) * (g p1 4))) (((g o 2) * (g p1 4)) - ((g p1 3) * (g o 3)))) * (g o 3)))) p2 3) * (g o 3)))), (6, (1, ((g o 2) * (g p1 4)) - ((g p1 3) * (g o 3)))), (4, (1, ((g p1 3) * (g o 1)) - ((g o 0) * (g p1 4)))), (0, (2, ((o : Nat) : Int))), (1, (2, ((p1 : Nat) : Int))), (2, (2, ((p2 : Nat) : Int))), (3, (0, x3))]) d_Sp_squeeze_181 rfl rfl ?_
          refine z_aload_n (i := 0) (c := o) 5 d_Sp_squeeze_183 rfl rfl rfl ?_
          refine z_dup d_Sp_squeeze_184 rfl ?_
          refine z_geti (c := o) (kI := 2) d_Sp_squeeze_185 fd_Sp_highTop fl_Sp_21 (Or.inl rfl) rfl rfl (ks_Sp_0 ho) (kl_Sp_0 ho) ?_
          refine z_ti (b := g o 2) (by simp [z_up]) ?_
          refine z_iload 0 d_Sp_squeeze_188 rfl ?_
          refine z_aload_n (i := 0) (c := o) 5 d_Sp_squeeze_190 rfl rfl rfl ?_
          refine z_geti (c := o) (kI := 0) d_Sp_squeeze_191 fd_Sp_lowTop fl_Sp_14 (Or.inl rfl) rfl rfl (ks_Sp_0 ho) (kl_Sp_0 ho) ?_
          refine z_ti (b := (g o 0) + ((Int.tdiv (((g p1 3) * (g o 1)) - ((g o 0) * (g p1 4))) (((g o 2) * (g p1 4)) - ((g p1 3) * (g o 3)))) * (g o 2))) (by simp [z_up]) ?_
          obtain ⟨c66, h⟩ := h
          refine z_imul d_Sp_squeeze_194 c66 ?_
          obtain ⟨c67, h⟩ := h
          refine z_iadd d_Sp_squeeze_195 c67 ?_
          refine z_puti (c := o) (kI := 2) d_Sp_squeeze_196 fd_Sp_highTop fl_Sp_21 pf_Sp_highTop rfl rfl rfl rfl (ks_Sp_0 ho) (kl_Sp_0 ho) ?_
          refine z_aload_n (i := 0) (c := o) 5 d_Sp_squeeze_199 rfl rfl rfl ?_
          refine z_dup d_Sp_squeeze_200 rfl ?_
          refine z_geti (c := o) (kI := 3) d_Sp_squeeze_201 fd_Sp_highBottom fl_Sp_24 (Or.inl rfl) rfl rfl (ks_Sp_0 ho) (kl_Sp_0 ho) ?_
          refine z_ti (b := g o 3) (by simp [z_up]) ?_
          refine z_iload 0 d_Sp_squeeze_204 rfl ?_
          refine z_aload_n (i := 0) (c := o) 5 d_Sp_squeeze_206 rfl rfl rfl ?_
          refine z_geti (c := o) (kI := 1) d_Sp_squeeze_207 fd_Sp_lowBottom fl_Sp_18 (Or.inl rfl) rfl rfl (ks_Sp_0 ho) (kl_Sp_0 ho) ?_
          refine z_ti (b := (g o 1) + ((Int.tdiv (((g p1 3) * (g o 1)) - ((g o 0) * (g p1 4))) (((g o 2) * (g p1 4)) - ((g p1 3) * (g o 3)))) * (g o 3))) (by simp [z_up]) ?_
          obtain ⟨c68, h⟩ := h
          refine z_imul d_Sp_squeeze_210 c68 ?_
          obtain ⟨c69, h⟩ := h
          refine z_iadd d_Sp_squeeze_211 c69 ?_
          refine z_puti (c := o) (kI := 3) d_Sp_squeeze_212 fd_Sp_highBottom fl_Sp_24 pf_Sp_highBottom rfl rfl rfl rfl (ks_Sp_0 ho) (kl_Sp_0 ho) ?_
          refine z_aload_n (i := 0) (c := o) 5 d_Sp_squeeze_215 rfl rfl rfl ?_
          refine z_cV (c := o) (as := []) (d' := 1) (st := []) d_Sp_squeeze_216 mi_Sp_ownTop ml_Sp_55 mv_Sp_ownTop se_Sp_ownTop rfl rfl rfl rfl (ks_Sp_0 ho) rfl rfl (kl_Sp_0 ho) rfl rfl (b_Sp_ownTop_0 ho ?_)
          obtain ⟨c70, h⟩ := h
          refine ⟨c70, ?_⟩
          intro _
          show z_U X 2 m_Sp_squeeze 219 [(12, (0, Int.tdiv (((g o 2) * ((z_up (z_up g o 0 ((g o 0) + ((Int.tdiv (((g p1 3) * (g o 1)) - ((g o 0) * (g p1 4))) (((g o 2) * (g p1 4)) - ((g p1 3) * (g o 3)))) * (g o 2)))) o 1 ((g o 1) + ((Int.tdiv (((g p1 3) * (g o 1)) - ((g o 0) * (g p1 4))) (((g o 2) * (g p1 4)) - ((g p1 3) * (g o 3)))) * (g o 3)))) p2 4)) - (((z_up (z_up g o 0 ((g o 0) + ((Int.tdiv (((g p1 3) * (g o 1)) - ((g o 0) * (g p1 4))) (((g o 2) * (g p1 4)) - ((g p1 3) * (g o 3)))) * (g o 2)))) o 1 ((g o 1) + ((Int.tdiv (((g p1 3) * (g o 1)) - ((g o 0) * (g p1 4))) (((g o 2) * (g p1 4)) - ((g p1 3) * (g o 3)))) * (g o 3)))) p2 3) * (g o 3))) ((((z_up (z_up g o 0 ((g o 0) + ((Int.tdiv (((g p1 3) * (g o 1)) - ((g o 0) * (g p1 4))) (((g o 2) * (g p1 4)) - ((g p1 3) * (g o 3)))) * (g o 2)))) o 1 ((g o 1) + ((Int.tdiv (((g p1 3) * (g o 1)) - ((g o 0) * (g p1 4))) (((g o 2) * (g p1 4)) - ((g p1 3) * (g o 3)))) * (g o 3)))) p2 3) * ((g o 1) + ((Int.tdiv (((g p1 3) * (g o 1)) - ((g o 0) * (g p1 4))) (((g o 2) * (g p1 4)) - ((g p1 3) * (g o 3)))) * (g o 3)))) - (((g o 0) + ((Int.tdiv (((g p1 3) * (g o 1)) - ((g o 0) * (g p1 4))) (((g o 2) * (g p1 4)) - ((g p1 3) * (g o 3)))) * (g o 2))) * ((z_up (z_up g o 0 ((g o 0) + ((Int.tdiv (((g p1 3) * (g o 1)) - ((g o 0) * (g p1 4))) (((g o 2) * (g p1 4)) - ((g p1 3) * (g o 3)))) * (g o 2)))) o 1 ((g o 1) + ((Int.tdiv (((g p1 3) * (g o 1)) - ((g o 0) * (g p1 4))) (((g o 2) * (g p1 4)) - ((g p1 3) * (g o 3)))) * (g o 3)))) p2 4))))), (10, (1, (((z_up (z_up g o 0 ((g o 0) + ((Int.tdiv (((g p1 3) * (g o 1)) - ((g o 0) * (g p1 4))) (((g o 2) * (g p1 4)) - ((g p1 3) * (g o 3)))) * (g o 2)))) o 1 ((g o 1) + ((Int.tdiv (((g p1 3) * (g o 1)) - ((g o 0) * (g p1 4))) (((g o 2) * (g p1 4)) - ((g p1 3) * (g o 3)))) * (g o 3)))) p2 3) * ((g o 1) + ((Int.tdiv (((g p1 3) * (g o 1)) - ((g o 0) * (g p1 4))) (((g o 2) * (g p1 4)) - ((g p1 3) * (g o 3)))) * (g o 3)))) - (((g o 0) + ((Int.tdiv (((g p1 3) * (g o 1)) - ((g o 0) * (g p1 4))) (((g o 2) * (g p1 4)) - ((g p1 3) * (g o 3)))) * (g o 2))) * ((z_up (z_up g o 0 ((g o 0) + ((Int.tdiv (((g p1 3) * (g o 1)) - ((g o 0) * (g p1 4))) (((g o 2) * (g p1 4)) - ((g p1 3) * (g o 3)))) * (g o 2)))) o 1 ((g o 1) + ((Int.tdiv (((g p1 3) * (g o 1)) - ((g o 0) * (g p1 4))) (((g o 2) * (g p1 4)) - ((g p1 3) * (g o 3)))) * (g o 3)))) p2 4)))), (8, (1, ((g o 2) * ((z_up (z_up g o 0 ((g o 0) + ((Int.tdiv (((g p1 3) * (g o 1)) - ((g o 0) * (g p1 4))) (((g o 2) * (g p1 4)) - ((g p1 3) * (g o 3)))) * (g o 2)))) o 1 ((g o 1) + ((Int.tdiv (((g p1 3) * (g o 1)) - ((g o 0) * (g p1 4))) (((g o 2) * (g p1 4)) - ((g p1 3) * (g o 3)))) * (g o 3)))) p2 4)) - (((z_up (z_up g o 0 ((g o 0) + ((Int.tdiv (((g p1 3) * (g o 1)) - ((g o 0) * (g p1 4))) (((g o 2) * (g p1 4)) - ((g p1 3) * (g o 3)))) * (g o 2)))) o 1 ((g o 1) + ((Int.tdiv (((g p1 3) * (g o 1)) - ((g o 0) * (g p1 4))) (((g o 2) * (g p1 4)) - ((g p1 3) * (g o 3)))) * (g o 3)))) p2 3) * (g o 3)))), (6, (1, ((g o 2) * (g p1 4)) - ((g p1 3) * (g o 3)))), (4, (1, ((g p1 3) * (g o 1)) - ((g o 0) * (g p1 4)))), (0, (2, ((o : Nat) : Int))), (1, (2, ((p1 : Nat) : Int))), (2, (2, ((p2 : Nat) : Int))), (3, (0, x3))] [(0, ((z_up (z_up (z_up (z_up g o 0 ((g o 0) + ((Int.tdiv (((g p1 3) * (g o 1)) - ((g o 0) * (g p1 4))) (((g o 2) * (g p1 4)) - ((g p1 3) * (g o 3)))) * (g o 2)))) o 1 ((g o 1) + ((Int.tdiv (((g p1 3) * (g o 1)) - ((g o 0) * (g p1 4))) (((g o 2) * (g p1 4)) - ((g p1 3) * (g o 3)))) * (g o 3)))) o 2 ((g o 2) + ((Int.tdiv (((g o 2) * ((z_up (z_up g o 0 ((g o 0) + ((Int.tdiv (((g p1 3) * (g o 1)) - ((g o 0) * (g p1 4))) (((g o 2) * (g p1 4)) - ((g p1 3) * (g o 3)))) * (g o 2)))) o 1 ((g o 1) + ((Int.tdiv (((g p1 3) * (g o 1)) - ((g o 0) * (g p1 4))) (((g o 2) * (g p1 4)) - ((g p1 3) * (g o 3)))) * (g o 3)))) p2 4)) - (((z_up (z_up g o 0 ((g o 0) + ((Int.tdiv (((g p1 3) * (g o 1)) - ((g o 0) * (g p1 4))) (((g o 2) * (g p1 4)) - ((g p1 3) * (g o 3)))) * (g o 2)))) o 1 ((g o 1) + ((Int.tdiv (((g p1 3) * (g o 1)) - ((g o 0) * (g p1 4))) (((g o 2) * (g p1 4)) - ((g p1 3) * (g o 3)))) * (g o 3)))) p2 3) * (g o 3))) ((((z_up (z_up g o 0 ((g o 0) + ((Int.tdiv (((g p1 3) * (g o 1)) - ((g o 0) * (g p1 4))) (((g o 2) * (g p1 4)) - ((g p1 3) * (g o 3)))) * (g o 2)))) o 1 ((g o 1) + ((Int.tdiv (((g p1 3) * (g o 1)) - ((g o 0) * (g p1 4))) (((g o 2) * (g p1 4)) - ((g p1 3) * (g o 3)))) * (g o 3)))) p2 3) * ((g o 1) + ((Int.tdiv (((g p1 3) * (g o 1)) - ((g o 0) * (g p1 4))) (((g o 2) * (g p1 4)) - ((g p1 3) * (g o 3)))) * (g o 3)))) - (((g o 0) + ((Int.tdiv (((g p1 3) * (g o 1)) - ((g o 0) * (g p1 4))) (((g o 2) * (g p1 4)) - ((g p1 3) * (g o 3)))) * (g o 2))) * ((z_up (z_up g o 0 ((g o 0) + ((Int.tdiv (((g p1 3) * (g o 1)) - ((g o 0) * (g p1 4))) (((g o 2) * (g p1 4)) - ((g p1 3) * (g o 3)))) * (g o 2)))) o 1 ((g o 1) + ((Int.tdiv (((g p1 3) * (g o 1)) - ((g o 0) * (g p1 4))) (((g o 2) * (g p1 4)) - ((g p1 3) * (g o 3)))) * (g o 3)))) p2 4)))) * ((g o 0) + ((Int.tdiv (((g p1 3) * (g o 1)) - ((g o 0) * (g p1 4))) (((g o 2) * (g p1 4)) - ((g p1 3) * (g o 3)))) * (g o 2)))))) o 3 ((g o 3) + ((Int.tdiv (((g o 2) * ((z_up (z_up g o 0 ((g o 0) + ((Int.tdiv (((g p1 3) * (g o 1)) - ((g o 0) * (g p1 4))) (((g o 2) * (g p1 4)) - ((g p1 3) * (g o 3)))) * (g o 2)))) o 1 ((g o 1) + ((Int.tdiv (((g p1 3) * (g o 1)) - ((g o 0) * (g p1 4))) (((g o 2) * (g p1 4)) - ((g p1 3) * (g o 3)))) * (g o 3)))) p2 4)) - (((z_up (z_up g o 0 ((g o 0) + ((Int.tdiv (((g p1 3) * (g o 1)) - ((g o 0) * (g p1 4))) (((g o 2) * (g p1 4)) - ((g p1 3) * (g o 3)))) * (g o 2)))) o 1 ((g o 1) + ((Int.tdiv (((g p1 3) * (g o 1)) - ((g o 0) * (g p1 4))) (((g o 2) * (g p1 4)) - ((g p1 3) * (g o 3)))) * (g o 3)))) p2 3) * (g o 3))) ((((z_up (z_up g o 0 ((g o 0) + ((Int.tdiv (((g p1 3) * (g o 1)) - ((g o 0) * (g p1 4))) (((g o 2) * (g p1 4)) - ((g p1 3) * (g o 3)))) * (g o 2)))) o 1 ((g o 1) + ((Int.tdiv (((g p1 3) * (g o 1)) - ((g o 0) * (g p1 4))) (((g o 2) * (g p1 4)) - ((g p1 3) * (g o 3)))) * (g o 3)))) p2 3) * ((g o 1) + ((Int.tdiv (((g p1 3) * (g o 1)) - ((g o 0) * (g p1 4))) (((g o 2) * (g p1 4)) - ((g p1 3) * (g o 3)))) * (g o 3)))) - (((g o 0) + ((Int.tdiv (((g p1 3) * (g o 1)) - ((g o 0) * (g p1 4))) (((g o 2) * (g p1 4)) - ((g p1 3) * (g o 3)))) * (g o 2))) * ((z_up (z_up g o 0 ((g o 0) + ((Int.tdiv (((g p1 3) * (g o 1)) - ((g o 0) * (g p1 4))) (((g o 2) * (g p1 4)) - ((g p1 3) * (g o 3)))) * (g o 2)))) o 1 ((g o 1) + ((Int.tdiv (((g p1 3) * (g o 1)) - ((g o 0) * (g p1 4))) (((g o 2) * (g p1 4)) - ((g p1 3) * (g o 3)))) * (g o 3)))) p2 4)))) * ((g o 1) + ((Int.tdiv (((g p1 3) * (g o 1)) - ((g o 0) * (g p1 4))) (((g o 2) * (g p1 4)) - ((g p1 3) * (g o 3)))) * (g o 3)))))) o 0) + ((z_up (z_up (z_up (z_up g o 0 ((g o 0) + ((Int.tdiv (((g p1 3) * (g o 1)) - ((g o 0) * (g p1 4))) (((g o 2) * (g p1 4)) - ((g p1 3) * (g o 3)))) * (g o 2)))) o 1 ((g o 1) + ((Int.tdiv (((g p1 3) * (g o 1)) - ((g o 0) * (g p1 4))) (((g o 2) * (g p1 4)) - ((g p1 3) * (g o 3)))) * (g o 3)))) o 2 ((g o 2) + ((Int.tdiv (((g o 2) * ((z_up (z_up g o 0 ((g o 0) + ((Int.tdiv (((g p1 3) * (g o 1)) - ((g o 0) * (g p1 4))) (((g o 2) * (g p1 4)) - ((g p1 3) * (g o 3)))) * (g o 2)))) o 1 ((g o 1) + ((Int.tdiv (((g p1 3) * (g o 1)) - ((g o 0) * (g p1 4))) (((g o 2) * (g p1 4)) - ((g p1 3) * (g o 3)))) * (g o 3)))) p2 4)) - (((z_up (z_up g o 0 ((g o 0) + ((Int.tdiv (((g p1 3) * (g o 1)) - ((g o 0) * (g p1 4))) (((g o 2) * (g p1 4)) - ((g p1 3) * (g o 3)))) * (g o 2)))) o 1 ((g o 1) + ((Int.tdiv (((g p1 3) * (g o 1)) - ((g o 0) * (g p1 4))) (((g o 2) * (g p1 4)) - ((g p1 3) * (g o 3)))) * (g o 3)))) p2 3) * (g o 3))) ((((z_up (z_up g o 0 ((g o 0) + ((Int.tdiv (((g p1 3) * (g o 1)) - ((g o 0) * (g p1 4))) (((g o 2) * (g p1 4)) - ((g p1 3) * (g o 3)))) * (g o 2)))) o 1 ((g o 1) + ((Int.tdiv (((g p1 3) * (g o 1)) - ((g o 0) * (g p1 4))) (((g o 2) * (g p1 4)) - ((g p1 3) * (g o 3)))) * (g o 3)))) p2 3) * ((g o 1) + ((Int.tdiv (((g p1 3) * (g o 1)) - ((g o 0) * (g p1 4))) (((g o 2) * (g p1 4)) - ((g p1 3) * (g o 3)))) * (g o 3)))) - (((g o 0) + ((Int.tdiv (((g p1 3) * (g o 1)) - ((g o 0) * (g p1 4))) (((g o 2) * (g p1 4)) - ((g p1 3) * (g o 3)))) * (g o 2))) * ((z_up (z_up g o 0 ((g o 0) + ((Int.tdiv (((g p1 3) * (g o 1)) - ((g o 0) * (g p1 4))) (((g o 2) * (g p1 4)) - ((g p1 3) * (g o 3)))) * (g o 2)))) o 1 ((g o 1) + ((Int.tdiv (((g p1 3) * (g o 1)) - ((g o 0) * (g p1 4))) (((g o 2) * (g p1 4)) - ((g p1 3) * (g o 3)))) * (g o 3)))) p2 4)))) * ((g o 0) + ((Int.tdiv (((g p1 3) * (g o 1)) - ((g o 0) * (g p1 4))) (((g o 2) * (g p1 4)) - ((g p1 3) * (g o 3)))) * (g o 2)))))) o 3 ((g o 3) + ((Int.tdiv (((g o 2) * ((z_up (z_up g o 0 ((g o 0) + ((Int.tdiv (((g p1 3) * (g o 1)) - ((g o 0) * (g p1 4))) (((g o 2) * (g p1 4)) - ((g p1 3) * (g o 3)))) * (g o 2)))) o 1 ((g o 1) + ((Int.tdiv (((g p1 3) * (g o 1)) - ((g o 0) * (g p1 4))) (((g o 2) * (g p1 4)) - ((g p1 3) * (g o 3)))) * (g o 3)))) p2 4)) - (((z_up (z_up g o 0 ((g o 0) + ((Int.tdiv (((g p1 3) * (g o 1)) - ((g o 0) * (g p1 4))) (((g o 2) * (g p1 4)) - ((g p1 3) * (g o 3)))) * (g o 2)))) o 1 ((g o 1) + ((Int.tdiv (((g p1 3) * (g o 1)) - ((g o 0) * (g p1 4))) (((g o 2) * (g p1 4)) - ((g p1 3) * (g o 3)))) * (g o 3)))) p2 3) * (g o 3))) ((((z_up (z_up g o 0 ((g o 0) + ((Int.tdiv (((g p1 3) * (g o 1)) - ((g o 0) * (g p1 4))) (((g o 2) * (g p1 4)) - ((g p1 3) * (g o 3)))) * (g o 2)))) o 1 ((g o 1) + ((Int.tdiv (((g p1 3) * (g o 1)) - ((g o 0) * (g p1 4))) (((g o 2) * (g p1 4)) - ((g p1 3) * (g o 3)))) * (g o 3)))) p2 3) * ((g o 1) + ((Int.tdiv (((g p1 3) * (g o 1)) - ((g o 0) * (g p1 4))) (((g o 2) * (g p1 4)) - ((g p1 3) * (g o 3)))) * (g o 3)))) - (((g o 0) + ((Int.tdiv (((g p1 3) * (g o 1)) - ((g o 0) * (g p1 4))) (((g o 2) * (g p1 4)) - ((g p1 3) * (g o 3)))) * (g o 2))) * ((z_up (z_up g o 0 ((g o 0) + ((Int.tdiv (((g p1 3) * (g o 1)) - ((g o 0) * (g p1 4))) (((g o 2) * (g p1 4)) - ((g p1 3) * (g o 3)))) * (g o 2)))) o 1 ((g o 1) + ((Int.tdiv (((g p1 3) * (g o 1)) - ((g o 0) * (g p1 4))) (((g o 2) * (g p1 4)) - ((g p1 3) * (g o 3)))) * (g o 3)))) p2 4)))) * ((g o 1) + ((Int.tdiv (((g p1 3) * (g o 1)) - ((g o 0) * (g p1 4))) (((g o 2) * (g p1 4)) - ((g p1 3) * (g o 3)))) * (g o 3)))))) o 2))] N σ (z_up (z_up (z_up (z_up g o 0 ((g o 0) + ((Int.tdiv (((g p1 3) * (g o 1)) - ((g o 0) * (g p1 4))) (((g o 2) * (g p1 4)) - ((g p1 3) * (g o 3)))) * (g o 2)))) o 1 ((g o 1) + ((Int.tdiv (((g p1 3) * (g o 1)) - ((g o 0) * (g p1 4))) (((g o 2) * (g p1 4)) - ((g p1 3) * (g o 3)))) * (g o 3)))) o 2 ((g o 2) + ((Int.tdiv (((g o 2) * ((z_up (z_up g o 0 ((g o 0) + ((Int.tdiv (((g p1 3) * (g o 1)) - ((g o 0) * (g p1 4))) (((g o 2) * (g p1 4)) - ((g p1 3) * (g o 3)))) * (g o 2)))) o 1 ((g o 1) + ((Int.tdiv (((g p1 3) * (g o 1)) - ((g o 0) * (g p1 4))) (((g o 2) * (g p1 4)) - ((g p1 3) * (g o 3)))) * (g o 3)))) p2 4)) - (((z_up (z_up g o 0 ((g o 0) + ((Int.tdiv (((g p1 3) * (g o 1)) - ((g o 0) * (g p1 4))) (((g o 2) * (g p1 4)) - ((g p1 3) * (g o 3)))) * (g o 2)))) o 1 ((g o 1) + ((Int.tdiv (((g p1 3) * (g o 1)) - ((g o 0) * (g p1 4))) (((g o 2) * (g p1 4)) - ((g p1 3) * (g o 3)))) * (g o 3)))) p2 3) * (g o 3))) ((((z_up (z_up g o 0 ((g o 0) + ((Int.tdiv (((g p1 3) * (g o 1)) - ((g o 0) * (g p1 4))) (((g o 2) * (g p1 4)) - ((g p1 3) * (g o 3)))) * (g o 2)))) o 1 ((g o 1) + ((Int.tdiv (((g p1 3) * (g o 1)) - ((g o 0) * (g p1 4))) (((g o 2) * (g p1 4)) - ((g p1 3) * (g o 3)))) * (g o 3)))) p2 3) * ((g o 1) + ((Int.tdiv (((g p1 3) * (g o 1)) - ((g o 0) * (g p1 4))) (((g o 2) * (g p1 4)) - ((g p1 3) * (g o 3)))) * (g o 3)))) - (((g o 0) + ((Int.tdiv (((g p1 3) * (g o 1)) - ((g o 0) * (g p1 4))) (((g o 2) * (g p1 4)) - ((g p1 3) * (g o 3)))) * (g o 2))) * ((z_up (z_up g o 0 ((g o 0) + ((Int.tdiv (((g p1 3) * (g o 1)) - ((g o 0) * (g p1 4))) (((g o 2) * (g p1 4)) - ((g p1 3) * (g o 3)))) * (g o 2)))) o 1 ((g o 1) + ((Int.tdiv (((g p1 3) * (g o 1)) - ((g o 0) * (g p1 4))) (((g o 2) * (g p1 4)) - ((g p1 3) * (g o 3)))) * (g o 3)))) p2 4)))) * ((g o 0) + ((Int.tdiv (((g p1 3) * (g o 1)) - ((g o 0) * (g p1 4))) (((g o 2) * (g p1 4)) - ((g p1 3) * (g o 3)))) * (g o 2)))))) o 3 ((g o 3) + ((Int.tdiv (((g o 2) * ((z_up (z_up g o 0 ((g o 0) + ((Int.tdiv (((g p1 3) * (g o 1)) - ((g o 0) * (g p1 4))) (((g o 2) * (g p1 4)) - ((g p1 3) * (g o 3)))) * (g o 2)))) o 1 ((g o 1) + ((Int.tdiv (((g p1 3) * (g o 1)) - ((g o 0) * (g p1 4))) (((g o 2) * (g p1 4)) - ((g p1 3) * (g o 3)))) * (g o 3)))) p2 4)) - (((z_up (z_up g o 0 ((g o 0) + ((Int.tdiv (((g p1 3) * (g o 1)) - ((g o 0) * (g p1 4))) (((g o 2) * (g p1 4)) - ((g p1 3) * (g o 3)))) * (g o 2)))) o 1 ((g o 1) + ((Int.tdiv (((g p1 3) * (g o 1)) - ((g o 0) * (g p1 4))) (((g o 2) * (g p1 4)) - ((g p1 3) * (g o 3)))) * (g o 3)))) p2 3) * (g o 3))) ((((z_up (z_up g o 0 ((g o 0) + ((Int.tdiv (((g p1 3) * (g o 1)) - ((g o 0) * (g p1 4))) (((g o 2) * (g p1 4)) - ((g p1 3) * (g o 3)))) * (g o 2)))) o 1 ((g o 1) + ((Int.tdiv (((g p1 3) * (g o 1)) - ((g o 0) * (g p1 4))) (((g o 2) * (g p1 4)) - ((g p1 3) * (g o 3)))) * (g o 3)))) p2 3) * ((g o 1) + ((Int.tdiv (((g p1 3) * (g o 1)) - ((g o 0) * (g p1 4))) (((g o 2) * (g p1 4)) - ((g p1 3) * (g o 3)))) * (g o 3)))) - (((g o 0) + ((Int.tdiv (((g p1 3) * (g o 1)) - ((g o 0) * (g p1 4))) (((g o 2) * (g p1 4)) - ((g p1 3) * (g o 3)))) * (g o 2))) * ((z_up (z_up g o 0 ((g o 0) + ((Int.tdiv (((g p1 3) * (g o 1)) - ((g o 0) * (g p1 4))) (((g o 2) * (g p1 4)) - ((g p1 3) * (g o 3)))) * (g o 2)))) o 1 ((g o 1) + ((Int.tdiv (((g p1 3) * (g o 1)) - ((g o 0) * (g p1 4))) (((g o 2) * (g p1 4)) - ((g p1 3) * (g o 3)))) * (g o 3)))) p2 4)))) * ((g o 1) + ((Int.tdiv (((g p1 3) * (g o 1)) - ((g o 0) * (g p1 4))) (((g o 2) * (g p1 4)) - ((g p1 3) * (g o 3)))) * (g o 3)))))) Q
          refine z_aload_n (i := 0) (c := o) 5 d_Sp_squeeze_219 rfl rfl rfl ?_
          refine z_cV (c := o) (as := []) (d' := 1) (st := [(0, ((z_up (z_up (z_up (z_up g o 0 ((g o 0) + ((Int.tdiv (((g p1 3) * (g o 1)) - ((g o 0) * (g p1 4))) (((g o 2) * (g p1 4)) - ((g p1 3) * (g o 3)))) * (g o 2)))) o 1 ((g o 1) + ((Int.tdiv (((g p1 3) * (g o 1)) - ((g o 0) * (g p1 4))) (((g o 2) * (g p1 4)) - ((g p1 3) * (g o 3)))) * (g o 3)))) o 2 ((g o 2) + ((Int.tdiv (((g o 2) * ((z_up (z_up g o 0 ((g o 0) + ((Int.tdiv (((g p1 3) * (g o 1)) - ((g o 0) * (g p1 4))) (((g o 2) * (g p1 4)) - ((g p1 3) * (g o 3)))) * (g o 2)))) o 1 ((g o 1) + ((Int.tdiv (((g p1 3) * (g o 1)) - ((g o 0) * (g p1 4))) (((g o 2) * (g p1 4)) - ((g p1 3) * (g o 3)))) * (g o 3)))) p2 4)) - (((z_up (z_up g o 0 ((g o 0) + ((Int.tdiv (((g p1 3) * (g o 1)) - ((g o 0) * (g p1 4))) (((g o 2) * (g p1 4)) - ((g p1 3) * (g o 3)))) * (g o 2)))) o 1 ((g o 1) + ((Int.tdiv (((g p1 3) * (g o 1)) - ((g o 0) * (g p1 4))) (((g o 2) * (g p1 4)) - ((g p1 3) * (g o 3)))) * (g o 3)))) p2 3) * (g o 3))) ((((z_up (z_up g o 0 ((g o 0) + ((Int.tdiv (((g p1 3) * (g o 1)) - ((g o 0) * (g p1 4))) (((g o 2) * (g p1 4)) - ((g p1 3) * (g o 3)))) * (g o 2)))) o 1 ((g o 1) + ((Int.tdiv (((g p1 3) * (g o 1)) - ((g o 0) * (g p1 4))) (((g o 2) * (g p1 4)) - ((g p1 3) * (g o 3)))) * (g o 3)))) p2 3) * ((g o 1) + ((Int.tdiv (((g p1 3) * (g o 1)) - ((g o 0) * (g p1 4))) (((g o 2) * (g p1 4)) - ((g p1 3) * (g o 3)))) * (g o 3)))) - (((g o 0) + ((Int.tdiv (((g p1 3) * (g o 1)) - ((g o 0) * (g p1 4))) (((g o 2) * (g p1 4)) - ((g p1 3) * (g o 3)))) * (g o 2))) * ((z_up (z_up g o 0 ((g o 0) + ((Int.tdiv (((g p1 3) * (g o 1)) - ((g o 0) * (g p1 4))) (((g o 2) * (g p1 4)) - ((g p1 3) * (g o 3)))) * (g o 2)))) o 1 ((g o 1) + ((Int.tdiv (((g p1 3) * (g o 1)) - ((g o 0) * (g p1 4))) (((g o 2) * (g p1 4)) - ((g p1 3) * (g o 3)))) * (g o 3)))) p2 4)))) * ((g o 0) + ((Int.tdiv (((g p1 3) * (g o 1)) - ((g o 0) * (g p1 4))) (((g o 2) * (g p1 4)) - ((g p1 3) * (g o 3)))) * (g o 2)))))) o 3 ((g o 3) + ((Int.tdiv (((g o 2) * ((z_up (z_up g o 0 ((g o 0) + ((Int.tdiv (((g p1 3) * (g o 1)) - ((g o 0) * (g p1 4))) (((g o 2) * (g p1 4)) - ((g p1 3) * (g o 3)))) * (g o 2)))) o 1 ((g o 1) + ((Int.tdiv (((g p1 3) * (g o 1)) - ((g o 0) * (g p1 4))) (((g o 2) * (g p1 4)) - ((g p1 3) * (g o 3)))) * (g o 3)))) p2 4)) - (((z_up (z_up g o 0 ((g o 0) + ((Int.tdiv (((g p1 3) * (g o 1)) - ((g o 0) * (g p1 4))) (((g o 2) * (g p1 4)) - ((g p1 3) * (g o 3)))) * (g o 2)))) o 1 ((g o 1) + ((Int.tdiv (((g p1 3) * (g o 1)) - ((g o 0) * (g p1 4))) (((g o 2) * (g p1 4)) - ((g p1 3) * (g o 3)))) * (g o 3)))) p2 3) * (g o 3))) ((((z_up (z_up g o 0 ((g o 0) + ((Int.tdiv (((g p1 3) * (g o 1)) - ((g o 0) * (g p1 4))) (((g o 2) * (g p1 4)) - ((g p1 3) * (g o 3)))) * (g o 2)))) o 1 ((g o 1) + ((Int.tdiv (((g p1 3) * (g o 1)) - ((g o 0) * (g p1 4))) (((g o 2) * (g p1 4)) - ((g p1 3) * (g o 3)))) * (g o 3)))) p2 3) * ((g o 1) + ((Int.tdiv (((g p1 3) * (g o 1)) - ((g o 0) * (g p1 4))) (((g o 2) * (g p1 4)) - ((g p1 3) * (g o 3)))) * (g o 3)))) - (((g o 0) + ((Int.tdiv (((g p1 3) * (g o 1)) - ((g o 0) * (g p1 4))) (((g o 2) * (g p1 4)) - ((g p1 3) * (g o 3)))) * (g o 2))) * ((z_up (z_up g o 0 ((g o 0) + ((Int.tdiv (((g p1 3) * (g o 1)) - ((g o 0) * (g p1 4))) (((g o 2) * (g p1 4)) - ((g p1 3) * (g o 3)))) * (g o 2)))) o 1 ((g o 1) + ((Int.tdiv (((g p1 3) * (g o 1)) - ((g o 0) * (g p1 4))) (((g o 2) * (g p1 4)) - ((g p1 3) * (g o 3)))) * (g o 3)))) p2 4)))) * ((g o 1) + ((Int.tdiv (((g p1 3) * (g o 1)) - ((g o 0) * (g p1 4))) (((g o 2) * (g p1 4)) - ((g p1 3) * (g o 3)))) * (g o 3)))))) o 0) + ((z_up (z_up (z_up (z_up g o 0 ((g o 0) + ((Int.tdiv (((g p1 3) * (g o 1)) - ((g o 0) * (g p1 4))) (((g o 2) * (g p1 4)) - ((g p1 3) * (g o 3)))) * (g o 2)))) o 1 ((g o 1) + ((Int.tdiv (((g p1 3) * (g o 1)) - ((g o 0) * (g p1 4))) (((g o 2) * (g p1 4)) - ((g p1 3) * (g o 3)))) * (g o 3)))) o 2 ((g o 2) + ((Int.tdiv (((g o 2) * ((z_up (z_up g o 0 ((g o 0) + ((Int.tdiv (((g p1 3) * (g o 1)) - ((g o 0) * (g p1 4))) (((g o 2) * (g p1 4)) - ((g p1 3) * (g o 3)))) * (g o 2)))) o 1 ((g o 1) + ((Int.tdiv (((g p1 3) * (g o 1)) - ((g o 0) * (g p1 4))) (((g o 2) * (g p1 4)) - ((g p1 3) * (g o 3)))) * (g o 3)))) p2 4)) - (((z_up (z_up g o 0 ((g o 0) + ((Int.tdiv (((g p1 3) * (g o 1)) - ((g o 0) * (g p1 4))) (((g o 2) * (g p1 4)) - ((g p1 3) * (g o 3)))) * (g o 2)))) o 1 ((g o 1) + ((Int.tdiv (((g p1 3) * (g o 1)) - ((g o 0) * (g p1 4))) (((g o 2) * (g p1 4)) - ((g p1 3) * (g o 3)))) * (g o 3)))) p2 3) * (g o 3))) ((((z_up (z_up g o 0 ((g o 0) + ((Int.tdiv (((g p1 3) * (g o 1)) - ((g o 0) * (g p1 4))) (((g o 2) * (g p1 4)) - ((g p1 3) * (g o 3)))) * (g o 2)))) o 1 ((g o 1) + ((Int.tdiv (((g p1 3) * (g o 1)) - ((g o 0) * (g p1 4))) (((g o 2) * (g p1 4)) - ((g p1 3) * (g o 3)))) * (g o 3)))) p2 3) * ((g o 1) + ((Int.tdiv (((g p1 3) * (g o 1)) - ((g o 0) * (g p1 4))) (((g o 2) * (g p1 4)) - ((g p1 3) * (g o 3)))) * (g o 3)))) - (((g o 0) + ((Int.tdiv (((g p1 3) * (g o 1)) - ((g o 0) * (g p1 4))) (((g o 2) * (g p1 4)) - ((g p1 3) * (g o 3)))) * (g o 2))) * ((z_up (z_up g o 0 ((g o 0) + ((Int.tdiv (((g p1 3) * (g o 1)) - ((g o 0) * (g p1 4))) (((g o 2) * (g p1 4)) - ((g p1 3) * (g o 3)))) * (g o 2)))) o 1 ((g o 1) + ((Int.tdiv (((g p1 3) * (g o 1)) - ((g o 0) * (g p1 4))) (((g o 2) * (g p1 4)) - ((g p1 3) * (g o 3)))) * (g o 3)))) p2 4)))) * ((g o 0) + ((Int.tdiv (((g p1 3) * (g o 1)) - ((g o 0) * (g p1 4))) (((g o 2) * (g p1 4)) - ((g p1 3) * (g o 3)))) * (g o 2)))))) o 3 ((g o 3) + ((Int.tdiv (((g o 2) * ((z_up (z_up g o 0 ((g o 0) + ((Int.tdiv (((g p1 3) * (g o 1)) - ((g o 0) * (g p1 4))) (((g o 2) * (g p1 4)) - ((g p1 3) * (g o 3)))) * (g o 2)))) o 1 ((g o 1) + ((Int.tdiv (((g p1 3) * (g o 1)) - ((g o 0) * (g p1 4))) (((g o 2) * (g p1 4)) - ((g p1 3) * (g o 3)))) * (g o 3)))) p2 4)) - (((z_up (z_up g o 0 ((g o 0) + ((Int.tdiv (((g p1 3) * (g o 1)) - ((g o 0) * (g p1 4))) (((g o 2) * (g p1 4)) - ((g p1 3) * (g o 3)))) * (g o 2)))) o 1 ((g o 1) + ((Int.tdiv (((g p1 3) * (g o 1)) - ((g o 0) * (g p1 4))) (((g o 2) * (g p1 4)) - ((g p1 3) * (g o 3)))) * (g o 3)))) p2 3) * (g o 3))) ((((z_up (z_up g o 0 ((g o 0) + ((Int.tdiv (((g p1 3) * (g o 1)) - ((g o 0) * (g p1 4))) (((g o 2) * (g p1 4)) - ((g p1 3) * (g o 3)))) * (g o 2)))) o 1 ((g o 1) + ((Int.tdiv (((g p1 3) * (g o 1)) - ((g o 0) * (g p1 4))) (((g o 2) * (g p1 4)) - ((g p1 3) * (g o 3)))) * (g o 3)))) p2 3) * ((g o 1) + ((Int.tdiv (((g p1 3) * (g o 1)) - ((g o 0) * (g p1 4))) (((g o 2) * (g p1 4)) - ((g p1 3) * (g o 3)))) * (g o 3)))) - (((g o 0) + ((Int.tdiv (((g p1 3) * (g o 1)) - ((g o 0) * (g p1 4))) (((g o 2) * (g p1 4)) - ((g p1 3) * (g o 3)))) * (g o 2))) * ((z_up (z_up g o 0 ((g o 0) + ((Int.tdiv (((g p1 3) * (g o 1)) - ((g o 0) * (g p1 4))) (((g o 2) * (g p1 4)) - ((g p1 3) * (g o 3)))) * (g o 2)))) o 1 ((g o 1) + ((Int.tdiv (((g p1 3) * (g o 1)) - ((g o 0) * (g p1 4))) (((g o 2) * (g p1 4)) - ((g p1 3) * (g o 3)))) * (g o 3)))) p2 4)))) * ((g o 1) + ((Int.tdiv (((g p1 3) * (g o 1)) - ((g o 0) * (g p1 4))) (((g o 2) * (g p1 4)) - ((g p1 3) * (g o 3)))) * (g o 3)))))) o 2))]) d_Sp_squeeze_220 mi_Sp_ownBottom ml_Sp_52 mv_Sp_ownBottom se_Sp_ownBottom rfl rfl rfl rfl (ks_Sp_0 ho) rfl rfl (kl_Sp_0 ho) rfl rfl (b_Sp_ownBottom_0 ho ?_)
          obtain ⟨c71, h⟩ := h
          refine ⟨c71, ?_⟩
          intro _
          show z_U X 2 m_Sp_squeeze 223 [(12, (0, Int.tdiv (((g o 2) * ((z_up (z_up g o 0 ((g o 0) + ((Int.tdiv (((g p1 3) * (g o 1)) - ((g o 0) * (g p1 4))) (((g o 2) * (g p1 4)) - ((g p1 3) * (g o 3)))) * (g o 2)))) o 1 ((g o 1) + ((Int.tdiv (((g p1 3) * (g o 1)) - ((g o 0) * (g p1 4))) (((g o 2) * (g p1 4)) - ((g p1 3) * (g o 3)))) * (g o 3)))) p2 4)) - (((z_up (z_up g o 0 ((g o 0) + ((Int.tdiv (((g p1 3) * (g o 1)) - ((g o 0) * (g p1 4))) (((g o 2) * (g p1 4)) - ((g p1 3) * (g o 3)))) * (g o 2)))) o 1 ((g o 1) + ((Int.tdiv (((g p1 3) * (g o 1)) - ((g o 0) * (g p1 4))) (((g o 2) * (g p1 4)) - ((g p1 3) * (g o 3)))) * (g o 3)))) p2 3) * (g o 3))) ((((z_up (z_up g o 0 ((g o 0) + ((Int.tdiv (((g p1 3) * (g o 1)) - ((g o 0) * (g p1 4))) (((g o 2) * (g p1 4)) - ((g p1 3) * (g o 3)))) * (g o 2)))) o 1 ((g o 1) + ((Int.tdiv (((g p1 3) * (g o 1)) - ((g o 0) * (g p1 4))) (((g o 2) * (g p1 4)) - ((g p1 3) * (g o 3)))) * (g o 3)))) p2 3) * ((g o 1) + ((Int.tdiv (((g p1 3) * (g o 1)) - ((g o 0) * (g p1 4))) (((g o 2) * (g p1 4)) - ((g p1 3) * (g o 3)))) * (g o 3)))) - (((g o 0) + ((Int.tdiv (((g p1 3) * (g o 1)) - ((g o 0) * (g p1 4))) (((g o 2) * (g p1 4)) - ((g p1 3) * (g o 3)))) * (g o 2))) * ((z_up (z_up g o 0 ((g o 0) + ((Int.tdiv (((g p1 3) * (g o 1)) - ((g o 0) * (g p1 4))) (((g o 2) * (g p1 4)) - ((g p1 3) * (g o 3)))) * (g o 2)))) o 1 ((g o 1) + ((Int.tdiv (((g p1 3) * (g o 1)) - ((g o 0) * (g p1 4))) (((g o 2) * (g p1 4)) - ((g p1 3) * (g o 3)))) * (g o 3)))) p2 4))))), (10, (1, (((z_up (z_up g o 0 ((g o 0) + ((Int.tdiv (((g p1 3) * (g o 1)) - ((g o 0) * (g p1 4))) (((g o 2) * (g p1 4)) - ((g p1 3) * (g o 3)))) * (g o 2)))) o 1 ((g o 1) + ((Int.tdiv (((g p1 3) * (g o 1)) - ((g o 0) * (g p1 4))) (((g o 2) * (g p1 4)) - ((g p1 3) * (g o 3)))) * (g o 3)))) p2 3) * ((g o 1) + ((Int.tdiv (((g p1 3) * (g o 1)) - ((g o 0) * (g p1 4))) (((g o 2) * (g p1 4)) - ((g p1 3) * (g o 3)))) * (g o 3)))) - (((g o 0) + ((Int.tdiv (((g p1 3) * (g o 1)) - ((g o 0) * (g p1 4))) (((g o 2) * (g p1 4)) - ((g p1 3) * (g o 3)))) * (g o 2))) * ((z_up (z_up g o 0 ((g o 0) + ((Int.tdiv (((g p1 3) * (g o 1)) - ((g o 0) * (g p1 4))) (((g o 2) * (g p1 4)) - ((g p1 3) * (g o 3)))) * (g o 2)))) o 1 ((g o 1) + ((Int.tdiv (((g p1 3) * (g o 1)) - ((g o 0) * (g p1 4))) (((g o 2) * (g p1 4)) - ((g p1 3) * (g o 3)))) * (g o 3)))) p2 4)))), (8, (1, ((g o 2) * ((z_up (z_up g o 0 ((g o 0) + ((Int.tdiv (((g p1 3) * (g o 1)) - ((g o 0) * (g p1 4))) (((g o 2) * (g p1 4)) - ((g p1 3) * (g o 3)))) * (g o 2)))) o 1 ((g o 1) + ((Int.tdiv (((g p1 3) * (g o 1)) - ((g o 0) * (g p1 4))) (((g o 2) * (g p1 4)) - ((g p1 3) * (g o 3)))) * (g o 3)))) p2 4)) - (((z_up (z_up g o 0 ((g o 0) + ((Int.tdiv (((g p1 3) * (g o 1)) - ((g o 0) * (g p1 4))) (((g o 2) * (g p1 4)) - ((g p1 3) * (g o 3)))) * (g o 2)))) o 1 ((g o 1) + ((Int.tdiv (((g p1 3) * (g o 1)) - ((g o 0) * (g p1 4))) (((g o 2) * (g p1 4)) - ((g p1 3) * (g o 3)))) * (g o 3)))) p2 3) * (g o 3)))), (6, (1, ((g o 2) * (g p1 4)) - ((g p1 3) * (g o 3)))), (4, (1, ((g p1 3) * (g o 1)) - ((g o 0) * (g p1 4)))), (0, (2, ((o : Nat) : Int))), (1, (2, ((p1 : Nat) : Int))), (2, (2, ((p2 : Nat) : Int))), (3, (0, x3))] [(0, ((z_up (z_up (z_up (z_up g o 0 ((g o 0) + ((Int.tdiv (((g p1 3) * (g o 1)) - ((g o 0) * (g p1 4))) (((g o 2) * (g p1 4)) - ((g p1 3) * (g o 3)))) * (g o 2)))) o 1 ((g o 1) + ((Int.tdiv (((g p1 3) * (g o 1)) - ((g o 0) * (g p1 4))) (((g o 2) * (g p1 4)) - ((g p1 3) * (g o 3)))) * (g o 3)))) o 2 ((g o 2) + ((Int.tdiv (((g o 2) * ((z_up (z_up g o 0 ((g o 0) + ((Int.tdiv (((g p1 3) * (g o 1)) - ((g o 0) * (g p1 4))) (((g o 2) * (g p1 4)) - ((g p1 3) * (g o 3)))) * (g o 2)))) o 1 ((g o 1) + ((Int.tdiv (((g p1 3) * (g o 1)) - ((g o 0) * (g p1 4))) (((g o 2) * (g p1 4)) - ((g p1 3) * (g o 3)))) * (g o 3)))) p2 4)) - (((z_up (z_up g o 0 ((g o 0) + ((Int.tdiv (((g p1 3) * (g o 1)) - ((g o 0) * (g p1 4))) (((g o 2) * (g p1 4)) - ((g p1 3) * (g o 3)))) * (g o 2)))) o 1 ((g o 1) + ((Int.tdiv (((g p1 3) * (g o 1)) - ((g o 0) * (g p1 4))) (((g o 2) * (g p1 4)) - ((g p1 3) * (g o 3)))) * (g o 3)))) p2 3) * (g o 3))) ((((z_up (z_up g o 0 ((g o 0) + ((Int.tdiv (((g p1 3) * (g o 1)) - ((g o 0) * (g p1 4))) (((g o 2) * (g p1 4)) - ((g p1 3) * (g o 3)))) * (g o 2)))) o 1 ((g o 1) + ((Int.tdiv (((g p1 3) * (g o 1)) - ((g o 0) * (g p1 4))) (((g o 2) * (g p1 4)) - ((g p1 3) * (g o 3)))) * (g o 3)))) p2 3) * ((g o 1) + ((Int.tdiv (((g p1 3) * (g o 1)) - ((g o 0) * (g p1 4))) (((g o 2) * (g p1 4)) - ((g p1 3) * (g o 3)))) * (g o 3)))) - (((g o 0) + ((Int.tdiv (((g p1 3) * (g o 1)) - ((g o 0) * (g p1 4))) (((g o 2) * (g p1 4)) - ((g p1 3) * (g o 3)))) * (g o 2))) * ((z_up (z_up g o 0 ((g o 0) + ((Int.tdiv (((g p1 3) * (g o 1)) - ((g o 0) * (g p1 4))) (((g o 2) * (g p1 4)) - ((g p1 3) * (g o 3)))) * (g o 2)))) o 1 ((g o 1) + ((Int.tdiv (((g p1 3) * (g o 1)) - ((g o 0) * (g p1 4))) (((g o 2) * (g p1 4)) - ((g p1 3) * (g o 3)))) * (g o 3)))) p2 4)))) * ((g o 0) + ((Int.tdiv (((g p1 3) * (g o 1)) - ((g o 0) * (g p1 4))) (((g o 2) * (g p1 4)) - ((g p1 3) * (g o 3)))) * (g o 2)))))) o 3 ((g o 3) + ((Int.tdiv (((g o 2) * ((z_up (z_up g o 0 ((g o 0) + ((Int.tdiv (((g p1 3) * (g o 1)) - ((g o 0) * (g p1 4))) (((g o 2) * (g p1 4)) - ((g p1 3) * (g o 3)))) * (g o 2)))) o 1 ((g o 1) + ((Int.tdiv (((g p1 3) * (g o 1)) - ((g o 0) * (g p1 4))) (((g o 2) * (g p1 4)) - ((g p1 3) * (g o 3)))) * (g o 3)))) p2 4)) - (((z_up (z_up g o 0 ((g o 0) + ((Int.tdiv (((g p1 3) * (g o 1)) - ((g o 0) * (g p1 4))) (((g o 2) * (g p1 4)) - ((g p1 3) * (g o 3)))) * (g o 2)))) o 1 ((g o 1) + ((Int.tdiv (((g p1 3) * (g o 1)) - ((g o 0) * (g p1 4))) (((g o 2) * (g p1 4)) - ((g p1 3) * (g o 3)))) * (g o 3)))) p2 3) * (g o 3))) ((((z_up (z_up g o 0 ((g o 0) + ((Int.tdiv (((g p1 3) * (g o 1)) - ((g o 0) * (g p1 4))) (((g o 2) * (g p1 4)) - ((g p1 3) * (g o 3)))) * (g o 2)))) o 1 ((g o 1) + ((Int.tdiv (((g p1 3) * (g o 1)) - ((g o 0) * (g p1 4))) (((g o 2) * (g p1 4)) - ((g p1 3) * (g o 3)))) * (g o 3)))) p2 3) * ((g o 1) + ((Int.tdiv (((g p1 3) * (g o 1)) - ((g o 0) * (g p1 4))) (((g o 2) * (g p1 4)) - ((g p1 3) * (g o 3)))) * (g o 3)))) - (((g o 0) + ((Int.tdiv (((g p1 3) * (g o 1)) - ((g o 0) * (g p1 4))) (((g o 2) * (g p1 4)) - ((g p1 3) * (g o 3)))) * (g o 2))) * ((z_up (z_up g o 0 ((g o 0) + ((Int.tdiv (((g p1 3) * (g o 1)) - ((g o 0) * (g p1 4))) (((g o 2) * (g p1 4)) - ((g p1 3) * (g o 3)))) * (g o 2)))) o 1 ((g o 1) + ((Int.tdiv (((g p1 3) * (g o 1)) - ((g o 0) * (g p1 4))) (((g o 2) * (g p1 4)) - ((g p1 3) * (g o 3)))) * (g o 3)))) p2 4)))) * ((g o 1) + ((Int.tdiv (((g p1 3) * (g o 1)) - ((g o 0) * (g p1 4))) (((g o 2) * (g p1 4)) - ((g p1 3) * (g o 3)))) * (g o 3)))))) o 1) + ((z_up (z_up (z_up (z_up g o 0 ((g o 0) + ((Int.tdiv (((g p1 3) * (g o 1)) - ((g o 0) * (g p1 4))) (((g o 2) * (g p1 4)) - ((g p1 3) * (g o 3)))) * (g o 2)))) o 1 ((g o 1) + ((Int.tdiv (((g p1 3) * (g o 1)) - ((g o 0) * (g p1 4))) (((g o 2) * (g p1 4)) - ((g p1 3) * (g o 3)))) * (g o 3)))) o 2 ((g o 2) + ((Int.tdiv (((g o 2) * ((z_up (z_up g o 0 ((g o 0) + ((Int.tdiv (((g p1 3) * (g o 1)) - ((g o 0) * (g p1 4))) (((g o 2) * (g p1 4)) - ((g p1 3) * (g o 3)))) * (g o 2)))) o 1 ((g o 1) + ((Int.tdiv (((g p1 3) * (g o 1)) - ((g o 0) * (g p1 4))) (((g o 2) * (g p1 4)) - ((g p1 3) * (g o 3)))) * (g o 3)))) p2 4)) - (((z_up (z_up g o 0 ((g o 0) + ((Int.tdiv (((g p1 3) * (g o 1)) - ((g o 0) * (g p1 4))) (((g o 2) * (g p1 4)) - ((g p1 3) * (g o 3)))) * (g o 2)))) o 1 ((g o 1) + ((Int.tdiv (((g p1 3) * (g o 1)) - ((g o 0) * (g p1 4))) (((g o 2) * (g p1 4)) - ((g p1 3) * (g o 3)))) * (g o 3)))) p2 3) * (g o 3))) ((((z_up (z_up g o 0 ((g o 0) + ((Int.tdiv (((g p1 3) * (g o 1)) - ((g o 0) * (g p1 4))) (((g o 2) * (g p1 4)) - ((g p1 3) * (g o 3)))) * (g o 2)))) o 1 ((g o 1) + ((Int.tdiv (((g p1 3) * (g o 1)) - ((g o 0) * (g p1 4))) (((g o 2) * (g p1 4)) - ((g p1 3) * (g o 3)))) * (g o 3)))) p2 3) * ((g o 1) + ((Int.tdiv (((g p1 3) * (g o 1)) - ((g o 0) * (g p1 4))) (((g o 2) * (g p1 4)) - ((g p1 3) * (g o 3)))) * (g o 3)))) - (((g o 0) + ((Int.tdiv (((g p1 3) * (g o 1)) - ((g o 0) * (g p1 4))) (((g o 2) * (g p1 4)) - ((g p1 3) * (g o 3)))) * (g o 2))) * ((z_up (z_up g o 0 ((g o 0) + ((Int.tdiv (((g p1 3) * (g o 1)) - ((g o 0) * (g p1 4))) (((g o 2) * (g p1 4)) - ((g p1 3) * (g o 3)))) * (g o 2)))) o 1 ((g o 1) + ((Int.tdiv (((g p1 3) * (g o 1)) - ((g o 0) * (g p1 4))) (((g o 2) * (g p1 4)) - ((g p1 3) * (g o 3)))) * (g o 3)))) p2 4)))) * ((g o 0) + ((Int.tdiv (((g p1 3) * (g o 1)) - ((g o 0) * (g p1 4))) (((g o 2) * (g p1 4)) - ((g p1 3) * (g o 3)))) * (g o 2)))))) o 3 ((g o 3) + ((Int.tdiv (((g o 2) * ((z_up (z_up g o 0 ((g o 0) + ((Int.tdiv (((g p1 3) * (g o 1)) - ((g o 0) * (g p1 4))) (((g o 2) * (g p1 4)) - ((g p1 3) * (g o 3)))) * (g o 2)))) o 1 ((g o 1) + ((Int.tdiv (((g p1 3) * (g o 1)) - ((g o 0) * (g p1 4))) (((g o 2) * (g p1 4)) - ((g p1 3) * (g o 3)))) * (g o 3)))) p2 4)) - (((z_up (z_up g o 0 ((g o 0) + ((Int.tdiv (((g p1 3) * (g o 1)) - ((g o 0) * (g p1 4))) (((g o 2) * (g p1 4)) - ((g p1 3) * (g o 3)))) * (g o 2)))) o 1 ((g o 1) + ((Int.tdiv (((g p1 3) * (g o 1)) - ((g o 0) * (g p1 4))) (((g o 2) * (g p1 4)) - ((g p1 3) * (g o 3)))) * (g o 3)))) p2 3) * (g o 3))) ((((z_up (z_up g o 0 ((g o 0) + ((Int.tdiv (((g p1 3) * (g o 1)) - ((g o 0) * (g p1 4))) (((g o 2) * (g p1 4)) - ((g p1 3) * (g o 3)))) * (g o 2)))) o 1 ((g o 1) + ((Int.tdiv (((g p1 3) * (g o 1)) - ((g o 0) * (g p1 4))) (((g o 2) * (g p1 4)) - ((g p1 3) * (g o 3)))) * (g o 3)))) p2 3) * ((g o 1) + ((Int.tdiv (((g p1 3) * (g o 1)) - ((g o 0) * (g p1 4))) (((g o 2) * (g p1 4)) - ((g p1 3) * (g o 3)))) * (g o 3)))) - (((g o 0) + ((Int.tdiv (((g p1 3) * (g o 1)) - ((g o 0) * (g p1 4))) (((g o 2) * (g p1 4)) - ((g p1 3) * (g o 3)))) * (g o 2))) * ((z_up (z_up g o 0 ((g o 0) + ((Int.tdiv (((g p1 3) * (g o 1)) - ((g o 0) * (g p1 4))) (((g o 2) * (g p1 4)) - ((g p1 3) * (g o 3)))) * (g o 2)))) o 1 ((g o 1) + ((Int.tdiv (((g p1 3) * (g o 1)) - ((g o 0) * (g p1 4))) (((g o 2) * (g p1 4)) - ((g p1 3) * (g o 3)))) * (g o 3)))) p2 4)))) * ((g o 1) + ((Int.tdiv (((g p1 3) * (g o 1)) - ((g o 0) * (g p1 4))) (((g o 2) * (g p1 4)) - ((g p1 3) * (g o 3)))) * (g o 3)))))) o 3)), (0, ((z_up (z_up (z_up (z_up g o 0 ((g o 0) + ((Int.tdiv (((g p1 3) * (g o 1)) - ((g o 0) * (g p1 4))) (((g o 2) * (g p1 4)) - ((g p1 3) * (g o 3)))) * (g o 2)))) o 1 ((g o 1) + ((Int.tdiv (((g p1 3) * (g o 1)) - ((g o 0) * (g p1 4))) (((g o 2) * (g p1 4)) - ((g p1 3) * (g o 3)))) * (g o 3)))) o 2 ((g o 2) + ((Int.tdiv (((g o 2) * ((z_up (z_up g o 0 ((g o 0) + ((Int.tdiv (((g p1 3) * (g o 1)) - ((g o 0) * (g p1 4))) (((g o 2) * (g p1 4)) - ((g p1 3) * (g o 3)))) * (g o 2)))) o 1 ((g o 1) + ((Int.tdiv (((g p1 3) * (g o 1)) - ((g o 0) * (g p1 4))) (((g o 2) * (g p1 4)) - ((g p1 3) * (g o 3)))) * (g o 3)))) p2 4)) - (((z_up (z_up g o 0 ((g o 0) + ((Int.tdiv (((g p1 3) * (g o 1)) - ((g o 0) * (g p1 4))) (((g o 2) * (g p1 4)) - ((g p1 3) * (g o 3)))) * (g o 2)))) o 1 ((g o 1) + ((Int.tdiv (((g p1 3) * (g o 1)) - ((g o 0) * (g p1 4))) (((g o 2) * (g p1 4)) - ((g p1 3) * (g o 3)))) * (g o 3)))) p2 3) * (g o 3))) ((((z_up (z_up g o 0 ((g o 0) + ((Int.tdiv (((g p1 3) * (g o 1)) - ((g o 0) * (g p1 4))) (((g o 2) * (g p1 4)) - ((g p1 3) * (g o 3)))) * (g o 2)))) o 1 ((g o 1) + ((Int.tdiv (((g p1 3) * (g o 1)) - ((g o 0) * (g p1 4))) (((g o 2) * (g p1 4)) - ((g p1 3) * (g o 3)))) * (g o 3)))) p2 3) * ((g o 1) + ((Int.tdiv (((g p1 3) * (g o 1)) - ((g o 0) * (g p1 4))) (((g o 2) * (g p1 4)) - ((g p1 3) * (g o 3)))) * (g o 3)))) - (((g o 0) + ((Int.tdiv (((g p1 3) * (g o 1)) - ((g o 0) * (g p1 4))) (((g o 2) * (g p1 4)) - ((g p1 3) * (g o 3)))) * (g o 2))) * ((z_up (z_up g o 0 ((g o 0) + ((Int.tdiv (((g p1 3) * (g o 1)) - ((g o 0) * (g p1 4))) (((g o 2) * (g p1 4)) - ((g p1 3) * (g o 3)))) * (g o 2)))) o 1 ((g o 1) + ((Int.tdiv (((g p1 3) * (g o 1)) - ((g o 0) * (g p1 4))) (((g o 2) * (g p1 4)) - ((g p1 3) * (g o 3)))) * (g o 3)))) p2 4)))) * ((g o 0) + ((Int.tdiv (((g p1 3) * (g o 1)) - ((g o 0) * (g p1 4))) (((g o 2) * (g p1 4)) - ((g p1 3) * (g o 3)))) * (g o 2)))))) o 3 ((g o 3) + ((Int.tdiv (((g o 2) * ((z_up (z_up g o 0 ((g o 0) + ((Int.tdiv (((g p1 3) * (g o 1)) - ((g o 0) * (g p1 4))) (((g o 2) * (g p1 4)) - ((g p1 3) * (g o 3)))) * (g o 2)))) o 1 ((g o 1) + ((Int.tdiv (((g p1 3) * (g o 1)) - ((g o 0) * (g p1 4))) (((g o 2) * (g p1 4)) - ((g p1 3) * (g o 3)))) * (g o 3)))) p2 4)) - (((z_up (z_up g o 0 ((g o 0) + ((Int.tdiv (((g p1 3) * (g o 1)) - ((g o 0) * (g p1 4))) (((g o 2) * (g p1 4)) - ((g p1 3) * (g o 3)))) * (g o 2)))) o 1 ((g o 1) + ((Int.tdiv (((g p1 3) * (g o 1)) - ((g o 0) * (g p1 4))) (((g o 2) * (g p1 4)) - ((g p1 3) * (g o 3)))) * (g o 3)))) p2 3) * (g o 3))) ((((z_up (z_up g o 0 ((g o 0) + ((Int.tdiv (((g p1 3) * (g o 1)) - ((g o 0) * (g p1 4))) (((g o 2) * (g p1 4)) - ((g p1 3) * (g o 3)))) * (g o 2)))) o 1 ((g o 1) + ((Int.tdiv (((g p1 3) * (g o 1)) - ((g o 0) * (g p1 4))) (((g o 2) * (g p1 4)) - ((g p1 3) * (g o 3)))) * (g o 3)))) p2 3) * ((g o 1) + ((Int.tdiv (((g p1 3) * (g o 1)) - ((g o 0) * (g p1 4))) (((g o 2) * (g p1 4)) - ((g p1 3) * (g o 3)))) * (g o 3)))) - (((g o 0) + ((Int.tdiv (((g p1 3) * (g o 1)) - ((g o 0) * (g p1 4))) (((g o 2) * (g p1 4)) - ((g p1 3) * (g o 3)))) * (g o 2))) * ((z_up (z_up g o 0 ((g o 0) + ((Int.tdiv (((g p1 3) * (g o 1)) - ((g o 0) * (g p1 4))) (((g o 2) * (g p1 4)) - ((g p1 3) * (g o 3)))) * (g o 2)))) o 1 ((g o 1) + ((Int.tdiv (((g p1 3) * (g o 1)) - ((g o 0) * (g p1 4))) (((g o 2) * (g p1 4)) - ((g p1 3) * (g o 3)))) * (g o 3)))) p2 4)))) * ((g o 1) + ((Int.tdiv (((g p1 3) * (g o 1)) - ((g o 0) * (g p1 4))) (((g o 2) * (g p1 4)) - ((g p1 3) * (g o 3)))) * (g o 3)))))) o 0) + ((z_up (z_up (z_up (z_up g o 0 ((g o 0) + ((Int.tdiv (((g p1 3) * (g o 1)) - ((g o 0) * (g p1 4))) (((g o 2) * (g p1 4)) - ((g p1 3) * (g o 3)))) * (g o 2)))) o 1 ((g o 1) + ((Int.tdiv (((g p1 3) * (g o 1)) - ((g o 0) * (g p1 4))) (((g o 2) * (g p1 4)) - ((g p1 3) * (g o 3)))) * (g o 3)))) o 2 ((g o 2) + ((Int.tdiv (((g o 2) * ((z_up (z_up g o 0 ((g o 0) + ((Int.tdiv (((g p1 3) * (g o 1)) - ((g o 0) * (g p1 4))) (((g o 2) * (g p1 4)) - ((g p1 3) * (g o 3)))) * (g o 2)))) o 1 ((g o 1) + ((Int.tdiv (((g p1 3) * (g o 1)) - ((g o 0) * (g p1 4))) (((g o 2) * (g p1 4)) - ((g p1 3) * (g o 3)))) * (g o 3)))) p2 4)) - (((z_up (z_up g o 0 ((g o 0) + ((Int.tdiv (((g p1 3) * (g o 1)) - ((g o 0) * (g p1 4))) (((g o 2) * (g p1 4)) - ((g p1 3) * (g o 3)))) * (g o 2)))) o 1 ((g o 1) + ((Int.tdiv (((g p1 3) * (g o 1)) - ((g o 0) * (g p1 4))) (((g o 2) * (g p1 4)) - ((g p1 3) * (g o 3)))) * (g o 3)))) p2 3) * (g o 3))) ((((z_up (z_up g o 0 ((g o 0) + ((Int.tdiv (((g p1 3) * (g o 1)) - ((g o 0) * (g p1 4))) (((g o 2) * (g p1 4)) - ((g p1 3) * (g o 3)))) * (g o 2)))) o 1 ((g o 1) + ((Int.tdiv (((g p1 3) * (g o 1)) - ((g o 0) * (g p1 4))) (((g o 2) * (g p1 4)) - ((g p1 3) * (g o 3)))) * (g o 3)))) p2 3) * ((g o 1) + ((Int.tdiv (((g p1 3) * (g o 1)) - ((g o 0) * (g p1 4))) (((g o 2) * (g p1 4)) - ((g p1 3) * (g o 3)))) * (g o 3)))) - (((g o 0) + ((Int.tdiv (((g p1 3) * (g o 1)) - ((g o 0) * (g p1 4))) (((g o 2) * (g p1 4)) - ((g p1 3) * (g o 3)))) * (g o 2))) * ((z_up (z_up g o 0 ((g o 0) + ((Int.tdiv (((g p1 3) * (g o 1)) - ((g o 0) * (g p1 4))) (((g o 2) * (g p1 4)) - ((g p1 3) * (g o 3)))) * (g o 2)))) o 1 ((g o 1) + ((Int.tdiv (((g p1 3) * (g o 1)) - ((g o 0) * (g p1 4))) (((g o 2) * (g p1 4)) - ((g p1 3) * (g o 3)))) * (g o 3)))) p2 4)))) * ((g o 0) + ((Int.tdiv (((g p1 3) * (g o 1)) - ((g o 0) * (g p1 4))) (((g o 2) * (g p1 4)) - ((g p1 3) * (g o 3)))) * (g o 2)))))) o 3 ((g o 3) + ((Int.tdiv (((g o 2) * ((z_up (z_up g o 0 ((g o 0) + ((Int.tdiv (((g p1 3) * (g o 1)) - ((g o 0) * (g p1 4))) (((g o 2) * (g p1 4)) - ((g p1 3) * (g o 3)))) * (g o 2)))) o 1 ((g o 1) + ((Int.tdiv (((g p1 3) * (g o 1)) - ((g o 0) * (g p1 4))) (((g o 2) * (g p1 4)) - ((g p1 3) * (g o 3)))) * (g o 3)))) p2 4)) - (((z_up (z_up g o 0 ((g o 0) + ((Int.tdiv (((g p1 3) * (g o 1)) - ((g o 0) * (g p1 4))) (((g o 2) * (g p1 4)) - ((g p1 3) * (g o 3)))) * (g o 2)))) o 1 ((g o 1) + ((Int.tdiv (((g p1 3) * (g o 1)) - ((g o 0) * (g p1 4))) (((g o 2) * (g p1 4)) - ((g p1 3) * (g o 3)))) * (g o 3)))) p2 3) * (g o 3))) ((((z_up (z_up g o 0 ((g o 0) + ((Int.tdiv (((g p1 3) * (g o 1)) - ((g o 0) * (g p1 4))) (((g o 2) * (g p1 4)) - ((g p1 3) * (g o 3)))) * (g o 2)))) o 1 ((g o 1) + ((Int.tdiv (((g p1 3) * (g o 1)) - ((g o 0) * (g p1 4))) (((g o 2) * (g p1 4)) - ((g p1 3) * (g o 3)))) * (g o 3)))) p2 3) * ((g o 1) + ((Int.tdiv (((g p1 3) * (g o 1)) - ((g o 0) * (g p1 4))) (((g o 2) * (g p1 4)) - ((g p1 3) * (g o 3)))) * (g o 3)))) - (((g o 0) + ((Int.tdiv (((g p1 3) * (g o 1)) - ((g o 0) * (g p1 4))) (((g o 2) * (g p1 4)) - ((g p1 3) * (g o 3)))) * (g o 2))) * ((z_up (z_up g o 0 ((g o 0) + ((Int.tdiv (((g p1 3) * (g o 1)) - ((g o 0) * (g p1 4))) (((g o 2) * (g p1 4)) - ((g p1 3) * (g o 3)))) * (g o 2)))) o 1 ((g o 1) + ((Int.tdiv (((g p1 3) * (g o 1)) - ((g o 0) * (g p1 4))) (((g o 2) * (g p1 4)) - ((g p1 3) * (g o 3)))) * (g o 3)))) p2 4)))) * ((g o 1) + ((Int.tdiv (((g p1 3) * (g o 1)) - ((g o 0) * (g p1 4))) (((g o 2) * (g p1 4)) - ((g p1 3) * (g o 3)))) * (g o 3)))))) o 2))] N σ (z_up (z_up (z_up (z_up g o 0 ((g o 0) + ((Int.tdiv (((g p1 3) * (g o 1)) - ((g o 0) * (g p1 4))) (((g o 2) * (g p1 4)) - ((g p1 3) * (g o 3)))) * (g o 2)))) o 1 ((g o 1) + ((Int.tdiv (((g p1 3) * (g o 1)) - ((g o 0) * (g p1 4))) (((g o 2) * (g p1 4)) - ((g p1 3) * (g o 3)))) * (g o 3)))) o 2 ((g o 2) + ((Int.tdiv (((g o 2) * ((z_up (z_up g o 0 ((g o 0) + ((Int.tdiv (((g p1 3) * (g o 1)) - ((g o 0) * (g p1 4))) (((g o 2) * (g p1 4)) - ((g p1 3) * (g o 3)))) * (g o 2)))) o 1 ((g o 1) + ((Int.tdiv (((g p1 3) * (g o 1)) - ((g o 0) * (g p1 4))) (((g o 2) * (g p1 4)) - ((g p1 3) * (g o 3)))) * (g o 3)))) p2 4)) - (((z_up (z_up g o 0 ((g o 0) + ((Int.tdiv (((g p1 3) * (g o 1)) - ((g o 0) * (g p1 4))) (((g o 2) * (g p1 4)) - ((g p1 3) * (g o 3)))) * (g o 2)))) o 1 ((g o 1) + ((Int.tdiv (((g p1 3) * (g o 1)) - ((g o 0) * (g p1 4))) (((g o 2) * (g p1 4)) - ((g p1 3) * (g o 3)))) * (g o 3)))) p2 3) * (g o 3))) ((((z_up (z_up g o 0 ((g o 0) + ((Int.tdiv (((g p1 3) * (g o 1)) - ((g o 0) * (g p1 4))) (((g o 2) * (g p1 4)) - ((g p1 3) * (g o 3)))) * (g o 2)))) o 1 ((g o 1) + ((Int.tdiv (((g p1 3) * (g o 1)) - ((g o 0) * (g p1 4))) (((g o 2) * (g p1 4)) - ((g p1 3) * (g o 3)))) * (g o 3)))) p2 3) * ((g o 1) + ((Int.tdiv (((g p1 3) * (g o 1)) - ((g o 0) * (g p1 4))) (((g o 2) * (g p1 4)) - ((g p1 3) * (g o 3)))) * (g o 3)))) - (((g o 0) + ((Int.tdiv (((g p1 3) * (g o 1)) - ((g o 0) * (g p1 4))) (((g o 2) * (g p1 4)) - ((g p1 3) * (g o 3)))) * (g o 2))) * ((z_up (z_up g o 0 ((g o 0) + ((Int.tdiv (((g p1 3) * (g o 1)) - ((g o 0) * (g p1 4))) (((g o 2) * (g p1 4)) - ((g p1 3) * (g o 3)))) * (g o 2)))) o 1 ((g o 1) + ((Int.tdiv (((g p1 3) * (g o 1)) - ((g o 0) * (g p1 4))) (((g o 2) * (g p1 4)) - ((g p1 3) * (g o 3)))) * (g o 3)))) p2 4)))) * ((g o 0) + ((Int.tdiv (((g p1 3) * (g o 1)) - ((g o 0) * (g p1 4))) (((g o 2) * (g p1 4)) - ((g p1 3) * (g o 3)))) * (g o 2)))))) o 3 ((g o 3) + ((Int.tdiv (((g o 2) * ((z_up (z_up g o 0 ((g o 0) + ((Int.tdiv (((g p1 3) * (g o 1)) - ((g o 0) * (g p1 4))) (((g o 2) * (g p1 4)) - ((g p1 3) * (g o 3)))) * (g o 2)))) o 1 ((g o 1) + ((Int.tdiv (((g p1 3) * (g o 1)) - ((g o 0) * (g p1 4))) (((g o 2) * (g p1 4)) - ((g p1 3) * (g o 3)))) * (g o 3)))) p2 4)) - (((z_up (z_up g o 0 ((g o 0) + ((Int.tdiv (((g p1 3) * (g o 1)) - ((g o 0) * (g p1 4))) (((g o 2) * (g p1 4)) - ((g p1 3) * (g o 3)))) * (g o 2)))) o 1 ((g o 1) + ((Int.tdiv (((g p1 3) * (g o 1)) - ((g o 0) * (g p1 4))) (((g o 2) * (g p1 4)) - ((g p1 3) * (g o 3)))) * (g o 3)))) p2 3) * (g o 3))) ((((z_up (z_up g o 0 ((g o 0) + ((Int.tdiv (((g p1 3) * (g o 1)) - ((g o 0) * (g p1 4))) (((g o 2) * (g p1 4)) - ((g p1 3) * (g o 3)))) * (g o 2)))) o 1 ((g o 1) + ((Int.tdiv (((g p1 3) * (g o 1)) - ((g o 0) * (g p1 4))) (((g o 2) * (g p1 4)) - ((g p1 3) * (g o 3)))) * (g o 3)))) p2 3) * ((g o 1) + ((Int.tdiv (((g p1 3) * (g o 1)) - ((g o 0) * (g p1 4))) (((g o 2) * (g p1 4)) - ((g p1 3) * (g o 3)))) * (g o 3)))) - (((g o 0) + ((Int.tdiv (((g p1 3) * (g o 1)) - ((g o 0) * (g p1 4))) (((g o 2) * (g p1 4)) - ((g p1 3) * (g o 3)))) * (g o 2))) * ((z_up (z_up g o 0 ((g o 0) + ((Int.tdiv (((g p1 3) * (g o 1)) - ((g o 0) * (g p1 4))) (((g o 2) * (g p1 4)) - ((g p1 3) * (g o 3)))) * (g o 2)))) o 1 ((g o 1) + ((Int.tdiv (((g p1 3) * (g o 1)) - ((g o 0) * (g p1 4))) (((g o 2) * (g p1 4)) - ((g p1 3) * (g o 3)))) * (g o 3)))) p2 4)))) * ((g o 1) + ((Int.tdiv (((g p1 3) * (g o 1)) - ((g o 0) * (g p1 4))) (((g o 2) * (g p1 4)) - ((g p1 3) * (g o 3)))) * (g o 3)))))) Q
          refine z_aload_n (i := 1) (c := p1) 6 d_Sp_squeeze_223 rfl rfl rfl ?_
          refine z_geti (c := p1) (kI := 3) d_Sp_squeeze_224 fd_Ch_top fl_Sp_30 (Or.inl rfl) rfl rfl (ks_Ch_0 hp1) (kl_Ch_0 hp1) ?_
          refine z_aload_n (i := 1) (c := p1) 6 d_Sp_squeeze_227 rfl rfl rfl ?_
          refine z_geti (c := p1) (kI := 4) d_Sp_squeeze_228 fd_Ch_bottom fl_Sp_38 (Or.inl rfl) rfl rfl (ks_Ch_0 hp1) (kl_Ch_0 hp1) ?_
          refine z_cSN (as := [(0, ((z_up (z_up (z_up (z_up g o 0 ((g o 0) + ((Int.tdiv (((g p1 3) * (g o 1)) - ((g o 0) * (g p1 4))) (((g o 2) * (g p1 4)) - ((g p1 3) * (g o 3)))) * (g o 2)))) o 1 ((g o 1) + ((Int.tdiv (((g p1 3) * (g o 1)) - ((g o 0) * (g p1 4))) (((g o 2) * (g p1 4)) - ((g p1 3) * (g o 3)))) * (g o 3)))) o 2 ((g o 2) + ((Int.tdiv (((g o 2) * ((z_up (z_up g o 0 ((g o 0) + ((Int.tdiv (((g p1 3) * (g o 1)) - ((g o 0) * (g p1 4))) (((g o 2) * (g p1 4)) - ((g p1 3) * (g o 3)))) * (g o 2)))) o 1 ((g o 1) + ((Int.tdiv (((g p1 3) * (g o 1)) - ((g o 0) * (g p1 4))) (((g o 2) * (g p1 4)) - ((g p1 3) * (g o 3)))) * (g o 3)))) p2 4)) - (((z_up (z_up g o 0 ((g o 0) + ((Int.tdiv (((g p1 3) * (g o 1)) - ((g o 0) * (g p1 4))) (((g o 2) * (g p1 4)) - ((g p1 3) * (g o 3)))) * (g o 2)))) o 1 ((g o 1) + ((Int.tdiv (((g p1 3) * (g o 1)) - ((g o 0) * (g p1 4))) (((g o 2) * (g p1 4)) - ((g p1 3) * (g o 3)))) * (g o 3)))) p2 3) * (g o 3))) ((((z_up (z_up g o 0 ((g o 0) + ((Int.tdiv (((g p1 3) * (g o 1)) - ((g o 0) * (g p1 4))) (((g o 2) * (g p1 4)) - ((g p1 3) * (g o 3)))) * (g o 2)))) o 1 ((g o 1) + ((Int.tdiv (((g p1 3) * (g o 1)) - ((g o 0) * (g p1 4))) (((g o 2) * (g p1 4)) - ((g p1 3) * (g o 3)))) * (g o 3)))) p2 3) * ((g o 1) + ((Int.tdiv (((g p1 3) * (g o 1)) - ((g o 0) * (g p1 4))) (((g o 2) * (g p1 4)) - ((g p1 3) * (g o 3)))) * (g o 3)))) - (((g o 0) + ((Int.tdiv (((g p1 3) * (g o 1)) - ((g o 0) * (g p1 4))) (((g o 2) * (g p1 4)) - ((g p1 3) * (g o 3)))) * (g o 2))) * ((z_up (z_up g o 0 ((g o 0) + ((Int.tdiv (((g p1 3) * (g o 1)) - ((g o 0) * (g p1 4))) (((g o 2) * (g p1 4)) - ((g p1 3) * (g o 3)))) * (g o 2)))) o 1 ((g o 1) + ((Int.tdiv (((g p1 3) * (g o 1)) - ((g o 0) * (g p1 4))) (((g o 2) * (g p1 4)) - ((g p1 3) * (g o 3)))) * (g o 3)))) p2 4)))) * ((g o 0) + ((Int.tdiv (((g p1 3) * (g o 1)) - ((g o 0) * (g p1 4))) (((g o 2) * (g p1 4)) - ((g p1 3) * (g o 3)))) * (g o 2)))))) o 3 ((g o 3) + ((Int.tdiv (((g o 2) * ((z_up (z_up g o 0 ((g o 0) + ((Int.tdiv (((g p1 3) * (g o 1)) - ((g o 0) * (g p1 4))) (((g o 2) * (g p1 4)) - ((g p1 3) * (g o 3)))) * (g o 2)))) o 1 ((g o 1) + ((Int.tdiv (((g p1 3) * (g o 1)) - ((g o 0) * (g p1 4))) (((g o 2) * (g p1 4)) - ((g p1 3) * (g o 3)))) * (g o 3)))) p2 4)) - (((z_up (z_up g o 0 ((g o 0) + ((Int.tdiv (((g p1 3) * (g o 1)) - ((g o 0) * (g p1 4))) (((g o 2) * (g p1 4)) - ((g p1 3) * (g o 3)))) * (g o 2)))) o 1 ((g o 1) + ((Int.tdiv (((g p1 3) * (g o 1)) - ((g o 0) * (g p1 4))) (((g o 2) * (g p1 4)) - ((g p1 3) * (g o 3)))) * (g o 3)))) p2 3) * (g o 3))) ((((z_up (z_up g o 0 ((g o 0) + ((Int.tdiv (((g p1 3) * (g o 1)) - ((g o 0) * (g p1 4))) (((g o 2) * (g p1 4)) - ((g p1 3) * (g o 3)))) * (g o 2)))) o 1 ((g o 1) + ((Int.tdiv (((g p1 3) * (g o 1)) - ((g o 0) * (g p1 4))) (((g o 2) * (g p1 4)) - ((g p1 3) * (g o 3)))) * (g o 3)))) p2 3) * ((g o 1) + ((Int.tdiv (((g p1 3) * (g o 1)) - ((g o 0) * (g p1 4))) (((g o 2) * (g p1 4)) - ((g p1 3) * (g o 3)))) * (g o 3)))) - (((g o 0) + ((Int.tdiv (((g p1 3) * (g o 1)) - ((g o 0) * (g p1 4))) (((g o 2) * (g p1 4)) - ((g p1 3) * (g o 3)))) * (g o 2))) * ((z_up (z_up g o 0 ((g o 0) + ((Int.tdiv (((g p1 3) * (g o 1)) - ((g o 0) * (g p1 4))) (((g o 2) * (g p1 4)) - ((g p1 3) * (g o 3)))) * (g o 2)))) o 1 ((g o 1) + ((Int.tdiv (((g p1 3) * (g o 1)) - ((g o 0) * (g p1 4))) (((g o 2) * (g p1 4)) - ((g p1 3) * (g o 3)))) * (g o 3)))) p2 4)))) * ((g o 1) + ((Int.tdiv (((g p1 3) * (g o 1)) - ((g o 0) * (g p1 4))) (((g o 2) * (g p1 4)) - ((g p1 3) * (g o 3)))) * (g o 3)))))) o 0) + ((z_up (z_up (z_up (z_up g o 0 ((g o 0) + ((Int.tdiv (((g p1 3) * (g o 1)) - ((g o 0) * (g p1 4))) (((g o 2) * (g p1 4)) - ((g p1 3) * (g o 3)))) * (g o 2)))) o 1 ((g o 1) + ((Int.tdiv (((g p1 3) * (g o 1)) - ((g o 0) * (g p1 4))) (((g o 2) * (g p1 4)) - ((g p1 3) * (g o 3)))) * (g o 3)))) o 2 ((g o 2) + ((Int.tdiv (((g o 2) * ((z_up (z_up g o 0 ((g o 0) + ((Int.tdiv (((g p1 3) * (g o 1)) - ((g o 0) * (g p1 4))) (((g o 2) * (g p1 4)) - ((g p1 3) * (g o 3)))) * (g o 2)))) o 1 ((g o 1) + ((Int.tdiv (((g p1 3) * (g o 1)) - ((g o 0) * (g p1 4))) (((g o 2) * (g p1 4)) - ((g p1 3) * (g o 3)))) * (g o 3)))) p2 4)) - (((z_up (z_up g o 0 ((g o 0) + ((Int.tdiv (((g p1 3) * (g o 1)) - ((g o 0) * (g p1 4))) (((g o 2) * (g p1 4)) - ((g p1 3) * (g o 3)))) * (g o 2)))) o 1 ((g o 1) + ((Int.tdiv (((g p1 3) * (g o 1)) - ((g o 0) * (g p1 4))) (((g o 2) * (g p1 4)) - ((g p1 3) * (g o 3)))) * (g o 3)))) p2 3) * (g o 3))) ((((z_up (z_up g o 0 ((g o 0) + ((Int.tdiv (((g p1 3) * (g o 1)) - ((g o 0) * (g p1 4))) (((g o 2) * (g p1 4)) - ((g p1 3) * (g o 3)))) * (g o 2)))) o 1 ((g o 1) + ((Int.tdiv (((g p1 3) * (g o 1)) - ((g o 0) * (g p1 4))) (((g o 2) * (g p1 4)) - ((g p1 3) * (g o 3)))) * (g o 3)))) p2 3) * ((g o 1) + ((Int.tdiv (((g p1 3) * (g o 1)) - ((g o 0) * (g p1 4))) (((g o 2) * (g p1 4)) - ((g p1 3) * (g o 3)))) * (g o 3)))) - (((g o 0) + ((Int.tdiv (((g p1 3) * (g o 1)) - ((g o 0) * (g p1 4))) (((g o 2) * (g p1 4)) - ((g p1 3) * (g o 3)))) * (g o 2))) * ((z_up (z_up g o 0 ((g o 0) + ((Int.tdiv (((g p1 3) * (g o 1)) - ((g o 0) * (g p1 4))) (((g o 2) * (g p1 4)) - ((g p1 3) * (g o 3)))) * (g o 2)))) o 1 ((g o 1) + ((Int.tdiv (((g p1 3) * (g o 1)) - ((g o 0) * (g p1 4))) (((g o 2) * (g p1 4)) - ((g p1 3) * (g o 3)))) * (g o 3)))) p2 4)))) * ((g o 0) + ((Int.tdiv (((g p1 3) * (g o 1)) - ((g o 0) * (g p1 4))) (((g o 2) * (g p1 4)) - ((g p1 3) * (g o 3)))) * (g o 2)))))) o 3 ((g o 3) + ((Int.tdiv (((g o 2) * ((z_up (z_up g o 0 ((g o 0) + ((Int.tdiv (((g p1 3) * (g o 1)) - ((g o 0) * (g p1 4))) (((g o 2) * (g p1 4)) - ((g p1 3) * (g o 3)))) * (g o 2)))) o 1 ((g o 1) + ((Int.tdiv (((g p1 3) * (g o 1)) - ((g o 0) * (g p1 4))) (((g o 2) * (g p1 4)) - ((g p1 3) * (g o 3)))) * (g o 3)))) p2 4)) - (((z_up (z_up g o 0 ((g o 0) + ((Int.tdiv (((g p1 3) * (g o 1)) - ((g o 0) * (g p1 4))) (((g o 2) * (g p1 4)) - ((g p1 3) * (g o 3)))) * (g o 2)))) o 1 ((g o 1) + ((Int.tdiv (((g p1 3) * (g o 1)) - ((g o 0) * (g p1 4))) (((g o 2) * (g p1 4)) - ((g p1 3) * (g o 3)))) * (g o 3)))) p2 3) * (g o 3))) ((((z_up (z_up g o 0 ((g o 0) + ((Int.tdiv (((g p1 3) * (g o 1)) - ((g o 0) * (g p1 4))) (((g o 2) * (g p1 4)) - ((g p1 3) * (g o 3)))) * (g o 2)))) o 1 ((g o 1) + ((Int.tdiv (((g p1 3) * (g o 1)) - ((g o 0) * (g p1 4))) (((g o 2) * (g p1 4)) - ((g p1 3) * (g o 3)))) * (g o 3)))) p2 3) * ((g o 1) + ((Int.tdiv (((g p1 3) * (g o 1)) - ((g o 0) * (g p1 4))) (((g o 2) * (g p1 4)) - ((g p1 3) * (g o 3)))) * (g o 3)))) - (((g o 0) + ((Int.tdiv (((g p1 3) * (g o 1)) - ((g o 0) * (g p1 4))) (((g o 2) * (g p1 4)) - ((g p1 3) * (g o 3)))) * (g o 2))) * ((z_up (z_up g o 0 ((g o 0) + ((Int.tdiv (((g p1 3) * (g o 1)) - ((g o 0) * (g p1 4))) (((g o 2) * (g p1 4)) - ((g p1 3) * (g o 3)))) * (g o 2)))) o 1 ((g o 1) + ((Int.tdiv (((g p1 3) * (g o 1)) - ((g o 0) * (g p1 4))) (((g o 2) * (g p1 4)) - ((g p1 3) * (g o 3)))) * (g o 3)))) p2 4)))) * ((g o 1) + ((Int.tdiv (((g p1 3) * (g o 1)) - ((g o 0) * (g p1 4))) (((g o 2) * (g p1 4)) - ((g p1 3) * (g o 3)))) * (g o 3)))))) o 2)), (0, ((z_up (z_up (z_up (z_up g o 0 ((g o 0) + ((Int.tdiv (((g p1 3) * (g o 1)) - ((g o 0) * (g p1 4))) (((g o 2) * (g p1 4)) - ((g p1 3) * (g o 3)))) * (g o 2)))) o 1 ((g o 1) + ((Int.tdiv (((g p1 3) * (g o 1)) - ((g o 0) * (g p1 4))) (((g o 2) * (g p1 4)) - ((g p1 3) * (g o 3)))) * (g o 3)))) o 2 ((g o 2) + ((Int.tdiv (((g o 2) * ((z_up (z_up g o 0 ((g o 0) + ((Int.tdiv (((g p1 3) * (g o 1)) - ((g o 0) * (g p1 4))) (((g o 2) * (g p1 4)) - ((g p1 3) * (g o 3)))) * (g o 2)))) o 1 ((g o 1) + ((Int.tdiv (((g p1 3) * (g o 1)) - ((g o 0) * (g p1 4))) (((g o 2) * (g p1 4)) - ((g p1 3) * (g o 3)))) * (g o 3)))) p2 4)) - (((z_up (z_up g o 0 ((g o 0) + ((Int.tdiv (((g p1 3) * (g o 1)) - ((g o 0) * (g p1 4))) (((g o 2) * (g p1 4)) - ((g p1 3) * (g o 3)))) * (g o 2)))) o 1 ((g o 1) + ((Int.tdiv (((g p1 3) * (g o 1)) - ((g o 0) * (g p1 4))) (((g o 2) * (g p1 4)) - ((g p1 3) * (g o 3)))) * (g o 3)))) p2 3) * (g o 3))) ((((z_up (z_up g o 0 ((g o 0) + ((Int.tdiv (((g p1 3) * (g o 1)) - ((g o 0) * (g p1 4))) (((g o 2) * (g p1 4)) - ((g p1 3) * (g o 3)))) * (g o 2)))) o 1 ((g o 1) + ((Int.tdiv (((g p1 3) * (g o 1)) - ((g o 0) * (g p1 4))) (((g o 2) * (g p1 4)) - ((g p1 3) * (g o 3)))) * (g o 3)))) p2 3) * ((g o 1) + ((Int.tdiv (((g p1 3) * (g o 1)) - ((g o 0) * (g p1 4))) (((g o 2) * (g p1 4)) - ((g p1 3) * (g o 3)))) * (g o 3)))) - (((g o 0) + ((Int.tdiv (((g p1 3) * (g o 1)) - ((g o 0) * (g p1 4))) (((g o 2) * (g p1 4)) - ((g p1 3) * (g o 3)))) * (g o 2))) * ((z_up (z_up g o 0 ((g o 0) + ((Int.tdiv (((g p1 3) * (g o 1)) - ((g o 0) * (g p1 4))) (((g o 2) * (g p1 4)) - ((g p1 3) * (g o 3)))) * (g o 2)))) o 1 ((g o 1) + ((Int.tdiv (((g p1 3) * (g o 1)) - ((g o 0) * (g p1 4))) (((g o 2) * (g p1 4)) - ((g p1 3) * (g o 3)))) * (g o 3)))) p2 4)))) * ((g o 0) + ((Int.tdiv (((g p1 3) * (g o 1)) - ((g o 0) * (g p1 4))) (((g o 2) * (g p1 4)) - ((g p1 3) * (g o 3)))) * (g o 2)))))) o 3 ((g o 3) + ((Int.tdiv (((g o 2) * ((z_up (z_up g o 0 ((g o 0) + ((Int.tdiv (((g p1 3) * (g o 1)) - ((g o 0) * (g p1 4))) (((g o 2) * (g p1 4)) - ((g p1 3) * (g o 3)))) * (g o 2)))) o 1 ((g o 1) + ((Int.tdiv (((g p1 3) * (g o 1)) - ((g o 0) * (g p1 4))) (((g o 2) * (g p1 4)) - ((g p1 3) * (g o 3)))) * (g o 3)))) p2 4)) - (((z_up (z_up g o 0 ((g o 0) + ((Int.tdiv (((g p1 3) * (g o 1)) - ((g o 0) * (g p1 4))) (((g o 2) * (g p1 4)) - ((g p1 3) * (g o 3)))) * (g o 2)))) o 1 ((g o 1) + ((Int.tdiv (((g p1 3) * (g o 1)) - ((g o 0) * (g p1 4))) (((g o 2) * (g p1 4)) - ((g p1 3) * (g o 3)))) * (g o 3)))) p2 3) * (g o 3))) ((((z_up (z_up g o 0 ((g o 0) + ((Int.tdiv (((g p1 3) * (g o 1)) - ((g o 0) * (g p1 4))) (((g o 2) * (g p1 4)) - ((g p1 3) * (g o 3)))) * (g o 2)))) o 1 ((g o 1) + ((Int.tdiv (((g p1 3) * (g o 1)) - ((g o 0) * (g p1 4))) (((g o 2) * (g p1 4)) - ((g p1 3) * (g o 3)))) * (g o 3)))) p2 3) * ((g o 1) + ((Int.tdiv (((g p1 3) * (g o 1)) - ((g o 0) * (g p1 4))) (((g o 2) * (g p1 4)) - ((g p1 3) * (g o 3)))) * (g o 3)))) - (((g o 0) + ((Int.tdiv (((g p1 3) * (g o 1)) - ((g o 0) * (g p1 4))) (((g o 2) * (g p1 4)) - ((g p1 3) * (g o 3)))) * (g o 2))) * ((z_up (z_up g o 0 ((g o 0) + ((Int.tdiv (((g p1 3) * (g o 1)) - ((g o 0) * (g p1 4))) (((g o 2) * (g p1 4)) - ((g p1 3) * (g o 3)))) * (g o 2)))) o 1 ((g o 1) + ((Int.tdiv (((g p1 3) * (g o 1)) - ((g o 0) * (g p1 4))) (((g o 2) * (g p1 4)) - ((g p1 3) * (g o 3)))) * (g o 3)))) p2 4)))) * ((g o 1) + ((Int.tdiv (((g p1 3) * (g o 1)) - ((g o 0) * (g p1 4))) (((g o 2) * (g p1 4)) - ((g p1 3) * (g o 3)))) * (g o 3)))))) o 1) + ((z_up (z_up (z_up (z_up g o 0 ((g o 0) + ((Int.tdiv (((g p1 3) * (g o 1)) - ((g o 0) * (g p1 4))) (((g o 2) * (g p1 4)) - ((g p1 3) * (g o 3)))) * (g o 2)))) o 1 ((g o 1) + ((Int.tdiv (((g p1 3) * (g o 1)) - ((g o 0) * (g p1 4))) (((g o 2) * (g p1 4)) - ((g p1 3) * (g o 3)))) * (g o 3)))) o 2 ((g o 2) + ((Int.tdiv (((g o 2) * ((z_up (z_up g o 0 ((g o 0) + ((Int.tdiv (((g p1 3) * (g o 1)) - ((g o 0) * (g p1 4))) (((g o 2) * (g p1 4)) - ((g p1 3) * (g o 3)))) * (g o 2)))) o 1 ((g o 1) + ((Int.tdiv (((g p1 3) * (g o 1)) - ((g o 0) * (g p1 4))) (((g o 2) * (g p1 4)) - ((g p1 3) * (g o 3)))) * (g o 3)))) p2 4)) - (((z_up (z_up g o 0 ((g o 0) + ((Int.tdiv (((g p1 3) * (g o 1)) - ((g o 0) * (g p1 4))) (((g o 2) * (g p1 4)) - ((g p1 3) * (g o 3)))) * (g o 2)))) o 1 ((g o 1) + ((Int.tdiv (((g p1 3) * (g o 1)) - ((g o 0) * (g p1 4))) (((g o 2) * (g p1 4)) - ((g p1 3) * (g o 3)))) * (g o 3)))) p2 3) * (g o 3))) ((((z_up (z_up g o 0 ((g o 0) + ((Int.tdiv (((g p1 3) * (g o 1)) - ((g o 0) * (g p1 4))) (((g o 2) * (g p1 4)) - ((g p1 3) * (g o 3)))) * (g o 2)))) o 1 ((g o 1) + ((Int.tdiv (((g p1 3) * (g o 1)) - ((g o 0) * (g p1 4))) (((g o 2) * (g p1 4)) - ((g p1 3) * (g o 3)))) * (g o 3)))) p2 3) * ((g o 1) + ((Int.tdiv (((g p1 3) * (g o 1)) - ((g o 0) * (g p1 4))) (((g o 2) * (g p1 4)) - ((g p1 3) * (g o 3)))) * (g o 3)))) - (((g o 0) + ((Int.tdiv (((g p1 3) * (g o 1)) - ((g o 0) * (g p1 4))) (((g o 2) * (g p1 4)) - ((g p1 3) * (g o 3)))) * (g o 2))) * ((z_up (z_up g o 0 ((g o 0) + ((Int.tdiv (((g p1 3) * (g o 1)) - ((g o 0) * (g p1 4))) (((g o 2) * (g p1 4)) - ((g p1 3) * (g o 3)))) * (g o 2)))) o 1 ((g o 1) + ((Int.tdiv (((g p1 3) * (g o 1)) - ((g o 0) * (g p1 4))) (((g o 2) * (g p1 4)) - ((g p1 3) * (g o 3)))) * (g o 3)))) p2 4)))) * ((g o 0) + ((Int.tdiv (((g p1 3) * (g o 1)) - ((g o 0) * (g p1 4))) (((g o 2) * (g p1 4)) - ((g p1 3) * (g o 3)))) * (g o 2)))))) o 3 ((g o 3) + ((Int.tdiv (((g o 2) * ((z_up (z_up g o 0 ((g o 0) + ((Int.tdiv (((g p1 3) * (g o 1)) - ((g o 0) * (g p1 4))) (((g o 2) * (g p1 4)) - ((g p1 3) * (g o 3)))) * (g o 2)))) o 1 ((g o 1) + ((Int.tdiv (((g p1 3) * (g o 1)) - ((g o 0) * (g p1 4))) (((g o 2) * (g p1 4)) - ((g p1 3) * (g o 3)))) * (g o 3)))) p2 4)) - (((z_up (z_up g o 0 ((g o 0) + ((Int.tdiv (((g p1 3) * (g o 1)) - ((g o 0) * (g p1 4))) (((g o 2) * (g p1 4)) - ((g p1 3) * (g o 3)))) * (g o 2)))) o 1 ((g o 1) + ((Int.tdiv (((g p1 3) * (g o 1)) - ((g o 0) * (g p1 4))) (((g o 2) * (g p1 4)) - ((g p1 3) * (g o 3)))) * (g o 3)))) p2 3) * (g o 3))) ((((z_up (z_up g o 0 ((g o 0) + ((Int.tdiv (((g p1 3) * (g o 1)) - ((g o 0) * (g p1 4))) (((g o 2) * (g p1 4)) - ((g p1 3) * (g o 3)))) * (g o 2)))) o 1 ((g o 1) + ((Int.tdiv (((g p1 3) * (g o 1)) - ((g o 0) * (g p1 4))) (((g o 2) * (g p1 4)) - ((g p1 3) * (g o 3)))) * (g o 3)))) p2 3) * ((g o 1) + ((Int.tdiv (((g p1 3) * (g o 1)) - ((g o 0) * (g p1 4))) (((g o 2) * (g p1 4)) - ((g p1 3) * (g o 3)))) * (g o 3)))) - (((g o 0) + ((Int.tdiv (((g p1 3) * (g o 1)) - ((g o 0) * (g p1 4))) (((g o 2) * (g p1 4)) - ((g p1 3) * (g o 3)))) * (g o 2))) * ((z_up (z_up g o 0 ((g o 0) + ((Int.tdiv (((g p1 3) * (g o 1)) - ((g o 0) * (g p1 4))) (((g o 2) * (g p1 4)) - ((g p1 3) * (g o 3)))) * (g o 2)))) o 1 ((g o 1) + ((Int.tdiv (((g p1 3) * (g o 1)) - ((g o 0) * (g p1 4))) (((g o 2) * (g p1 4)) - ((g p1 3) * (g o 3)))) * (g o 3)))) p2 4)))) * ((g o 1) + ((Int.tdiv (((g p1 3) * (g o 1)) - ((g o 0) * (g p1 4))) (((g o 2) * (g p1 4)) - ((g p1 3) * (g o 3)))) * (g o 3)))))) o 3)), (0, (z_up (z_up (z_up (z_up g o 0 ((g o 0) + ((Int.tdiv (((g p1 3) * (g o 1)) - ((g o 0) * (g p1 4))) (((g o 2) * (g p1 4)) - ((g p1 3) * (g o 3)))) * (g o 2)))) o 1 ((g o 1) + ((Int.tdiv (((g p1 3) * (g o 1)) - ((g o 0) * (g p1 4))) (((g o 2) * (g p1 4)) - ((g p1 3) * (g o 3)))) * (g o 3)))) o 2 ((g o 2) + ((Int.tdiv (((g o 2) * ((z_up (z_up g o 0 ((g o 0) + ((Int.tdiv (((g p1 3) * (g o 1)) - ((g o 0) * (g p1 4))) (((g o 2) * (g p1 4)) - ((g p1 3) * (g o 3)))) * (g o 2)))) o 1 ((g o 1) + ((Int.tdiv (((g p1 3) * (g o 1)) - ((g o 0) * (g p1 4))) (((g o 2) * (g p1 4)) - ((g p1 3) * (g o 3)))) * (g o 3)))) p2 4)) - (((z_up (z_up g o 0 ((g o 0) + ((Int.tdiv (((g p1 3) * (g o 1)) - ((g o 0) * (g p1 4))) (((g o 2) * (g p1 4)) - ((g p1 3) * (g o 3)))) * (g o 2)))) o 1 ((g o 1) + ((Int.tdiv (((g p1 3) * (g o 1)) - ((g o 0) * (g p1 4))) (((g o 2) * (g p1 4)) - ((g p1 3) * (g o 3)))) * (g o 3)))) p2 3) * (g o 3))) ((((z_up (z_up g o 0 ((g o 0) + ((Int.tdiv (((g p1 3) * (g o 1)) - ((g o 0) * (g p1 4))) (((g o 2) * (g p1 4)) - ((g p1 3) * (g o 3)))) * (g o 2)))) o 1 ((g o 1) + ((Int.tdiv (((g p1 3) * (g o 1)) - ((g o 0) * (g p1 4))) (((g o 2) * (g p1 4)) - ((g p1 3) * (g o 3)))) * (g o 3)))) p2 3) * ((g o 1) + ((Int.tdiv (((g p1 3) * (g o 1)) - ((g o 0) * (g p1 4))) (((g o 2) * (g p1 4)) - ((g p1 3) * (g o 3)))) * (g o 3)))) - (((g o 0) + ((Int.tdiv (((g p1 3) * (g o 1)) - ((g o 0) * (g p1 4))) (((g o 2) * (g p1 4)) - ((g p1 3) * (g o 3)))) * (g o 2))) * ((z_up (z_up g o 0 ((g o 0) + ((Int.tdiv (((g p1 3) * (g o 1)) - ((g o 0) * (g p1 4))) (((g o 2) * (g p1 4)) - ((g p1 3) * (g o 3)))) * (g o 2)))) o 1 ((g o 1) + ((Int.tdiv (((g p1 3) * (g o 1)) - ((g o 0) * (g p1 4))) (((g o 2) * (g p1 4)) - ((g p1 3) * (g o 3)))) * (g o 3)))) p2 4)))) * ((g o 0) + ((Int.tdiv (((g p1 3) * (g o 1)) - ((g o 0) * (g p1 4))) (((g o 2) * (g p1 4)) - ((g p1 3) * (g o 3)))) * (g o 2)))))) o 3 ((g o 3) + ((Int.tdiv (((g o 2) * ((z_up (z_up g o 0 ((g o 0) + ((Int.tdiv (((g p1 3) * (g o 1)) - ((g o 0) * (g p1 4))) (((g o 2) * (g p1 4)) - ((g p1 3) * (g o 3)))) * (g o 2)))) o 1 ((g o 1) + ((Int.tdiv (((g p1 3) * (g o 1)) - ((g o 0) * (g p1 4))) (((g o 2) * (g p1 4)) - ((g p1 3) * (g o 3)))) * (g o 3)))) p2 4)) - (((z_up (z_up g o 0 ((g o 0) + ((Int.tdiv (((g p1 3) * (g o 1)) - ((g o 0) * (g p1 4))) (((g o 2) * (g p1 4)) - ((g p1 3) * (g o 3)))) * (g o 2)))) o 1 ((g o 1) + ((Int.tdiv (((g p1 3) * (g o 1)) - ((g o 0) * (g p1 4))) (((g o 2) * (g p1 4)) - ((g p1 3) * (g o 3)))) * (g o 3)))) p2 3) * (g o 3))) ((((z_up (z_up g o 0 ((g o 0) + ((Int.tdiv (((g p1 3) * (g o 1)) - ((g o 0) * (g p1 4))) (((g o 2) * (g p1 4)) - ((g p1 3) * (g o 3)))) * (g o 2)))) o 1 ((g o 1) + ((Int.tdiv (((g p1 3) * (g o 1)) - ((g o 0) * (g p1 4))) (((g o 2) * (g p1 4)) - ((g p1 3) * (g o 3)))) * (g o 3)))) p2 3) * ((g o 1) + ((Int.tdiv (((g p1 3) * (g o 1)) - ((g o 0) * (g p1 4))) (((g o 2) * (g p1 4)) - ((g p1 3) * (g o 3)))) * (g o 3)))) - (((g o 0) + ((Int.tdiv (((g p1 3) * (g o 1)) - ((g o 0) * (g p1 4))) (((g o 2) * (g p1 4)) - ((g p1 3) * (g o 3)))) * (g o 2))) * ((z_up (z_up g o 0 ((g o 0) + ((Int.tdiv (((g p1 3) * (g o 1)) - ((g o 0) * (g p1 4))) (((g o 2) * (g p1 4)) - ((g p1 3) * (g o 3)))) * (g o 2)))) o 1 ((g o 1) + ((Int.tdiv (((g p1 3) * (g o 1)) - ((g o 0) * (g p1 4))) (((g o 2) * (g p1 4)) - ((g p1 3) * (g o 3)))) * (g o 3)))) p2 4)))) * ((g o 1) + ((Int.tdiv (((g p1 3) * (g o 1)) - ((g o 0) * (g p1 4))) (((g o 2) * (g p1 4)) - ((g p1 3) * (g o 3)))) * (g o 3)))))) p1 3), (0, (z_up (z_up (z_up (z_up g o 0 ((g o 0) + ((Int.tdiv (((g p1 3) * (g o 1)) - ((g o 0) * (g p1 4))) (((g o 2) * (g p1 4)) - ((g p1 3) * (g o 3)))) * (g o 2)))) o 1 ((g o 1) + ((Int.tdiv (((g p1 3) * (g o 1)) - ((g o 0) * (g p1 4))) (((g o 2) * (g p1 4)) - ((g p1 3) * (g o 3)))) * (g o 3)))) o 2 ((g o 2) + ((Int.tdiv (((g o 2) * ((z_up (z_up g o 0 ((g o 0) + ((Int.tdiv (((g p1 3) * (g o 1)) - ((g o 0) * (g p1 4))) (((g o 2) * (g p1 4)) - ((g p1 3) * (g o 3)))) * (g o 2)))) o 1 ((g o 1) + ((Int.tdiv (((g p1 3) * (g o 1)) - ((g o 0) * (g p1 4))) (((g o 2) * (g p1 4)) - ((g p1 3) * (g o 3)))) * (g o 3)))) p2 4)) - (((z_up (z_up g o 0 ((g o 0) + ((Int.tdiv (((g p1 3) * (g o 1)) - ((g o 0) * (g p1 4))) (((g o 2) * (g p1 4)) - ((g p1 3) * (g o 3)))) * (g o 2)))) o 1 ((g o 1) + ((Int.tdiv (((g p1 3) * (g o 1)) - ((g o 0) * (g p1 4))) (((g o 2) * (g p1 4)) - ((g p1 3) * (g o 3)))) * (g o 3)))) p2 3) * (g o 3))) ((((z_up (z_up g o 0 ((g o 0) + ((Int.tdiv (((g p1 3) * (g o 1)) - ((g o 0) * (g p1 4))) (((g o 2) * (g p1 4)) - ((g p1 3) * (g o 3)))) * (g o 2)))) o 1 ((g o 1) + ((Int.tdiv (((g p1 3) * (g o 1)) - ((g o 0) * (g p1 4))) (((g o 2) * (g p1 4)) - ((g p1 3) * (g o 3)))) * (g o 3)))) p2 3) * ((g o 1) + ((Int.tdiv (((g p1 3) * (g o 1)) - ((g o 0) * (g p1 4))) (((g o 2) * (g p1 4)) - ((g p1 3) * (g o 3)))) * (g o 3)))) - (((g o 0) + ((Int.tdiv (((g p1 3) * (g o 1)) - ((g o 0) * (g p1 4))) (((g o 2) * (g p1 4)) - ((g p1 3) * (g o 3)))) * (g o 2))) * ((z_up (z_up g o 0 ((g o 0) + ((Int.tdiv (((g p1 3) * (g o 1)) - ((g o 0) * (g p1 4))) (((g o 2) * (g p1 4)) - ((g p1 3) * (g o 3)))) * (g o 2)))) o 1 ((g o 1) + ((Int.tdiv (((g p1 3) * (g o 1)) - ((g o 0) * (g p1 4))) (((g o 2) * (g p1 4)) - ((g p1 3) * (g o 3)))) * (g o 3)))) p2 4)))) * ((g o 0) + ((Int.tdiv (((g p1 3) * (g o 1)) - ((g o 0) * (g p1 4))) (((g o 2) * (g p1 4)) - ((g p1 3) * (g o 3)))) * (g o 2)))))) o 3 ((g o 3) + ((Int.tdiv (((g o 2) * ((z_up (z_up g o 0 ((g o 0) + ((Int.tdiv (((g p1 3) * (g o 1)) - ((g o 0) * (g p1 4))) (((g o 2) * (g p1 4)) - ((g p1 3) * (g o 3)))) * (g o 2)))) o 1 ((g o 1) + ((Int.tdiv (((g p1 3) * (g o 1)) - ((g o 0) * (g p1 4))) (((g o 2) * (g p1 4)) - ((g p1 3) * (g o 3)))) * (g o 3)))) p2 4)) - (((z_up (z_up g o 0 ((g o 0) + ((Int.tdiv (((g p1 3) * (g o 1)) - ((g o 0) * (g p1 4))) (((g o 2) * (g p1 4)) - ((g p1 3) * (g o 3)))) * (g o 2)))) o 1 ((g o 1) + ((Int.tdiv (((g p1 3) * (g o 1)) - ((g o 0) * (g p1 4))) (((g o 2) * (g p1 4)) - ((g p1 3) * (g o 3)))) * (g o 3)))) p2 3) * (g o 3))) ((((z_up (z_up g o 0 ((g o 0) + ((Int.tdiv (((g p1 3) * (g o 1)) - ((g o 0) * (g p1 4))) (((g o 2) * (g p1 4)) - ((g p1 3) * (g o 3)))) * (g o 2)))) o 1 ((g o 1) + ((Int.tdiv (((g p1 3) * (g o 1)) - ((g o 0) * (g p1 4))) (((g o 2) * (g p1 4)) - ((g p1 3) * (g o 3)))) * (g o 3)))) p2 3) * ((g o 1) + ((Int.tdiv (((g p1 3) * (g o 1)) - ((g o 0) * (g p1 4))) (((g o 2) * (g p1 4)) - ((g p1 3) * (g o 3)))) * (g o 3)))) - (((g o 0) + ((Int.tdiv (((g p1 3) * (g o 1)) - ((g o 0) * (g p1 4))) (((g o 2) * (g p1 4)) - ((g p1 3) * (g o 3)))) * (g o 2))) * ((z_up (z_up g o 0 ((g o 0) + ((Int.tdiv (((g p1 3) * (g o 1)) - ((g o 0) * (g p1 4))) (((g o 2) * (g p1 4)) - ((g p1 3) * (g o 3)))) * (g o 2)))) o 1 ((g o 1) + ((Int.tdiv (((g p1 3) * (g o 1)) - ((g o 0) * (g p1 4))) (((g o 2) * (g p1 4)) - ((g p1 3) * (g o 3)))) * (g o 3)))) p2 4)))) * ((g o 1) + ((Int.tdiv (((g p1 3) * (g o 1)) - ((g o 0) * (g p1 4))) (((g o 2) * (g p1 4)) - ((g p1 3) * (g o 3)))) * (g o 3)))))) p1 4)]) (d' := 1) (st := []) d_Sp_squeeze_231 mi_F_cross nl_Sp_44 ms_F_cross rfl rfl rfl rfl rfl (b_F_cross_0  ?_)
          obtain ⟨c72, h⟩ := h
          refine ⟨c72, ?_⟩
          obtain ⟨c73, h⟩ := h
          refine ⟨c73, ?_⟩
          obtain ⟨c74, h⟩ := h
          refine ⟨c74, ?_⟩
          intro _
          show z_U X 2 m_Sp_squeeze 234 [(12, (0, Int.tdiv (((g o 2) * ((z_up (z_up g o 0 ((g o 0) + ((Int.tdiv (((g p1 3) * (g o 1)) - ((g o 0) * (g p1 4))) (((g o 2) * (g p1 4)) - ((g p1 3) * (g o 3)))) * (g o 2)))) o 1 ((g o 1) + ((Int.tdiv (((g p1 3) * (g o 1)) - ((g o 0) * (g p1 4))) (((g o 2) * (g p1 4)) - ((g p1 3) * (g o 3)))) * (g o 3)))) p2 4)) - (((z_up (z_up g o 0 ((g o 0) + ((Int.tdiv (((g p1 3) * (g o 1)) - ((g o 0) * (g p1 4))) (((g o 2) * (g p1 4)) - ((g p1 3) * (g o 3)))) * (g o 2)))) o 1 ((g o 1) + ((Int.tdiv (((g p1 3) * (g o 1)) - ((g o 0) * (g p1 4))) (((g o 2) * (g p1 4)) - ((g p1 3) * (g o 3)))) * (g o 3)))) p2 3) * (g o 3))) ((((z_up (z_up g o 0 ((g o 0) + ((Int.tdiv (((g p1 3) * (g o 1)) - ((g o 0) * (g p1 4))) (((g o 2) * (g p1 4)) - ((g p1 3) * (g o 3)))) * (g o 2)))) o 1 ((g o 1) + ((Int.tdiv (((g p1 3) * (g o 1)) - ((g o 0) * (g p1 4))) (((g o 2) * (g p1 4)) - ((g p1 3) * (g o 3)))) * (g o 3)))) p2 3) * ((g o 1) + ((Int.tdiv (((g p1 3) * (g o 1)) - ((g o 0) * (g p1 4))) (((g o 2) * (g p1 4)) - ((g p1 3) * (g o 3)))) * (g o 3)))) - (((g o 0) + ((Int.tdiv (((g p1 3) * (g o 1)) - ((g o 0) * (g p1 4))) (((g o 2) * (g p1 4)) - ((g p1 3) * (g o 3)))) * (g o 2))) * ((z_up (z_up g o 0 ((g o 0) + ((Int.tdiv (((g p1 3) * (g o 1)) - ((g o 0) * (g p1 4))) (((g o 2) * (g p1 4)) - ((g p1 3) * (g o 3)))) * (g o 2)))) o 1 ((g o 1) + ((Int.tdiv (((g p1 3) * (g o 1)) - ((g o 0) * (g p1 4))) (((g o 2) * (g p1 4)) - ((g p1 3) * (g o 3)))) * (g o 3)))) p2 4))))), (10, (1, (((z_up (z_up g o 0 ((g o 0) + ((Int.tdiv (((g p1 3) * (g o 1)) - ((g o 0) * (g p1 4))) (((g o 2) * (g p1 4)) - ((g p1 3) * (g o 3)))) * (g o 2)))) o 1 ((g o 1) + ((Int.tdiv (((g p1 3) * (g o 1)) - ((g o 0) * (g p1 4))) (((g o 2) * (g p1 4)) - ((g p1 3) * (g o 3)))) * (g o 3)))) p2 3) * ((g o 1) + ((Int.tdiv (((g p1 3) * (g o 1)) - ((g o 0) * (g p1 4))) (((g o 2) * (g p1 4)) - ((g p1 3) * (g o 3)))) * (g o 3)))) - (((g o 0) + ((Int.tdiv (((g p1 3) * (g o 1)) - ((g o 0) * (g p1 4))) (((g o 2) * (g p1 4)) - ((g p1 3) * (g o 3)))) * (g o 2))) * ((z_up (z_up g o 0 ((g o 0) + ((Int.tdiv (((g p1 3) * (g o 1)) - ((g o 0) * (g p1 4))) (((g o 2) * (g p1 4)) - ((g p1 3) * (g o 3)))) * (g o 2)))) o 1 ((g o 1) + ((Int.tdiv (((g p1 3) * (g o 1)) - ((g o 0) * (g p1 4))) (((g o 2) * (g p1 4)) - ((g p1 3) * (g o 3)))) * (g o 3)))) p2 4)))), (8, (1, ((g o 2) * ((z_up (z_up g o 0 ((g o 0) + ((Int.tdiv (((g p1 3) * (g o 1)) - ((g o 0) * (g p1 4))) (((g o 2) * (g p1 4)) - ((g p1 3) * (g o 3)))) * (g o 2)))) o 1 ((g o 1) + ((Int.tdiv (((g p1 3) * (g o 1)) - ((g o 0) * (g p1 4))) (((g o 2) * (g p1 4)) - ((g p1 3) * (g o 3)))) * (g o 3)))) p2 4)) - (((z_up (z_up g o 0 ((g o 0) + ((Int.tdiv (((g p1 3) * (g o 1)) - ((g o 0) * (g p1 4))) (((g o 2) * (g p1 4)) - ((g p1 3) * (g o 3)))) * (g o 2)))) o 1 ((g o 1) + ((Int.tdiv (((g p1 3) * (g o 1)) - ((g o 0) * (g p1 4))) (((g o 2) * (g p1 4)) - ((g p1 3) * (g o 3)))) * (g o 3)))) p2 3) * (g o 3)))), (6, (1, ((g o 2) * (g p1 4)) - ((g p1 3) * (g o 3)))), (4, (1, ((g p1 3) * (g o 1)) - ((g o 0) * (g p1 4)))), (0, (2, ((o : Nat) : Int))), (1, (2, ((p1 : Nat) : Int))), (2, (2, ((p2 : Nat) : Int))), (3, (0, x3))] [(1, ((((z_up (z_up (z_up (z_up g o 0 ((g o 0) + ((Int.tdiv (((g p1 3) * (g o 1)) - ((g o 0) * (g p1 4))) (((g o 2) * (g p1 4)) - ((g p1 3) * (g o 3)))) * (g o 2)))) o 1 ((g o 1) + ((Int.tdiv (((g p1 3) * (g o 1)) - ((g o 0) * (g p1 4))) (((g o 2) * (g p1 4)) - ((g p1 3) * (g o 3)))) * (g o 3)))) o 2 ((g o 2) + ((Int.tdiv (((g o 2) * ((z_up (z_up g o 0 ((g o 0) + ((Int.tdiv (((g p1 3) * (g o 1)) - ((g o 0) * (g p1 4))) (((g o 2) * (g p1 4)) - ((g p1 3) * (g o 3)))) * (g o 2)))) o 1 ((g o 1) + ((Int.tdiv (((g p1 3) * (g o 1)) - ((g o 0) * (g p1 4))) (((g o 2) * (g p1 4)) - ((g p1 3) * (g o 3)))) * (g o 3)))) p2 4)) - (((z_up (z_up g o 0 ((g o 0) + ((Int.tdiv (((g p1 3) * (g o 1)) - ((g o 0) * (g p1 4))) (((g o 2) * (g p1 4)) - ((g p1 3) * (g o 3)))) * (g o 2)))) o 1 ((g o 1) + ((Int.tdiv (((g p1 3) * (g o 1)) - ((g o 0) * (g p1 4))) (((g o 2) * (g p1 4)) - ((g p1 3) * (g o 3)))) * (g o 3)))) p2 3) * (g o 3))) ((((z_up (z_up g o 0 ((g o 0) + ((Int.tdiv (((g p1 3) * (g o 1)) - ((g o 0) * (g p1 4))) (((g o 2) * (g p1 4)) - ((g p1 3) * (g o 3)))) * (g o 2)))) o 1 ((g o 1) + ((Int.tdiv (((g p1 3) * (g o 1)) - ((g o 0) * (g p1 4))) (((g o 2) * (g p1 4)) - ((g p1 3) * (g o 3)))) * (g o 3)))) p2 3) * ((g o 1) + ((Int.tdiv (((g p1 3) * (g o 1)) - ((g o 0) * (g p1 4))) (((g o 2) * (g p1 4)) - ((g p1 3) * (g o 3)))) * (g o 3)))) - (((g o 0) + ((Int.tdiv (((g p1 3) * (g o 1)) - ((g o 0) * (g p1 4))) (((g o 2) * (g p1 4)) - ((g p1 3) * (g o 3)))) * (g o 2))) * ((z_up (z_up g o 0 ((g o 0) + ((Int.tdiv (((g p1 3) * (g o 1)) - ((g o 0) * (g p1 4))) (((g o 2) * (g p1 4)) - ((g p1 3) * (g o 3)))) * (g o 2)))) o 1 ((g o 1) + ((Int.tdiv (((g p1 3) * (g o 1)) - ((g o 0) * (g p1 4))) (((g o 2) * (g p1 4)) - ((g p1 3) * (g o 3)))) * (g o 3)))) p2 4)))) * ((g o 0) + ((Int.tdiv (((g p1 3) * (g o 1)) - ((g o 0) * (g p1 4))) (((g o 2) * (g p1 4)) - ((g p1 3) * (g o 3)))) * (g o 2)))))) o 3 ((g o 3) + ((Int.tdiv (((g o 2) * ((z_up (z_up g o 0 ((g o 0) + ((Int.tdiv (((g p1 3) * (g o 1)) - ((g o 0) * (g p1 4))) (((g o 2) * (g p1 4)) - ((g p1 3) * (g o 3)))) * (g o 2)))) o 1 ((g o 1) + ((Int.tdiv (((g p1 3) * (g o 1)) - ((g o 0) * (g p1 4))) (((g o 2) * (g p1 4)) - ((g p1 3) * (g o 3)))) * (g o 3)))) p2 4)) - (((z_up (z_up g o 0 ((g o 0) + ((Int.tdiv (((g p1 3) * (g o 1)) - ((g o 0) * (g p1 4))) (((g o 2) * (g p1 4)) - ((g p1 3) * (g o 3)))) * (g o 2)))) o 1 ((g o 1) + ((Int.tdiv (((g p1 3) * (g o 1)) - ((g o 0) * (g p1 4))) (((g o 2) * (g p1 4)) - ((g p1 3) * (g o 3)))) * (g o 3)))) p2 3) * (g o 3))) ((((z_up (z_up g o 0 ((g o 0) + ((Int.tdiv (((g p1 3) * (g o 1)) - ((g o 0) * (g p1 4))) (((g o 2) * (g p1 4)) - ((g p1 3) * (g o 3)))) * (g o 2)))) o 1 ((g o 1) + ((Int.tdiv (((g p1 3) * (g o 1)) - ((g o 0) * (g p1 4))) (((g o 2) * (g p1 4)) - ((g p1 3) * (g o 3)))) * (g o 3)))) p2 3) * ((g o 1) + ((Int.tdiv (((g p1 3) * (g o 1)) - ((g o 0) * (g p1 4))) (((g o 2) * (g p1 4)) - ((g p1 3) * (g o 3)))) * (g o 3)))) - (((g o 0) + ((Int.tdiv (((g p1 3) * (g o 1)) - ((g o 0) * (g p1 4))) (((g o 2) * (g p1 4)) - ((g p1 3) * (g o 3)))) * (g o 2))) * ((z_up (z_up g o 0 ((g o 0) + ((Int.tdiv (((g p1 3) * (g o 1)) - ((g o 0) * (g p1 4))) (((g o 2) * (g p1 4)) - ((g p1 3) * (g o 3)))) * (g o 2)))) o 1 ((g o 1) + ((Int.tdiv (((g p1 3) * (g o 1)) - ((g o 0) * (g p1 4))) (((g o 2) * (g p1 4)) - ((g p1 3) * (g o 3)))) * (g o 3)))) p2 4)))) * ((g o 1) + ((Int.tdiv (((g p1 3) * (g o 1)) - ((g o 0) * (g p1 4))) (((g o 2) * (g p1 4)) - ((g p1 3) * (g o 3)))) * (g o 3)))))) o 0) + ((z_up (z_up (z_up (z_up g o 0 ((g o 0) + ((Int.tdiv (((g p1 3) * (g o 1)) - ((g o 0) * (g p1 4))) (((g o 2) * (g p1 4)) - ((g p1 3) * (g o 3)))) * (g o 2)))) o 1 ((g o 1) + ((Int.tdiv (((g p1 3) * (g o 1)) - ((g o 0) * (g p1 4))) (((g o 2) * (g p1 4)) - ((g p1 3) * (g o 3)))) * (g o 3)))) o 2 ((g o 2) + ((Int.tdiv (((g o 2) * ((z_up (z_up g o 0 ((g o 0) + ((Int.tdiv (((g p1 3) * (g o 1)) - ((g o 0) * (g p1 4))) (((g o 2) * (g p1 4)) - ((g p1 3) * (g o 3)))) * (g o 2)))) o 1 ((g o 1) + ((Int.tdiv (((g p1 3) * (g o 1)) - ((g o 0) * (g p1 4))) (((g o 2) * (g p1 4)) - ((g p1 3) * (g o 3)))) * (g o 3)))) p2 4)) - (((z_up (z_up g o 0 ((g o 0) + ((Int.tdiv (((g p1 3) * (g o 1)) - ((g o 0) * (g p1 4))) (((g o 2) * (g p1 4)) - ((g p1 3) * (g o 3)))) * (g o 2)))) o 1 ((g o 1) + ((Int.tdiv (((g p1 3) * (g o 1)) - ((g o 0) * (g p1 4))) (((g o 2) * (g p1 4)) - ((g p1 3) * (g o 3)))) * (g o 3)))) p2 3) * (g o 3))) ((((z_up (z_up g o 0 ((g o 0) + ((Int.tdiv (((g p1 3) * (g o 1)) - ((g o 0) * (g p1 4))) (((g o 2) * (g p1 4)) - ((g p1 3) * (g o 3)))) * (g o 2)))) o 1 ((g o 1) + ((Int.tdiv (((g p1 3) * (g o 1)) - ((g o 0) * (g p1 4))) (((g o 2) * (g p1 4)) - ((g p1 3) * (g o 3)))) * (g o 3)))) p2 3) * ((g o 1) + ((Int.tdiv (((g p1 3) * (g o 1)) - ((g o 0) * (g p1 4))) (((g o 2) * (g p1 4)) - ((g p1 3) * (g o 3)))) * (g o 3)))) - (((g o 0) + ((Int.tdiv (((g p1 3) * (g o 1)) - ((g o 0) * (g p1 4))) (((g o 2) * (g p1 4)) - ((g p1 3) * (g o 3)))) * (g o 2))) * ((z_up (z_up g o 0 ((g o 0) + ((Int.tdiv (((g p1 3) * (g o 1)) - ((g o 0) * (g p1 4))) (((g o 2) * (g p1 4)) - ((g p1 3) * (g o 3)))) * (g o 2)))) o 1 ((g o 1) + ((Int.tdiv (((g p1 3) * (g o 1)) - ((g o 0) * (g p1 4))) (((g o 2) * (g p1 4)) - ((g p1 3) * (g o 3)))) * (g o 3)))) p2 4)))) * ((g o 0) + ((Int.tdiv (((g p1 3) * (g o 1)) - ((g o 0) * (g p1 4))) (((g o 2) * (g p1 4)) - ((g p1 3) * (g o 3)))) * (g o 2)))))) o 3 ((g o 3) + ((Int.tdiv (((g o 2) * ((z_up (z_up g o 0 ((g o 0) + ((Int.tdiv (((g p1 3) * (g o 1)) - ((g o 0) * (g p1 4))) (((g o 2) * (g p1 4)) - ((g p1 3) * (g o 3)))) * (g o 2)))) o 1 ((g o 1) + ((Int.tdiv (((g p1 3) * (g o 1)) - ((g o 0) * (g p1 4))) (((g o 2) * (g p1 4)) - ((g p1 3) * (g o 3)))) * (g o 3)))) p2 4)) - (((z_up (z_up g o 0 ((g o 0) + ((Int.tdiv (((g p1 3) * (g o 1)) - ((g o 0) * (g p1 4))) (((g o 2) * (g p1 4)) - ((g p1 3) * (g o 3)))) * (g o 2)))) o 1 ((g o 1) + ((Int.tdiv (((g p1 3) * (g o 1)) - ((g o 0) * (g p1 4))) (((g o 2) * (g p1 4)) - ((g p1 3) * (g o 3)))) * (g o 3)))) p2 3) * (g o 3))) ((((z_up (z_up g o 0 ((g o 0) + ((Int.tdiv (((g p1 3) * (g o 1)) - ((g o 0) * (g p1 4))) (((g o 2) * (g p1 4)) - ((g p1 3) * (g o 3)))) * (g o 2)))) o 1 ((g o 1) + ((Int.tdiv (((g p1 3) * (g o 1)) - ((g o 0) * (g p1 4))) (((g o 2) * (g p1 4)) - ((g p1 3) * (g o 3)))) * (g o 3)))) p2 3) * ((g o 1) + ((Int.tdiv (((g p1 3) * (g o 1)) - ((g o 0) * (g p1 4))) (((g o 2) * (g p1 4)) - ((g p1 3) * (g o 3)))) * (g o 3)))) - (((g o 0) + ((Int.tdiv (((g p1 3) * (g o 1)) - ((g o 0) * (g p1 4))) (((g o 2) * (g p1 4)) - ((g p1 3) * (g o 3)))) * (g o 2))) * ((z_up (z_up g o 0 ((g o 0) + ((Int.tdiv (((g p1 3) * (g o 1)) - ((g o 0) * (g p1 4))) (((g o 2) * (g p1 4)) - ((g p1 3) * (g o 3)))) * (g o 2)))) o 1 ((g o 1) + ((Int.tdiv (((g p1 3) * (g o 1)) - ((g o 0) * (g p1 4))) (((g o 2) * (g p1 4)) - ((g p1 3) * (g o 3)))) * (g o 3)))) p2 4)))) * ((g o 1) + ((Int.tdiv (((g p1 3) * (g o 1)) - ((g o 0) * (g p1 4))) (((g o 2) * (g p1 4)) - ((g p1 3) * (g o 3)))) * (g o 3)))))) o 2)) * ((z_up (z_up (z_up (z_up g o 0 ((g o 0) + ((Int.tdiv (((g p1 3) * (g o 1)) - ((g o 0) * (g p1 4))) (((g o 2) * (g p1 4)) - ((g p1 3) * (g o 3)))) * (g o 2)))) o 1 ((g o 1) + ((Int.tdiv (((g p1 3) * (g o 1)) - ((g o 0) * (g p1 4))) (((g o 2) * (g p1 4)) - ((g p1 3) * (g o 3)))) * (g o 3)))) o 2 ((g o 2) + ((Int.tdiv (((g o 2) * ((z_up (z_up g o 0 ((g o 0) + ((Int.tdiv (((g p1 3) * (g o 1)) - ((g o 0) * (g p1 4))) (((g o 2) * (g p1 4)) - ((g p1 3) * (g o 3)))) * (g o 2)))) o 1 ((g o 1) + ((Int.tdiv (((g p1 3) * (g o 1)) - ((g o 0) * (g p1 4))) (((g o 2) * (g p1 4)) - ((g p1 3) * (g o 3)))) * (g o 3)))) p2 4)) - (((z_up (z_up g o 0 ((g o 0) + ((Int.tdiv (((g p1 3) * (g o 1)) - ((g o 0) * (g p1 4))) (((g o 2) * (g p1 4)) - ((g p1 3) * (g o 3)))) * (g o 2)))) o 1 ((g o 1) + ((Int.tdiv (((g p1 3) * (g o 1)) - ((g o 0) * (g p1 4))) (((g o 2) * (g p1 4)) - ((g p1 3) * (g o 3)))) * (g o 3)))) p2 3) * (g o 3))) ((((z_up (z_up g o 0 ((g o 0) + ((Int.tdiv (((g p1 3) * (g o 1)) - ((g o 0) * (g p1 4))) (((g o 2) * (g p1 4)) - ((g p1 3) * (g o 3)))) * (g o 2)))) o 1 ((g o 1) + ((Int.tdiv (((g p1 3) * (g o 1)) - ((g o 0) * (g p1 4))) (((g o 2) * (g p1 4)) - ((g p1 3) * (g o 3)))) * (g o 3)))) p2 3) * ((g o 1) + ((Int.tdiv (((g p1 3) * (g o 1)) - ((g o 0) * (g p1 4))) (((g o 2) * (g p1 4)) - ((g p1 3) * (g o 3)))) * (g o 3)))) - (((g o 0) + ((Int.tdiv (((g p1 3) * (g o 1)) - ((g o 0) * (g p1 4))) (((g o 2) * (g p1 4)) - ((g p1 3) * (g o 3)))) * (g o 2))) * ((z_up (z_up g o 0 ((g o 0) + ((Int.tdiv (((g p1 3) * (g o 1)) - ((g o 0) * (g p1 4))) (((g o 2) * (g p1 4)) - ((g p1 3) * (g o 3)))) * (g o 2)))) o 1 ((g o 1) + ((Int.tdiv (((g p1 3) * (g o 1)) - ((g o 0) * (g p1 4))) (((g o 2) * (g p1 4)) - ((g p1 3) * (g o 3)))) * (g o 3)))) p2 4)))) * ((g o 0) + ((Int.tdiv (((g p1 3) * (g o 1)) - ((g o 0) * (g p1 4))) (((g o 2) * (g p1 4)) - ((g p1 3) * (g o 3)))) * (g o 2)))))) o 3 ((g o 3) + ((Int.tdiv (((g o 2) * ((z_up (z_up g o 0 ((g o 0) + ((Int.tdiv (((g p1 3) * (g o 1)) - ((g o 0) * (g p1 4))) (((g o 2) * (g p1 4)) - ((g p1 3) * (g o 3)))) * (g o 2)))) o 1 ((g o 1) + ((Int.tdiv (((g p1 3) * (g o 1)) - ((g o 0) * (g p1 4))) (((g o 2) * (g p1 4)) - ((g p1 3) * (g o 3)))) * (g o 3)))) p2 4)) - (((z_up (z_up g o 0 ((g o 0) + ((Int.tdiv (((g p1 3) * (g o 1)) - ((g o 0) * (g p1 4))) (((g o 2) * (g p1 4)) - ((g p1 3) * (g o 3)))) * (g o 2)))) o 1 ((g o 1) + ((Int.tdiv (((g p1 3) * (g o 1)) - ((g o 0) * (g p1 4))) (((g o 2) * (g p1 4)) - ((g p1 3) * (g o 3)))) * (g o 3)))) p2 3) * (g o 3))) ((((z_up (z_up g o 0 ((g o 0) + ((Int.tdiv (((g p1 3) * (g o 1)) - ((g o 0) * (g p1 4))) (((g o 2) * (g p1 4)) - ((g p1 3) * (g o 3)))) * (g o 2)))) o 1 ((g o 1) + ((Int.tdiv (((g p1 3) * (g o 1)) - ((g o 0) * (g p1 4))) (((g o 2) * (g p1 4)) - ((g p1 3) * (g o 3)))) * (g o 3)))) p2 3) * ((g o 1) + ((Int.tdiv (((g p1 3) * (g o 1)) - ((g o 0) * (g p1 4))) (((g o 2) * (g p1 4)) - ((g p1 3) * (g o 3)))) * (g o 3)))) - (((g o 0) + ((Int.tdiv (((g p1 3) * (g o 1)) - ((g o 0) * (g p1 4))) (((g o 2) * (g p1 4)) - ((g p1 3) * (g o 3)))) * (g o 2))) * ((z_up (z_up g o 0 ((g o 0) + ((Int.tdiv (((g p1 3) * (g o 1)) - ((g o 0) * (g p1 4))) (((g o 2) * (g p1 4)) - ((g p1 3) * (g o 3)))) * (g o 2)))) o 1 ((g o 1) + ((Int.tdiv (((g p1 3) * (g o 1)) - ((g o 0) * (g p1 4))) (((g o 2) * (g p1 4)) - ((g p1 3) * (g o 3)))) * (g o 3)))) p2 4)))) * ((g o 1) + ((Int.tdiv (((g p1 3) * (g o 1)) - ((g o 0) * (g p1 4))) (((g o 2) * (g p1 4)) - ((g p1 3) * (g o 3)))) * (g o 3)))))) p1 4)) - (((z_up (z_up (z_up (z_up g o 0 ((g o 0) + ((Int.tdiv (((g p1 3) * (g o 1)) - ((g o 0) * (g p1 4))) (((g o 2) * (g p1 4)) - ((g p1 3) * (g o 3)))) * (g o 2)))) o 1 ((g o 1) + ((Int.tdiv (((g p1 3) * (g o 1)) - ((g o 0) * (g p1 4))) (((g o 2) * (g p1 4)) - ((g p1 3) * (g o 3)))) * (g o 3)))) o 2 ((g o 2) + ((Int.tdiv (((g o 2) * ((z_up (z_up g o 0 ((g o 0) + ((Int.tdiv (((g p1 3) * (g o 1)) - ((g o 0) * (g p1 4))) (((g o 2) * (g p1 4)) - ((g p1 3) * (g o 3)))) * (g o 2)))) o 1 ((g o 1) + ((Int.tdiv (((g p1 3) * (g o 1)) - ((g o 0) * (g p1 4))) (((g o 2) * (g p1 4)) - ((g p1 3) * (g o 3)))) * (g o 3)))) p2 4)) - (((z_up (z_up g o 0 ((g o 0) + ((Int.tdiv (((g p1 3) * (g o 1)) - ((g o 0) * (g p1 4))) (((g o 2) * (g p1 4)) - ((g p1 3) * (g o 3)))) * (g o 2)))) o 1 ((g o 1) + ((Int.tdiv (((g p1 3) * (g o 1)) - ((g o 0) * (g p1 4))) (((g o 2) * (g p1 4)) - ((g p1 3) * (g o 3)))) * (g o 3)))) p2 3) * (g o 3))) ((((z_up (z_up g o 0 ((g o 0) + ((Int.tdiv (((g p1 3) * (g o 1)) - ((g o 0) * (g p1 4))) (((g o 2) * (g p1 4)) - ((g p1 3) * (g o 3)))) * (g o 2)))) o 1 ((g o 1) + ((Int.tdiv (((g p1 3) * (g o 1)) - ((g o 0) * (g p1 4))) (((g o 2) * (g p1 4)) - ((g p1 3) * (g o 3)))) * (g o 3)))) p2 3) * ((g o 1) + ((Int.tdiv (((g p1 3) * (g o 1)) - ((g o 0) * (g p1 4))) (((g o 2) * (g p1 4)) - ((g p1 3) * (g o 3)))) * (g o 3)))) - (((g o 0) + ((Int.tdiv (((g p1 3) * (g o 1)) - ((g o 0) * (g p1 4))) (((g o 2) * (g p1 4)) - ((g p1 3) * (g o 3)))) * (g o 2))) * ((z_up (z_up g o 0 ((g o 0) + ((Int.tdiv (((g p1 3) * (g o 1)) - ((g o 0) * (g p1 4))) (((g o 2) * (g p1 4)) - ((g p1 3) * (g o 3)))) * (g o 2)))) o 1 ((g o 1) + ((Int.tdiv (((g p1 3) * (g o 1)) - ((g o 0) * (g p1 4))) (((g o 2) * (g p1 4)) - ((g p1 3) * (g o 3)))) * (g o 3)))) p2 4)))) * ((g o 0) + ((Int.tdiv (((g p1 3) * (g o 1)) - ((g o 0) * (g p1 4))) (((g o 2) * (g p1 4)) - ((g p1 3) * (g o 3)))) * (g o 2)))))) o 3 ((g o 3) + ((Int.tdiv (((g o 2) * ((z_up (z_up g o 0 ((g o 0) + ((Int.tdiv (((g p1 3) * (g o 1)) - ((g o 0) * (g p1 4))) (((g o 2) * (g p1 4)) - ((g p1 3) * (g o 3)))) * (g o 2)))) o 1 ((g o 1) + ((Int.tdiv (((g p1 3) * (g o 1)) - ((g o 0) * (g p1 4))) (((g o 2) * (g p1 4)) - ((g p1 3) * (g o 3)))) * (g o 3)))) p2 4)) - (((z_up (z_up g o 0 ((g o 0) + ((Int.tdiv (((g p1 3) * (g o 1)) - ((g o 0) * (g p1 4))) (((g o 2) * (g p1 4)) - ((g p1 3) * (g o 3)))) * (g o 2)))) o 1 ((g o 1) + ((Int.tdiv (((g p1 3) * (g o 1)) - ((g o 0) * (g p1 4))) (((g o 2) * (g p1 4)) - ((g p1 3) * (g o 3)))) * (g o 3)))) p2 3) * (g o 3))) ((((z_up (z_up g o 0 ((g o 0) + ((Int.tdiv (((g p1 3) * (g o 1)) - ((g o 0) * (g p1 4))) (((g o 2) * (g p1 4)) - ((g p1 3) * (g o 3)))) * (g o 2)))) o 1 ((g o 1) + ((Int.tdiv (((g p1 3) * (g o 1)) - ((g o 0) * (g p1 4))) (((g o 2) * (g p1 4)) - ((g p1 3) * (g o 3)))) * (g o 3)))) p2 3) * ((g o 1) + ((Int.tdiv (((g p1 3) * (g o 1)) - ((g o 0) * (g p1 4))) (((g o 2) * (g p1 4)) - ((g p1 3) * (g o 3)))) * (g o 3)))) - (((g o 0) + ((Int.tdiv (((g p1 3) * (g o 1)) - ((g o 0) * (g p1 4))) (((g o 2) * (g p1 4)) - ((g p1 3) * (g o 3)))) * (g o 2))) * ((z_up (z_up g o 0 ((g o 0) + ((Int.tdiv (((g p1 3) * (g o 1)) - ((g o 0) * (g p1 4))) (((g o 2) * (g p1 4)) - ((g p1 3) * (g o 3)))) * (g o 2)))) o 1 ((g o 1) + ((Int.tdiv (((g p1 3) * (g o 1)) - ((g o 0) * (g p1 4))) (((g o 2) * (g p1 4)) - ((g p1 3) * (g o 3)))) * (g o 3)))) p2 4)))) * ((g o 1) + ((Int.tdiv (((g p1 3) * (g o 1)) - ((g o 0) * (g p1 4))) (((g o 2) * (g p1 4)) - ((g p1 3) * (g o 3)))) * (g o 3)))))) p1 3) * (((z_up (z_up (z_up (z_up g o 0 ((g o 0) + ((Int.tdiv (((g p1 3) * (g o 1)) - ((g o 0) * (g p1 4))) (((g o 2) * (g p1 4)) - ((g p1 3) * (g o 3)))) * (g o 2)))) o 1 ((g o 1) + ((Int.tdiv (((g p1 3) * (g o 1)) - ((g o 0) * (g p1 4))) (((g o 2) * (g p1 4)) - ((g p1 3) * (g o 3)))) * (g o 3)))) o 2 ((g o 2) + ((Int.tdiv (((g o 2) * ((z_up (z_up g o 0 ((g o 0) + ((Int.tdiv (((g p1 3) * (g o 1)) - ((g o 0) * (g p1 4))) (((g o 2) * (g p1 4)) - ((g p1 3) * (g o 3)))) * (g o 2)))) o 1 ((g o 1) + ((Int.tdiv (((g p1 3) * (g o 1)) - ((g o 0) * (g p1 4))) (((g o 2) * (g p1 4)) - ((g p1 3) * (g o 3)))) * (g o 3)))) p2 4)) - (((z_up (z_up g o 0 ((g o 0) + ((Int.tdiv (((g p1 3) * (g o 1)) - ((g o 0) * (g p1 4))) (((g o 2) * (g p1 4)) - ((g p1 3) * (g o 3)))) * (g o 2)))) o 1 ((g o 1) + ((Int.tdiv (((g p1 3) * (g o 1)) - ((g o 0) * (g p1 4))) (((g o 2) * (g p1 4)) - ((g p1 3) * (g o 3)))) * (g o 3)))) p2 3) * (g o 3))) ((((z_up (z_up g o 0 ((g o 0) + ((Int.tdiv (((g p1 3) * (g o 1)) - ((g o 0) * (g p1 4))) (((g o 2) * (g p1 4)) - ((g p1 3) * (g o 3)))) * (g o 2)))) o 1 ((g o 1) + ((Int.tdiv (((g p1 3) * (g o 1)) - ((g o 0) * (g p1 4))) (((g o 2) * (g p1 4)) - ((g p1 3) * (g o 3)))) * (g o 3)))) p2 3) * ((g o 1) + ((Int.tdiv (((g p1 3) * (g o 1)) - ((g o 0) * (g p1 4))) (((g o 2) * (g p1 4)) - ((g p1 3) * (g o 3)))) * (g o 3)))) - (((g o 0) + ((Int.tdiv (((g p1 3) * (g o 1)) - ((g o 0) * (g p1 4))) (((g o 2) * (g p1 4)) - ((g p1 3) * (g o 3)))) * (g o 2))) * ((z_up (z_up g o 0 ((g o 0) + ((Int.tdiv (((g p1 3) * (g o 1)) - ((g o 0) * (g p1 4))) (((g o 2) * (g p1 4)) - ((g p1 3) * (g o 3)))) * (g o 2)))) o 1 ((g o 1) + ((Int.tdiv (((g p1 3) * (g o 1)) - ((g o 0) * (g p1 4))) (((g o 2) * (g p1 4)) - ((g p1 3) * (g o 3)))) * (g o 3)))) p2 4)))) * ((g o 0) + ((Int.tdiv (((g p1 3) * (g o 1)) - ((g o 0) * (g p1 4))) (((g o 2) * (g p1 4)) - ((g p1 3) * (g o 3)))) * (g o 2)))))) o 3 ((g o 3) + ((Int.tdiv (((g o 2) * ((z_up (z_up g o 0 ((g o 0) + ((Int.tdiv (((g p1 3) * (g o 1)) - ((g o 0) * (g p1 4))) (((g o 2) * (g p1 4)) - ((g p1 3) * (g o 3)))) * (g o 2)))) o 1 ((g o 1) + ((Int.tdiv (((g p1 3) * (g o 1)) - ((g o 0) * (g p1 4))) (((g o 2) * (g p1 4)) - ((g p1 3) * (g o 3)))) * (g o 3)))) p2 4)) - (((z_up (z_up g o 0 ((g o 0) + ((Int.tdiv (((g p1 3) * (g o 1)) - ((g o 0) * (g p1 4))) (((g o 2) * (g p1 4)) - ((g p1 3) * (g o 3)))) * (g o 2)))) o 1 ((g o 1) + ((Int.tdiv (((g p1 3) * (g o 1)) - ((g o 0) * (g p1 4))) (((g o 2) * (g p1 4)) - ((g p1 3) * (g o 3)))) * (g o 3)))) p2 3) * (g o 3))) ((((z_up (z_up g o 0 ((g o 0) + ((Int.tdiv (((g p1 3) * (g o 1)) - ((g o 0) * (g p1 4))) (((g o 2) * (g p1 4)) - ((g p1 3) * (g o 3)))) * (g o 2)))) o 1 ((g o 1) + ((Int.tdiv (((g p1 3) * (g o 1)) - ((g o 0) * (g p1 4))) (((g o 2) * (g p1 4)) - ((g p1 3) * (g o 3)))) * (g o 3)))) p2 3) * ((g o 1) + ((Int.tdiv (((g p1 3) * (g o 1)) - ((g o 0) * (g p1 4))) (((g o 2) * (g p1 4)) - ((g p1 3) * (g o 3)))) * (g o 3)))) - (((g o 0) + ((Int.tdiv (((g p1 3) * (g o 1)) - ((g o 0) * (g p1 4))) (((g o 2) * (g p1 4)) - ((g p1 3) * (g o 3)))) * (g o 2))) * ((z_up (z_up g o 0 ((g o 0) + ((Int.tdiv (((g p1 3) * (g o 1)) - ((g o 0) * (g p1 4))) (((g o 2) * (g p1 4)) - ((g p1 3) * (g o 3)))) * (g o 2)))) o 1 ((g o 1) + ((Int.tdiv (((g p1 3) * (g o 1)) - ((g o 0) * (g p1 4))) (((g o 2) * (g p1 4)) - ((g p1 3) * (g o 3)))) * (g o 3)))) p2 4)))) * ((g o 1) + ((Int.tdiv (((g p1 3) * (g o 1)) - ((g o 0) * (g p1 4))) (((g o 2) * (g p1 4)) - ((g p1 3) * (g o 3)))) * (g o 3)))))) o 1) + ((z_up (z_up (z_up (z_up g o 0 ((g o 0) + ((Int.tdiv (((g p1 3) * (g o 1)) - ((g o 0) * (g p1 4))) (((g o 2) * (g p1 4)) - ((g p1 3) * (g o 3)))) * (g o 2)))) o 1 ((g o 1) + ((Int.tdiv (((g p1 3) * (g o 1)) - ((g o 0) * (g p1 4))) (((g o 2) * (g p1 4)) - ((g p1 3) * (g o 3)))) * (g o 3)))) o 2 ((g o 2) + ((Int.tdiv (((g o 2) * ((z_up (z_up g o 0 ((g o 0) + ((Int.tdiv (((g p1 3) * (g o 1)) - ((g o 0) * (g p1 4))) (((g o 2) * (g p1 4)) - ((g p1 3) * (g o 3)))) * (g o 2)))) o 1 ((g o 1) + ((Int.tdiv (((g p1 3) * (g o 1)) - ((g o 0) * (g p1 4))) (((g o 2) * (g p1 4)) - ((g p1 3) * (g o 3)))) * (g o 3)))) p2 4)) - (((z_up (z_up g o 0 ((g o 0) + ((Int.tdiv (((g p1 3) * (g o 1)) - ((g o 0) * (g p1 4))) (((g o 2) * (g p1 4)) - ((g p1 3) * (g o 3)))) * (g o 2)))) o 1 ((g o 1) + ((Int.tdiv (((g p1 3) * (g o 1)) - ((g o 0) * (g p1 4))) (((g o 2) * (g p1 4)) - ((g p1 3) * (g o 3)))) * (g o 3)))) p2 3) * (g o 3))) ((((z_up (z_up g o 0 ((g o 0) + ((Int.tdiv (((g p1 3) * (g o 1)) - ((g o 0) * (g p1 4))) (((g o 2) * (g p1 4)) - ((g p1 3) * (g o 3)))) * (g o 2)))) o 1 ((g o 1) + ((Int.tdiv (((g p1 3) * (g o 1)) - ((g o 0) * (g p1 4))) (((g o 2) * (g p1 4)) - ((g p1 3) * (g o 3)))) * (g o 3)))) p2 3) * ((g o 1) + ((Int.tdiv (((g p1 3) * (g o 1)) - ((g o 0) * (g p1 4))) (((g o 2) * (g p1 4)) - ((g p1 3) * (g o 3)))) * (g o 3)))) - (((g o 0) + ((Int.tdiv (((g p1 3) * (g o 1)) - ((g o 0) * (g p1 4))) (((g o 2) * (g p1 4)) - ((g p1 3) * (g o 3)))) * (g o 2))) * ((z_up (z_up g o 0 ((g o 0) + ((Int.tdiv (((g p1 3) * (g o 1)) - ((g o 0) * (g p1 4))) (((g o 2) * (g p1 4)) - ((g p1 3) * (g o 3)))) * (g o 2)))) o 1 ((g o 1) + ((Int.tdiv (((g p1 3) * (g o 1)) - ((g o 0) * (g p1 4))) (((g o 2) * (g p1 4)) - ((g p1 3) * (g o 3)))) * (g o 3)))) p2 4)))) * ((g o 0) + ((Int.tdiv (((g p1 3) * (g o 1)) - ((g o 0) * (g p1 4))) (((g o 2) * (g p1 4)) - ((g p1 3) * (g o 3)))) * (g o 2)))))) o 3 ((g o 3) + ((Int.tdiv (((g o 2) * ((z_up (z_up g o 0 ((g o 0) + ((Int.tdiv (((g p1 3) * (g o 1)) - ((g o 0) * (g p1 4))) (((g o 2) * (g p1 4)) - ((g p1 3) * (g o 3)))) * (g o 2)))) o 1 ((g o 1) + ((Int.tdiv (((g p1 3) * (g o 1)) - ((g o 0) * (g p1 4))) (((g o 2) * (g p1 4)) - ((g p1 3) * (g o 3)))) * (g o 3)))) p2 4)) - (((z_up (z_up g o 0 ((g o 0) + ((Int.tdiv (((g p1 3) * (g o 1)) - ((g o 0) * (g p1 4))) (((g o 2) * (g p1 4)) - ((g p1 3) * (g o 3)))) * (g o 2)))) o 1 ((g o 1) + ((Int.tdiv (((g p1 3) * (g o 1)) - ((g o 0) * (g p1 4))) (((g o 2) * (g p1 4)) - ((g p1 3) * (g o 3)))) * (g o 3)))) p2 3) * (g o 3))) ((((z_up (z_up g o 0 ((g o 0) + ((Int.tdiv (((g p1 3) * (g o 1)) - ((g o 0) * (g p1 4))) (((g o 2) * (g p1 4)) - ((g p1 3) * (g o 3)))) * (g o 2)))) o 1 ((g o 1) + ((Int.tdiv (((g p1 3) * (g o 1)) - ((g o 0) * (g p1 4))) (((g o 2) * (g p1 4)) - ((g p1 3) * (g o 3)))) * (g o 3)))) p2 3) * ((g o 1) + ((Int.tdiv (((g p1 3) * (g o 1)) - ((g o 0) * (g p1 4))) (((g o 2) * (g p1 4)) - ((g p1 3) * (g o 3)))) * (g o 3)))) - (((g o 0) + ((Int.tdiv (((g p1 3) * (g o 1)) - ((g o 0) * (g p1 4))) (((g o 2) * (g p1 4)) - ((g p1 3) * (g o 3)))) * (g o 2))) * ((z_up (z_up g o 0 ((g o 0) + ((Int.tdiv (((g p1 3) * (g o 1)) - ((g o 0) * (g p1 4))) (((g o 2) * (g p1 4)) - ((g p1 3) * (g o 3)))) * (g o 2)))) o 1 ((g o 1) + ((Int.tdiv (((g p1 3) * (g o 1)) - ((g o 0) * (g p1 4))) (((g o 2) * (g p1 4)) - ((g p1 3) * (g o 3)))) * (g o 3)))) p2 4)))) * ((g o 1) + ((Int.tdiv (((g p1 3) * (g o 1)) - ((g o 0) * (g p1 4))) (((g o 2) * (g p1 4)) - ((g p1 3) * (g o 3)))) * (g o 3)))))) o 3))))] N σ (z_up (z_up (z_up (z_up g o 0 ((g o 0) + ((Int.tdiv (((g p1 3) * (g o 1)) - ((g o 0) * (g p1 4))) (((g o 2) * (g p1 4)) - ((g p1 3) * (g o 3)))) * (g o 2)))) o 1 ((g o 1) + ((Int.tdiv (((g p1 3) * (g o 1)) - ((g o 0) * (g p1 4))) (((g o 2) * (g p1 4)) - ((g p1 3) * (g o 3)))) * (g o 3)))) o 2 ((g o 2) + ((Int.tdiv (((g o 2) * ((z_up (z_up g o 0 ((g o 0) + ((Int.tdiv (((g p1 3) * (g o 1)) - ((g o 0) * (g p1 4))) (((g o 2) * (g p1 4)) - ((g p1 3) * (g o 3)))) * (g o 2)))) o 1 ((g o 1) + ((Int.tdiv (((g p1 3) * (g o 1)) - ((g o 0) * (g p1 4))) (((g o 2) * (g p1 4)) - ((g p1 3) * (g o 3)))) * (g o 3)))) p2 4)) - (((z_up (z_up g o 0 ((g o 0) + ((Int.tdiv (((g p1 3) * (g o 1)) - ((g o 0) * (g p1 4))) (((g o 2) * (g p1 4)) - ((g p1 3) * (g o 3)))) * (g o 2)))) o 1 ((g o 1) + ((Int.tdiv (((g p1 3) * (g o 1)) - ((g o 0) * (g p1 4))) (((g o 2) * (g p1 4)) - ((g p1 3) * (g o 3)))) * (g o 3)))) p2 3) * (g o 3))) ((((z_up (z_up g o 0 ((g o 0) + ((Int.tdiv (((g p1 3) * (g o 1)) - ((g o 0) * (g p1 4))) (((g o 2) * (g p1 4)) - ((g p1 3) * (g o 3)))) * (g o 2)))) o 1 ((g o 1) + ((Int.tdiv (((g p1 3) * (g o 1)) - ((g o 0) * (g p1 4))) (((g o 2) * (g p1 4)) - ((g p1 3) * (g o 3)))) * (g o 3)))) p2 3) * ((g o 1) + ((Int.tdiv (((g p1 3) * (g o 1)) - ((g o 0) * (g p1 4))) (((g o 2) * (g p1 4)) - ((g p1 3) * (g o 3)))) * (g o 3)))) - (((g o 0) + ((Int.tdiv (((g p1 3) * (g o 1)) - ((g o 0) * (g p1 4))) (((g o 2) * (g p1 4)) - ((g p1 3) * (g o 3)))) * (g o 2))) * ((z_up (z_up g o 0 ((g o 0) + ((Int.tdiv (((g p1 3) * (g o 1)) - ((g o 0) * (g p1 4))) (((g o 2) * (g p1 4)) - ((g p1 3) * (g o 3)))) * (g o 2)))) o 1 ((g o 1) + ((Int.tdiv (((g p1 3) * (g o 1)) - ((g o 0) * (g p1 4))) (((g o 2) * (g p1 4)) - ((g p1 3) * (g o 3)))) * (g o 3)))) p2 4)))) * ((g o 0) + ((Int.tdiv (((g p1 3) * (g o 1)) - ((g o 0) * (g p1 4))) (((g o 2) * (g p1 4)) - ((g p1 3) * (g o 3)))) * (g o 2)))))) o 3 ((g o 3) + ((Int.tdiv (((g o 2) * ((z_up (z_up g o 0 ((g o 0) + ((Int.tdiv (((g p1 3) * (g o 1)) - ((g o 0) * (g p1 4))) (((g o 2) * (g p1 4)) - ((g p1 3) * (g o 3)))) * (g o 2)))) o 1 ((g o 1) + ((Int.tdiv (((g p1 3) * (g o 1)) - ((g o 0) * (g p1 4))) (((g o 2) * (g p1 4)) - ((g p1 3) * (g o 3)))) * (g o 3)))) p2 4)) - (((z_up (z_up g o 0 ((g o 0) + ((Int.tdiv (((g p1 3) * (g o 1)) - ((g o 0) * (g p1 4))) (((g o 2) * (g p1 4)) - ((g p1 3) * (g o 3)))) * (g o 2)))) o 1 ((g o 1) + ((Int.tdiv (((g p1 3) * (g o 1)) - ((g o 0) * (g p1 4))) (((g o 2) * (g p1 4)) - ((g p1 3) * (g o 3)))) * (g o 3)))) p2 3) * (g o 3))) ((((z_up (z_up g o 0 ((g o 0) + ((Int.tdiv (((g p1 3) * (g o 1)) - ((g o 0) * (g p1 4))) (((g o 2) * (g p1 4)) - ((g p1 3) * (g o 3)))) * (g o 2)))) o 1 ((g o 1) + ((Int.tdiv (((g p1 3) * (g o 1)) - ((g o 0) * (g p1 4))) (((g o 2) * (g p1 4)) - ((g p1 3) * (g o 3)))) * (g o 3)))) p2 3) * ((g o 1) + ((Int.tdiv (((g p1 3) * (g o 1)) - ((g o 0) * (g p1 4))) (((g o 2) * (g p1 4)) - ((g p1 3) * (g o 3)))) * (g o 3)))) - (((g o 0) + ((Int.tdiv (((g p1 3) * (g o 1)) - ((g o 0) * (g p1 4))) (((g o 2) * (g p1 4)) - ((g p1 3) * (g o 3)))) * (g o 2))) * ((z_up (z_up g o 0 ((g o 0) + ((Int.tdiv (((g p1 3) * (g o 1)) - ((g o 0) * (g p1 4))) (((g o 2) * (g p1 4)) - ((g p1 3) * (g o 3)))) * (g o 2)))) o 1 ((g o 1) + ((Int.tdiv (((g p1 3) * (g o 1)) - ((g o 0) * (g p1 4))) (((g o 2) * (g p1 4)) - ((g p1 3) * (g o 3)))) * (g o 3)))) p2 4)))) * ((g o 1) + ((Int.tdiv (((g p1 3) * (g o 1)) - ((g o 0) * (g p1 4))) (((g o 2) * (g p1 4)) - ((g p1 3) * (g o 3)))) * (g o 3)))))) Q
          refine z_lconst (v := 0) d_Sp_squeeze_234 (by decide) (by decide) ?_
          refine z_lcmp_le (tgt := 240) d_Sp_squeeze_235 d_Sp_squeeze_236 (by decide) (fun c75 => ?_) (fun c75 => ?_)
          · have h := h.1 c75
            obtain ⟨c76, h⟩ := h
            refine z_iinc (n := 1) (ls' := [(3, (0, x3 + 1)), (12, (0, Int.tdiv (((g o 2) * ((z_up (z_up g o 0 ((g o 0) + ((Int.tdiv (((g p1 3) * (g o 1)) - ((g o 0) * (g p1 4))) (((g o 2) * (g p1 4)) - ((g p1 3) * (g o 3)))) * (g o 2)))) o 1 ((g o 1) + ((Int.tdiv (((g p1 3) * (g o 1)) - ((g o 0) * (g p1 4))) (((g o 2) * (g p1 4)) - ((g p1 3) * (g o 3)))) * (g o 3)))) p2 4)) - (((z_up (z_up g o 0 ((g o 0) + ((Int.tdiv (((g p1 3) * (g o 1)) - ((g o 0) * (g p1 4))) (((g o 2) * (g p1 4)) - ((g p1 3) * (g o 3)))) * (g o 2)))) o 1 ((g o 1) + ((Int.tdiv (((g p1 3) * (g o 1)) - ((g o 0) * (g p1 4))) (((g o 2) * (g p1 4)) - ((g p1 3) * (g o 3)))) * (g o 3)))) p2 3) * (g o 3))) ((((z_up (z_up g o 0 ((g o 0) + ((Int.tdiv (((g p1 3) * (g o 1)) - ((g o 0) * (g p1 4))) (((g o 2) * (g p1 4)) - ((g p1 3) * (g o 3)))) * (g o 2)))) o 1 ((g o 1) + ((Int.tdiv (((g p1 3) * (g o 1)) - ((g o 0) * (g p1 4))) (((g o 2) * (g p1 4)) - ((g p1 3) * (g o 3)))) * (g o 3)))) p2 3) * ((g o 1) + ((Int.tdiv (((g p1 3) * (g o 1)) - ((g o 0) * (g p1 4))) (((g o 2) * (g p1 4)) - ((g p1 3) * (g o 3)))) * (g o 3)))) - (((g o 0) + ((Int.tdiv (((g p1 3) * (g o 1)) - ((g o 0) * (g p1 4))) (((g o 2) * (g p1 4)) - ((g p1 3) * (g o 3)))) * (g o 2))) * ((z_up (z_up g o 0 ((g o 0) + ((Int.tdiv (((g p1 3) * (g o 1)) - ((g o 0) * (g p1 4))) (((g o 2) * (g p1 4)) - ((g p1 3) * (g o 3)))) * (g o 2)))) o 1 ((g o 1) + ((Int.tdiv (((g p1 3) * (g o 1)) - ((g o 0) * (g p1 4))) (((g o 2) * (g p1 4)) - ((g p1 3) * (g o 3)))) * (g o 3)))) p2 4))))), (10, (1, (((z_up (z_up g o 0 ((g o 0) + ((Int.tdiv (((g p1 3) * (g o 1)) - ((g o 0) * (g p1 4))) (((g o 2) * (g p1 4)) - ((g p1 3) * (g o 3)))) * (g o 2)))) o 1 ((g o 1) + ((Int.tdiv (((g p1 3) * (g o 1)) - ((g o 0) * (g p1 4))) (((g o 2) * (g p1 4)) - ((g p1 3) * (g o 3)))) * (g o 3)))) p2 3) * ((g o 1) + ((Int.tdiv (((g p1 3) * (g o 1)) - ((g o 0) * (g p1 4))) (((g o 2) * (g p1 4)) - ((g p1 3) * (g o 3)))) * (g o 3)))) - (((g o 0) + ((Int.tdiv (((g p1 3) * (g o 1)) - ((g o 0) * (g p1 4))) (((g o 2) * (g p1 4)) - ((g p1 3) * (g o 3)))) * (g o 2))) * ((z_up (z_up g o 0 ((g o 0) + ((Int.tdiv (((g p1 3) * (g o 1)) - ((g o 0) * (g p1 4))) (((g o 2) * (g p1 4)) - ((g p1 3) * (g o 3)))) * (g o 2)))) o 1 ((g o 1) + ((Int.tdiv (((g p1 3) * (g o 1)) - ((g o 0) * (g p1 4))) (((g o 2) * (g p1 4)) - ((g p1 3) * (g o 3)))) * (g o 3)))) p2 4)))), (8, (1, ((g o 2) * ((z_up (z_up g o 0 ((g o 0) + ((Int.tdiv (((g p1 3) * (g o 1)) - ((g o 0) * (g p1 4))) (((g o 2) * (g p1 4)) - ((g p1 3) * (g o 3)))) * (g o 2)))) o 1 ((g o 1) + ((Int.tdiv (((g p1 3) * (g o 1)) - ((g o 0) * (g p1 4))) (((g o 2) * (g p1 4)) - ((g p1 3) * (g o 3)))) * (g o 3)))) p2 4)) - (((z_up (z_up g o 0 ((g o 0) + ((Int.tdiv (((g p1 3) * (g o 1)) - ((g o 0) * (g p1 4))) (((g o 2) * (g p1 4)) - ((g p1 3) * (g o 3)))) * (g o 2)))) o 1 ((g o 1) + ((Int.tdiv (((g p1 3) * (g o 1)) - ((g o 0) * (g p1 4))) (((g o 2) * (g p1 4)) - ((g p1 3) * (g o 3)))) * (g o 3)))) p2 3) * (g o 3)))), (6, (1, ((g o 2) * (g p1 4)) - ((g p1 3) * (g o 3)))), (4, (1, ((g p1 3) * (g o 1)) - ((g o 0) * (g p1 4)))), (0, (2, ((o : Nat) : Int))), (1, (2, ((p1 : Nat) : Int))), (2, (2, ((p2 : Nat) : Int)))]) 8 d_Sp_squeeze_240 rfl c76 rfl rfl ?_
            refine z_goto (tgt := 6) d_Sp_squeeze_243 (by decide) ?_
            refine z_sub (ls' := [(0, (2, ((o : Nat) : Int))), (1, (2, ((p1 : Nat) : Int))), (2, (2, ((p2 : Nat) : Int))), (3, (0, x3 + 1))]) [6, 7, 8, 0] rfl ?_
            exact h
          · have h := h.2 c75
            exact z_vret d_Sp_squeeze_239 rfl (by decide) (by decide) ⟨rfl, rfl, h⟩
      · have h := h.2 c51
        exact z_vret d_Sp_squeeze_125 rfl (by decide) (by decide) ⟨rfl, rfl, h⟩
theorem d_Sp_standOn_0 : decode (z_c m_Sp_standOn) 0 = .ok (.aload_n 1, 1) := by decide +kernel
theorem d_Sp_standOn_1 : decode (z_c m_Sp_standOn) 1 = .ok (.getfield 30, 3) := by decide +kernel
theorem d_Sp_standOn_4 : decode (z_c m_Sp_standOn) 4 = .ok (.aload_n 1, 1) := by decide +kernel
theorem d_Sp_standOn_5 : decode (z_c m_Sp_standOn) 5 = .ok (.getfield 35, 3) := by decide +kernel
theorem d_Sp_standOn_8 : decode (z_c m_Sp_standOn) 8 = .ok (.isub, 1) := by decide +kernel
theorem d_Sp_standOn_9 : decode (z_c m_Sp_standOn) 9 = .ok (.istore_n 2, 1) := by decide +kernel
theorem d_Sp_standOn_10 : decode (z_c m_Sp_standOn) 10 = .ok (.aload_n 1, 1) := by decide +kernel
theorem d_Sp_standOn_11 : decode (z_c m_Sp_standOn) 11 = .ok (.getfield 38, 3) := by decide +kernel
theorem d_Sp_standOn_14 : decode (z_c m_Sp_standOn) 14 = .ok (.aload_n 1, 1) := by decide +kernel
theorem d_Sp_standOn_15 : decode (z_c m_Sp_standOn) 15 = .ok (.getfield 41, 3) := by decide +kernel
theorem d_Sp_standOn_18 : decode (z_c m_Sp_standOn) 18 = .ok (.isub, 1) := by decide +kernel
theorem d_Sp_standOn_19 : decode (z_c m_Sp_standOn) 19 = .ok (.istore_n 3, 1) := by decide +kernel
theorem d_Sp_standOn_20 : decode (z_c m_Sp_standOn) 20 = .ok (.aload_n 1, 1) := by decide +kernel
theorem d_Sp_standOn_21 : decode (z_c m_Sp_standOn) 21 = .ok (.getfield 35, 3) := by decide +kernel
theorem d_Sp_standOn_24 : decode (z_c m_Sp_standOn) 24 = .ok (.aload_n 1, 1) := by decide +kernel
theorem d_Sp_standOn_25 : decode (z_c m_Sp_standOn) 25 = .ok (.getfield 41, 3) := by decide +kernel
theorem d_Sp_standOn_28 : decode (z_c m_Sp_standOn) 28 = .ok (.iload_n 2, 1) := by decide +kernel
theorem d_Sp_standOn_29 : decode (z_c m_Sp_standOn) 29 = .ok (.iload_n 3, 1) := by decide +kernel
theorem d_Sp_standOn_30 : decode (z_c m_Sp_standOn) 30 = .ok (.invokestatic 44, 3) := by decide +kernel
theorem d_Sp_standOn_33 : decode (z_c m_Sp_standOn) 33 = .ok (.lconst 0, 1) := by decide +kernel
theorem d_Sp_standOn_34 : decode (z_c m_Sp_standOn) 34 = .ok (.lcmp, 1) := by decide +kernel
theorem d_Sp_standOn_35 : decode (z_c m_Sp_standOn) 35 = .ok (.ifCond .ge 7, 3) := by decide +kernel
theorem d_Sp_standOn_38 : decode (z_c m_Sp_standOn) 38 = .ok (.iconst 1, 1) := by decide +kernel
theorem d_Sp_standOn_39 : decode (z_c m_Sp_standOn) 39 = .ok (.goto 4, 3) := by decide +kernel
theorem d_Sp_standOn_42 : decode (z_c m_Sp_standOn) 42 = .ok (.iconst 0, 1) := by decide +kernel
theorem d_Sp_standOn_43 : decode (z_c m_Sp_standOn) 43 = .ok (.istore 4, 2) := by decide +kernel
theorem d_Sp_standOn_45 : decode (z_c m_Sp_standOn) 45 = .ok (.aload_n 0, 1) := by decide +kernel
theorem d_Sp_standOn_46 : decode (z_c m_Sp_standOn) 46 = .ok (.iload 4, 2) := by decide +kernel
theorem d_Sp_standOn_48 : decode (z_c m_Sp_standOn) 48 = .ok (.ifCond .eq 10, 3) := by decide +kernel
theorem d_Sp_standOn_51 : decode (z_c m_Sp_standOn) 51 = .ok (.aload_n 1, 1) := by decide +kernel
theorem d_Sp_standOn_52 : decode (z_c m_Sp_standOn) 52 = .ok (.getfield 35, 3) := by decide +kernel
theorem d_Sp_standOn_55 : decode (z_c m_Sp_standOn) 55 = .ok (.goto 4, 3) := by decide +kernel
theorem d_Sp_standOn_58 : decode (z_c m_Sp_standOn) 58 = .ok (.iload_n 2, 1) := by decide +kernel
theorem d_Sp_standOn_59 : decode (z_c m_Sp_standOn) 59 = .ok (.putfield 14, 3) := by decide +kernel
theorem d_Sp_standOn_62 : decode (z_c m_Sp_standOn) 62 = .ok (.aload_n 0, 1) := by decide +kernel
theorem d_Sp_standOn_63 : decode (z_c m_Sp_standOn) 63 = .ok (.iload 4, 2) := by decide +kernel
theorem d_Sp_standOn_65 : decode (z_c m_Sp_standOn) 65 = .ok (.ifCond .eq 10, 3) := by decide +kernel
theorem d_Sp_standOn_68 : decode (z_c m_Sp_standOn) 68 = .ok (.aload_n 1, 1) := by decide +kernel
theorem d_Sp_standOn_69 : decode (z_c m_Sp_standOn) 69 = .ok (.getfield 41, 3) := by decide +kernel
theorem d_Sp_standOn_72 : decode (z_c m_Sp_standOn) 72 = .ok (.goto 4, 3) := by decide +kernel
theorem d_Sp_standOn_75 : decode (z_c m_Sp_standOn) 75 = .ok (.iload_n 3, 1) := by decide +kernel
theorem d_Sp_standOn_76 : decode (z_c m_Sp_standOn) 76 = .ok (.putfield 18, 3) := by decide +kernel
theorem d_Sp_standOn_79 : decode (z_c m_Sp_standOn) 79 = .ok (.aload_n 0, 1) := by decide +kernel
theorem d_Sp_standOn_80 : decode (z_c m_Sp_standOn) 80 = .ok (.iload 4, 2) := by decide +kernel
theorem d_Sp_standOn_82 : decode (z_c m_Sp_standOn) 82 = .ok (.ifCond .eq 7, 3) := by decide +kernel
theorem d_Sp_standOn_85 : decode (z_c m_Sp_standOn) 85 = .ok (.iload_n 2, 1) := by decide +kernel
theorem d_Sp_standOn_86 : decode (z_c m_Sp_standOn) 86 = .ok (.goto 7, 3) := by decide +kernel
theorem d_Sp_standOn_89 : decode (z_c m_Sp_standOn) 89 = .ok (.aload_n 1, 1) := by decide +kernel
theorem d_Sp_standOn_90 : decode (z_c m_Sp_standOn) 90 = .ok (.getfield 35, 3) := by decide +kernel
theorem d_Sp_standOn_93 : decode (z_c m_Sp_standOn) 93 = .ok (.putfield 21, 3) := by decide +kernel
theorem d_Sp_standOn_96 : decode (z_c m_Sp_standOn) 96 = .ok (.aload_n 0, 1) := by decide +kernel
theorem d_Sp_standOn_97 : decode (z_c m_Sp_standOn) 97 = .ok (.iload 4, 2) := by decide +kernel
theorem d_Sp_standOn_99 : decode (z_c m_Sp_standOn) 99 = .ok (.ifCond .eq 7, 3) := by decide +kernel
theorem d_Sp_standOn_102 : decode (z_c m_Sp_standOn) 102 = .ok (.iload_n 3, 1) := by decide +kernel
theorem d_Sp_standOn_103 : decode (z_c m_Sp_standOn) 103 = .ok (.goto 7, 3) := by decide +kernel
theorem d_Sp_standOn_106 : decode (z_c m_Sp_standOn) 106 = .ok (.aload_n 1, 1) := by decide +kernel
theorem d_Sp_standOn_107 : decode (z_c m_Sp_standOn) 107 = .ok (.getfield 41, 3) := by decide +kernel
theorem d_Sp_standOn_110 : decode (z_c m_Sp_standOn) 110 = .ok (.putfield 24, 3) := by decide +kernel
theorem d_Sp_standOn_113 : decode (z_c m_Sp_standOn) 113 = .ok (.aload_n 0, 1) := by decide +kernel
theorem d_Sp_standOn_114 : decode (z_c m_Sp_standOn) 114 = .ok (.aload_n 1, 1) := by decide +kernel
theorem d_Sp_standOn_115 : decode (z_c m_Sp_standOn) 115 = .ok (.invokevirtual 48, 3) := by decide +kernel
theorem d_Sp_standOn_118 : decode (z_c m_Sp_standOn) 118 = .ok (.putfield 27, 3) := by decide +kernel
theorem d_Sp_standOn_121 : decode (z_c m_Sp_standOn) 121 = .ok (.return_, 1) := by decide +kernel
set_option maxRecDepth 8000 in
theorem b_Sp_standOn_0 {X : z_X} {N : Nat} {σ g : z_G} {Q : z_P} {o p1 : Nat} (ho : z_lay X N σ o z_SSp z_RSp) (hp1 : z_lay X N σ p1 z_SCh z_RCh) (h : (-2147483648 ≤ ((g p1 3) - (g p1 5)) ∧ ((g p1 3) - (g p1 5)) ≤ 2147483647) ∧ ((-2147483648 ≤ ((g p1 4) - (g p1 6)) ∧ ((g p1 4) - (g p1 6)) ≤ 2147483647) ∧ ((-9223372036854775808 ≤ ((g p1 5) * ((g p1 4) - (g p1 6))) ∧ ((g p1 5) * ((g p1 4) - (g p1 6))) ≤ 9223372036854775807) ∧ ((-9223372036854775808 ≤ (((g p1 3) - (g p1 5)) * (g p1 6)) ∧ (((g p1 3) - (g p1 5)) * (g p1 6)) ≤ 9223372036854775807) ∧ ((-9223372036854775808 ≤ (((g p1 5) * ((g p1 4) - (g p1 6))) - (((g p1 3) - (g p1 5)) * (g p1 6))) ∧ (((g p1 5) * ((g p1 4) - (g p1 6))) - (((g p1 3) - (g p1 5)) * (g p1 6))) ≤ 9223372036854775807) ∧ (((0 ≤ (((g p1 5) * ((g p1 4) - (g p1 6))) - (((g p1 3) - (g p1 5)) * (g p1 6)))) → ((-2147483648 ≤ (((z_up (z_up (z_up (z_up g o 0 ((g p1 3) - (g p1 5))) o 1 ((g p1 4) - (g p1 6))) o 2 ((z_up (z_up g o 0 ((g p1 3) - (g p1 5))) o 1 ((g p1 4) - (g p1 6))) p1 5)) o 3 ((z_up (z_up (z_up g o 0 ((g p1 3) - (g p1 5))) o 1 ((g p1 4) - (g p1 6))) o 2 ((z_up (z_up g o 0 ((g p1 3) - (g p1 5))) o 1 ((g p1 4) - (g p1 6))) p1 5)) p1 6)) p1 2) - 2) ∧ (((z_up (z_up (z_up (z_up g o 0 ((g p1 3) - (g p1 5))) o 1 ((g p1 4) - (g p1 6))) o 2 ((z_up (z_up g o 0 ((g p1 3) - (g p1 5))) o 1 ((g p1 4) - (g p1 6))) p1 5)) o 3 ((z_up (z_up (z_up g o 0 ((g p1 3) - (g p1 5))) o 1 ((g p1 4) - (g p1 6))) o 2 ((z_up (z_up g o 0 ((g p1 3) - (g p1 5))) o 1 ((g p1 4) - (g p1 6))) p1 5)) p1 6)) p1 2) - 2) ≤ 2147483647) ∧ Q 0 (z_up (z_up (z_up (z_up (z_up g o 0 ((g p1 3) - (g p1 5))) o 1 ((g p1 4) - (g p1 6))) o 2 ((z_up (z_up g o 0 ((g p1 3) - (g p1 5))) o 1 ((g p1 4) - (g p1 6))) p1 5)) o 3 ((z_up (z_up (z_up g o 0 ((g p1 3) - (g p1 5))) o 1 ((g p1 4) - (g p1 6))) o 2 ((z_up (z_up g o 0 ((g p1 3) - (g p1 5))) o 1 ((g p1 4) - (g p1 6))) p1 5)) p1 6)) o 4 (((z_up (z_up (z_up (z_up g o 0 ((g p1 3) - (g p1 5))) o 1 ((g p1 4) - (g p1 6))) o 2 ((z_up (z_up g o 0 ((g p1 3) - (g p1 5))) o 1 ((g p1 4) - (g p1 6))) p1 5)) o 3 ((z_up (z_up (z_up g o 0 ((g p1 3) - (g p1 5))) o 1 ((g p1 4) - (g p1 6))) o 2 ((z_up (z_up g o 0 ((g p1 3) - (g p1 5))) o 1 ((g p1 4) - (g p1 6))) p1 5)) p1 6)) p1 2) - 2)))) ∧ (¬ (0 ≤ (((g p1 5) * ((g p1 4) - (g p1 6))) - (((g p1 3) - (g p1 5)) * (g p1 6)))) → ((-2147483648 ≤ (((z_up (z_up (z_up (z_up g o 0 (g p1 5)) o 1 ((z_up g o 0 (g p1 5)) p1 6)) o 2 ((g p1 3) - (g p1 5))) o 3 ((g p1 4) - (g p1 6))) p1 2) - 2) ∧ (((z_up (z_up (z_up (z_up g o 0 (g p1 5)) o 1 ((z_up g o 0 (g p1 5)) p1 6)) o 2 ((g p1 3) - (g p1 5))) o 3 ((g p1 4) - (g p1 6))) p1 2) - 2) ≤ 2147483647) ∧ Q 0 (z_up (z_up (z_up (z_up (z_up g o 0 (g p1 5)) o 1 ((z_up g o 0 (g p1 5)) p1 6)) o 2 ((g p1 3) - (g p1 5))) o 3 ((g p1 4) - (g p1 6))) o 4 (((z_up (z_up (z_up (z_up g o 0 (g p1 5)) o 1 ((z_up g o 0 (g p1 5)) p1 6)) o 2 ((g p1 3) - (g p1 5))) o 3 ((g p1 4) - (g p1 6))) p1 2) - 2)))))))))) : z_O X 2 m_Sp_standOn [(2, ((o : Nat) : Int)), (2, ((p1 : Nat) : Int))] N σ g Q := by
  refine z_Oenter mi_Sp_standOn rfl (fun _ => ?_)
  show z_U X 2 m_Sp_standOn 0 [(0, (2, ((o : Nat) : Int))), (1, (2, ((p1 : Nat) : Int)))] [] N σ g Q
  refine z_aload_n (i := 1) (c := p1) 1 d_Sp_standOn_0 rfl rfl rfl ?_
  refine z_geti (c := p1) (kI := 3) d_Sp_standOn_1 fd_Ch_top fl_Sp_30 (Or.inl rfl) rfl rfl (ks_Ch_0 hp1) (kl_Ch_0 hp1) ?_
  refine z_aload_n (i := 1) (c := p1) 1 d_Sp_standOn_4 rfl rfl rfl ?_
  refine z_geti (c := p1) (kI := 5) d_Sp_standOn_5 fd_Ch_lastTop fl_Sp_35 (Or.inl rfl) rfl rfl (ks_Ch_0 hp1) (kl_Ch_0 hp1) ?_
  obtain ⟨c1, h⟩ := h
  refine z_isub d_Sp_standOn_8 c1 ?_
  refine z_istore_n (i := 2) (ls' := [(2, (0, (g p1 3) - (g p1 5))), (0, (2, ((o : Nat) : Int))), (1, (2, ((p1 : Nat) : Int)))]) d_Sp_standOn_9 rfl rfl rfl ?_
  refine z_aload_n (i := 1) (c := p1) 2 d_Sp_standOn_10 rfl rfl rfl ?_
  refine z_geti (c := p1) (kI := 4) d_Sp_standOn_11 fd_Ch_bottom fl_Sp_38 (Or.inl rfl) rfl rfl (ks_Ch_0 hp1) (kl_Ch_0 hp1) ?_
  refine z_aload_n (i := 1) (c := p1) 2 d_Sp_standOn_14 rfl rfl rfl ?_
  refine z_geti (c := p1) (kI := 6) d_Sp_standOn_15 fd_Ch_lastBottom fl_Sp_41 (Or.inl rfl) rfl rfl (ks_Ch_0 hp1) (kl_Ch_0 hp1) ?_
  obtain ⟨c2, h⟩ := h
  refine z_isub d_Sp_standOn_18 c2 ?_
  refine z_istore_n (i := 3) (ls' := [(3, (0, (g p1 4) - (g p1 6))), (2, (0, (g p1 3) - (g p1 5))), (0, (2, ((o : Nat) : Int))), (1, (2, ((p1 : Nat) : Int)))]) d_Sp_standOn_19 rfl rfl rfl ?_
  refine z_aload_n (i := 1) (c := p1) 3 d_Sp_standOn_20 rfl rfl rfl ?_
  refine z_geti (c := p1) (kI := 5) d_Sp_standOn_21 fd_Ch_lastTop fl_Sp_35 (Or.inl rfl) rfl rfl (ks_Ch_0 hp1) (kl_Ch_0 hp1) ?_
  refine z_aload_n (i := 1) (c := p1) 3 d_Sp_standOn_24 rfl rfl rfl ?_
  refine z_geti (c := p1) (kI := 6) d_Sp_standOn_25 fd_Ch_lastBottom fl_Sp_41 (Or.inl rfl) rfl rfl (ks_Ch_0 hp1) (kl_Ch_0 hp1) ?_
  refine z_iload_n (i := 2) 1 d_Sp_standOn_28 rfl rfl ?_
  refine z_iload_n (i := 3) 0 d_Sp_standOn_29 rfl rfl ?_
  refine z_cSN (as := [(0, g p1 5), (0, g p1 6), (0, (g p1 3) - (g p1 5)), (0, (g p1 4) - (g p1 6))]) (d' := 1) (st := []) d_Sp_standOn_30 mi_F_cross nl_Sp_44 ms_F_cross rfl rfl rfl rfl rfl (b_F_cross_0  ?_)
  obtain ⟨c3, h⟩ := h
  refine ⟨c3, ?_⟩
  obtain ⟨c4, h⟩ := h
  refine ⟨c4, ?_⟩
  obtain ⟨c5, h⟩ := h
  refine ⟨c5, ?_⟩
  intro _
  show z_U X 2 m_Sp_standOn 33 [(3, (0, (g p1 4) - (g p1 6))), (2, (0, (g p1 3) - (g p1 5))), (0, (2, ((o : Nat) : Int))), (1, (2, ((p1 : Nat) : Int)))] [(1, ((g p1 5) * ((g p1 4) - (g p1 6))) - (((g p1 3) - (g p1 5)) * (g p1 6)))] N σ g Q
  refine z_lconst (v := 0) d_Sp_standOn_33 (by decide) (by decide) ?_
  refine z_lcmp_ge (tgt := 42) d_Sp_standOn_34 d_Sp_standOn_35 (by decide) (fun c6 => ?_) (fun c6 => ?_)
  · have h := h.1 c6
    refine z_iconst (n := 0) d_Sp_standOn_42 (by decide) ?_
    refine z_istore (ls' := [(4, (0, 0)), (3, (0, (g p1 4) - (g p1 6))), (2, (0, (g p1 3) - (g p1 5))), (0, (2, ((o : Nat) : Int))), (1, (2, ((p1 : Nat) : Int)))]) d_Sp_standOn_43 rfl rfl ?_
    refine z_aload_n (i := 0) (c := o) 3 d_Sp_standOn_45 rfl rfl rfl ?_
    refine z_iload 0 d_Sp_standOn_46 rfl ?_
    refine z_if_eq (tgt := 58) d_Sp_standOn_48 (by decide) (fun _ => ?_) (fun c => absurd (by decide) c)
    refine z_iload_n (i := 2) 2 d_Sp_standOn_58 rfl rfl ?_
    refine z_puti (c := o) (kI := 0) d_Sp_standOn_59 fd_Sp_lowTop fl_Sp_14 pf_Sp_lowTop rfl rfl rfl rfl (ks_Sp_0 ho) (kl_Sp_0 ho) ?_
    refine z_aload_n (i := 0) (c := o) 3 d_Sp_standOn_62 rfl rfl rfl ?_
    refine z_iload 0 d_Sp_standOn_63 rfl ?_
    refine z_if_eq (tgt := 75) d_Sp_standOn_65 (by decide) (fun _ => ?_) (fun c => absurd (by decide) c)
    refine z_iload_n (i := 3) 1 d_Sp_standOn_75 rfl rfl ?_
    refine z_puti (c := o) (kI := 1) d_Sp_standOn_76 fd_Sp_lowBottom fl_Sp_18 pf_Sp_lowBottom rfl rfl rfl rfl (ks_Sp_0 ho) (kl_Sp_0 ho) ?_
    refine z_aload_n (i := 0) (c := o) 3 d_Sp_standOn_79 rfl rfl rfl ?_
    refine z_iload 0 d_Sp_standOn_80 rfl ?_
    refine z_if_eq (tgt := 89) d_Sp_standOn_82 (by decide) (fun _ => ?_) (fun c => absurd (by decide) c)
    refine z_aload_n (i := 1) (c := p1) 4 d_Sp_standOn_89 rfl rfl rfl ?_
    refine z_geti (c := p1) (kI := 5) d_Sp_standOn_90 fd_Ch_lastTop fl_Sp_35 (Or.inl rfl) rfl rfl (ks_Ch_0 hp1) (kl_Ch_0 hp1) ?_
    refine z_puti (c := o) (kI := 2) d_Sp_standOn_93 fd_Sp_highTop fl_Sp_21 pf_Sp_highTop rfl rfl rfl rfl (ks_Sp_0 ho) (kl_Sp_0 ho) ?_
    refine z_aload_n (i := 0) (c := o) 3 d_Sp_standOn_96 rfl rfl rfl ?_
    refine z_iload 0 d_Sp_standOn_97 rfl ?_
    refine z_if_eq (tgt := 106) d_Sp_standOn_99 (by decide) (fun _ => ?_) (fun c => absurd (by decide) c)
    refine z_aload_n (i := 1) (c := p1) 4 d_Sp_standOn_106 rfl rfl rfl ?_
    refine z_geti (c := p1) (kI := 6) d_Sp_standOn_107 fd_Ch_lastBottom fl_Sp_41 (Or.inl rfl) rfl rfl (ks_Ch_0 hp1) (kl_Ch_0 hp1) ?_
    refine z_puti (c := o) (kI := 3) d_Sp_standOn_110 fd_Sp_highBottom fl_Sp_24 pf_Sp_highBottom rfl rfl rfl rfl (ks_Sp_0 ho) (kl_Sp_0 ho) ?_
    refine z_aload_n (i := 0) (c := o) 3 d_Sp_standOn_113 rfl rfl rfl ?_
    refine z_aload_n (i := 1) (c := p1) 4 d_Sp_standOn_114 rfl rfl rfl ?_
    refine z_cV (c := p1) (as := []) (d' := 1) (st := [(2, ((o : Nat) : Int))]) d_Sp_standOn_115 mi_Ch_turns ml_Sp_48 mv_Ch_turns se_Ch_turns rfl rfl rfl rfl (ks_Ch_0 hp1) rfl rfl (kl_Ch_0 hp1) rfl rfl (b_Ch_turns_0 hp1 ?_)
    obtain ⟨c7, h⟩ := h
    refine ⟨c7, ?_⟩
    intro _
    show z_U X 2 m_Sp_standOn 118 [(4, (0, 0)), (3, (0, (g p1 4) - (g p1 6))), (2, (0, (g p1 3) - (g p1 5))), (0, (2, ((o : Nat) : Int))), (1, (2, ((p1 : Nat) : Int)))] [(0, ((z_up (z_up (z_up (z_up g o 0 ((g p1 3) - (g p1 5))) o 1 ((g p1 4) - (g p1 6))) o 2 ((z_up (z_up g o 0 ((g p1 3) - (g p1 5))) o 1 ((g p1 4) - (g p1 6))) p1 5)) o 3 ((z_up (z_up (z_up g o 0 ((g p1 3) - (g p1 5))) o 1 ((g p1 4) - (g p1 6))) o 2 ((z_up (z_up g o 0 ((g p1 3) - (g p1 5))) o 1 ((g p1 4) - (g p1 6))) p1 5)) p1 6)) p1 2) - 2), (2, ((o : Nat) : Int))] N σ (z_up (z_up (z_up (z_up g o 0 ((g p1 3) - (g p1 5))) o 1 ((g p1 4) - (g p1 6))) o 2 ((z_up (z_up g o 0 ((g p1 3) - (g p1 5))) o 1 ((g p1 4) - (g p1 6))) p1 5)) o 3 ((z_up (z_up (z_up g o 0 ((g p1 3) - (g p1 5))) o 1 ((g p1 4) - (g p1 6))) o 2 ((z_up (z_up g o 0 ((g p1 3) - (g p1 5))) o 1 ((g p1 4) - (g p1 6))) p1 5)) p1 6)) Q
    refine z_puti (c := o) (kI := 4) d_Sp_standOn_118 fd_Sp_deep fl_Sp_27 pf_Sp_deep rfl rfl rfl rfl (ks_Sp_0 ho) (kl_Sp_0 ho) ?_
    exact z_vret d_Sp_standOn_121 rfl (by decide) (by decide) ⟨rfl, rfl, h⟩
  · have h := h.2 c6
    refine z_iconst (n := 1) d_Sp_standOn_38 (by decide) ?_
    refine z_goto (tgt := 43) d_Sp_standOn_39 (by decide) ?_
    refine z_istore (ls' := [(4, (0, 1)), (3, (0, (g p1 4) - (g p1 6))), (2, (0, (g p1 3) - (g p1 5))), (0, (2, ((o : Nat) : Int))), (1, (2, ((p1 : Nat) : Int)))]) d_Sp_standOn_43 rfl rfl ?_
    refine z_aload_n (i := 0) (c := o) 3 d_Sp_standOn_45 rfl rfl rfl ?_
    refine z_iload 0 d_Sp_standOn_46 rfl ?_
    refine z_if_eq (tgt := 58) d_Sp_standOn_48 (by decide) (fun c => absurd c (by decide)) (fun _ => ?_)
    refine z_aload_n (i := 1) (c := p1) 4 d_Sp_standOn_51 rfl rfl rfl ?_
    refine z_geti (c := p1) (kI := 5) d_Sp_standOn_52 fd_Ch_lastTop fl_Sp_35 (Or.inl rfl) rfl rfl (ks_Ch_0 hp1) (kl_Ch_0 hp1) ?_
    refine z_goto (tgt := 59) d_Sp_standOn_55 (by decide) ?_
    refine z_puti (c := o) (kI := 0) d_Sp_standOn_59 fd_Sp_lowTop fl_Sp_14 pf_Sp_lowTop rfl rfl rfl rfl (ks_Sp_0 ho) (kl_Sp_0 ho) ?_
    refine z_aload_n (i := 0) (c := o) 3 d_Sp_standOn_62 rfl rfl rfl ?_
    refine z_iload 0 d_Sp_standOn_63 rfl ?_
    refine z_if_eq (tgt := 75) d_Sp_standOn_65 (by decide) (fun c => absurd c (by decide)) (fun _ => ?_)
    refine z_aload_n (i := 1) (c := p1) 4 d_Sp_standOn_68 rfl rfl rfl ?_
    refine z_geti (c := p1) (kI := 6) d_Sp_standOn_69 fd_Ch_lastBottom fl_Sp_41 (Or.inl rfl) rfl rfl (ks_Ch_0 hp1) (kl_Ch_0 hp1) ?_
    refine z_goto (tgt := 76) d_Sp_standOn_72 (by decide) ?_
    refine z_puti (c := o) (kI := 1) d_Sp_standOn_76 fd_Sp_lowBottom fl_Sp_18 pf_Sp_lowBottom rfl rfl rfl rfl (ks_Sp_0 ho) (kl_Sp_0 ho) ?_
    refine z_aload_n (i := 0) (c := o) 3 d_Sp_standOn_79 rfl rfl rfl ?_
    refine z_iload 0 d_Sp_standOn_80 rfl ?_
    refine z_if_eq (tgt := 89) d_Sp_standOn_82 (by decide) (fun c => absurd c (by decide)) (fun _ => ?_)
    refine z_iload_n (i := 2) 2 d_Sp_standOn_85 rfl rfl ?_
    refine z_goto (tgt := 93) d_Sp_standOn_86 (by decide) ?_
    refine z_puti (c := o) (kI := 2) d_Sp_standOn_93 fd_Sp_highTop fl_Sp_21 pf_Sp_highTop rfl rfl rfl rfl (ks_Sp_0 ho) (kl_Sp_0 ho) ?_
    refine z_aload_n (i := 0) (c := o) 3 d_Sp_standOn_96 rfl rfl rfl ?_
    refine z_iload 0 d_Sp_standOn_97 rfl ?_
    refine z_if_eq (tgt := 106) d_Sp_standOn_99 (by decide) (fun c => absurd c (by decide)) (fun _ => ?_)
    refine z_iload_n (i := 3) 1 d_Sp_standOn_102 rfl rfl ?_
    refine z_goto (tgt := 110) d_Sp_standOn_103 (by decide) ?_
    refine z_puti (c := o) (kI := 3) d_Sp_standOn_110 fd_Sp_highBottom fl_Sp_24 pf_Sp_highBottom rfl rfl rfl rfl (ks_Sp_0 ho) (kl_Sp_0 ho) ?_
    refine z_aload_n (i := 0) (c := o) 3 d_Sp_standOn_113 rfl rfl rfl ?_
    refine z_aload_n (i := 1) (c := p1) 4 d_Sp_standOn_114 rfl rfl rfl ?_
    refine z_cV (c := p1) (as := []) (d' := 1) (st := [(2, ((o : Nat) : Int))]) d_Sp_standOn_115 mi_Ch_turns ml_Sp_48 mv_Ch_turns se_Ch_turns rfl rfl rfl rfl (ks_Ch_0 hp1) rfl rfl (kl_Ch_0 hp1) rfl rfl (b_Ch_turns_0 hp1 ?_)
    obtain ⟨c8, h⟩ := h
    refine ⟨c8, ?_⟩
    intro _
    show z_U X 2 m_Sp_standOn 118 [(4, (0, 1)), (3, (0, (g p1 4) - (g p1 6))), (2, (0, (g p1 3) - (g p1 5))), (0, (2, ((o : Nat) : Int))), (1, (2, ((p1 : Nat) : Int)))] [(0, ((z_up (z_up (z_up (z_up g o 0 (g p1 5)) o 1 ((z_up g o 0 (g p1 5)) p1 6)) o 2 ((g p1 3) - (g p1 5))) o 3 ((g p1 4) - (g p1 6))) p1 2) - 2), (2, ((o : Nat) : Int))] N σ (z_up (z_up (z_up (z_up g o 0 (g p1 5)) o 1 ((z_up g o 0 (g p1 5)) p1 6)) o 2 ((g p1 3) - (g p1 5))) o 3 ((g p1 4) - (g p1 6))) Q
    refine z_puti (c := o) (kI := 4) d_Sp_standOn_118 fd_Sp_deep fl_Sp_27 pf_Sp_deep rfl rfl rfl rfl (ks_Sp_0 ho) (kl_Sp_0 ho) ?_
    exact z_vret d_Sp_standOn_121 rfl (by decide) (by decide) ⟨rfl, rfl, h⟩

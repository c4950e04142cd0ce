theorem d_M_behindEnds_0 : decode (z_c m_M_behindEnds) 0 = .ok (.iload_n 1, 1) := by decide +kernel
theorem d_M_behindEnds_1 : decode (z_c m_M_behindEnds) 1 = .ok (.istore_n 2, 1) := by decide +kernel
theorem d_M_behindEnds_2 : decode (z_c m_M_behindEnds) 2 = .ok (.iload_n 2, 1) := by decide +kernel
theorem d_M_behindEnds_3 : decode (z_c m_M_behindEnds) 3 = .ok (.aload_n 0, 1) := by decide +kernel
theorem d_M_behindEnds_4 : decode (z_c m_M_behindEnds) 4 = .ok (.getfield 7, 3) := by decide +kernel
theorem d_M_behindEnds_7 : decode (z_c m_M_behindEnds) 7 = .ok (.bipush 6, 2) := by decide +kernel
theorem d_M_behindEnds_9 : decode (z_c m_M_behindEnds) 9 = .ok (.iaload, 1) := by decide +kernel
theorem d_M_behindEnds_10 : decode (z_c m_M_behindEnds) 10 = .ok (.if_icmp .ge 108, 3) := by decide +kernel
theorem d_M_behindEnds_13 : decode (z_c m_M_behindEnds) 13 = .ok (.aload_n 0, 1) := by decide +kernel
theorem d_M_behindEnds_14 : decode (z_c m_M_behindEnds) 14 = .ok (.getfield 7, 3) := by decide +kernel
theorem d_M_behindEnds_17 : decode (z_c m_M_behindEnds) 17 = .ok (.sipush 246, 3) := by decide +kernel
theorem d_M_behindEnds_20 : decode (z_c m_M_behindEnds) 20 = .ok (.bipush 6, 2) := by decide +kernel
theorem d_M_behindEnds_22 : decode (z_c m_M_behindEnds) 22 = .ok (.iload_n 2, 1) := by decide +kernel
theorem d_M_behindEnds_23 : decode (z_c m_M_behindEnds) 23 = .ok (.imul, 1) := by decide +kernel
theorem d_M_behindEnds_24 : decode (z_c m_M_behindEnds) 24 = .ok (.iadd, 1) := by decide +kernel
theorem d_M_behindEnds_25 : decode (z_c m_M_behindEnds) 25 = .ok (.iaload, 1) := by decide +kernel
theorem d_M_behindEnds_26 : decode (z_c m_M_behindEnds) 26 = .ok (.bipush 14, 2) := by decide +kernel
theorem d_M_behindEnds_28 : decode (z_c m_M_behindEnds) 28 = .ok (.if_icmp .ne 90, 3) := by decide +kernel
theorem d_M_behindEnds_31 : decode (z_c m_M_behindEnds) 31 = .ok (.aload_n 0, 1) := by decide +kernel
theorem d_M_behindEnds_32 : decode (z_c m_M_behindEnds) 32 = .ok (.getfield 7, 3) := by decide +kernel
theorem d_M_behindEnds_35 : decode (z_c m_M_behindEnds) 35 = .ok (.sipush 246, 3) := by decide +kernel
theorem d_M_behindEnds_38 : decode (z_c m_M_behindEnds) 38 = .ok (.bipush 6, 2) := by decide +kernel
theorem d_M_behindEnds_40 : decode (z_c m_M_behindEnds) 40 = .ok (.iload_n 2, 1) := by decide +kernel
theorem d_M_behindEnds_41 : decode (z_c m_M_behindEnds) 41 = .ok (.imul, 1) := by decide +kernel
theorem d_M_behindEnds_42 : decode (z_c m_M_behindEnds) 42 = .ok (.iadd, 1) := by decide +kernel
theorem d_M_behindEnds_43 : decode (z_c m_M_behindEnds) 43 = .ok (.iconst 4, 1) := by decide +kernel
theorem d_M_behindEnds_44 : decode (z_c m_M_behindEnds) 44 = .ok (.iadd, 1) := by decide +kernel
theorem d_M_behindEnds_45 : decode (z_c m_M_behindEnds) 45 = .ok (.iaload, 1) := by decide +kernel
theorem d_M_behindEnds_46 : decode (z_c m_M_behindEnds) 46 = .ok (.istore_n 3, 1) := by decide +kernel
theorem d_M_behindEnds_47 : decode (z_c m_M_behindEnds) 47 = .ok (.aload_n 0, 1) := by decide +kernel
theorem d_M_behindEnds_48 : decode (z_c m_M_behindEnds) 48 = .ok (.getfield 7, 3) := by decide +kernel
theorem d_M_behindEnds_51 : decode (z_c m_M_behindEnds) 51 = .ok (.sipush 246, 3) := by decide +kernel
theorem d_M_behindEnds_54 : decode (z_c m_M_behindEnds) 54 = .ok (.bipush 6, 2) := by decide +kernel
theorem d_M_behindEnds_56 : decode (z_c m_M_behindEnds) 56 = .ok (.iload_n 3, 1) := by decide +kernel
theorem d_M_behindEnds_57 : decode (z_c m_M_behindEnds) 57 = .ok (.imul, 1) := by decide +kernel
theorem d_M_behindEnds_58 : decode (z_c m_M_behindEnds) 58 = .ok (.iadd, 1) := by decide +kernel
theorem d_M_behindEnds_59 : decode (z_c m_M_behindEnds) 59 = .ok (.iaload, 1) := by decide +kernel
theorem d_M_behindEnds_60 : decode (z_c m_M_behindEnds) 60 = .ok (.bipush 13, 2) := by decide +kernel
theorem d_M_behindEnds_62 : decode (z_c m_M_behindEnds) 62 = .ok (.if_icmp .ne 16, 3) := by decide +kernel
theorem d_M_behindEnds_65 : decode (z_c m_M_behindEnds) 65 = .ok (.aload_n 0, 1) := by decide +kernel
theorem d_M_behindEnds_66 : decode (z_c m_M_behindEnds) 66 = .ok (.getfield 65, 3) := by decide +kernel
theorem d_M_behindEnds_69 : decode (z_c m_M_behindEnds) 69 = .ok (.iload_n 3, 1) := by decide +kernel
theorem d_M_behindEnds_70 : decode (z_c m_M_behindEnds) 70 = .ok (.iaload, 1) := by decide +kernel
theorem d_M_behindEnds_71 : decode (z_c m_M_behindEnds) 71 = .ok (.ifCond .le 7, 3) := by decide +kernel
theorem d_M_behindEnds_74 : decode (z_c m_M_behindEnds) 74 = .ok (.iconst 1, 1) := by decide +kernel
theorem d_M_behindEnds_75 : decode (z_c m_M_behindEnds) 75 = .ok (.goto 4, 3) := by decide +kernel
theorem d_M_behindEnds_78 : decode (z_c m_M_behindEnds) 78 = .ok (.iconst 0, 1) := by decide +kernel
theorem d_M_behindEnds_79 : decode (z_c m_M_behindEnds) 79 = .ok (.istore 4, 2) := by decide +kernel
theorem d_M_behindEnds_81 : decode (z_c m_M_behindEnds) 81 = .ok (.aload_n 0, 1) := by decide +kernel
theorem d_M_behindEnds_82 : decode (z_c m_M_behindEnds) 82 = .ok (.getfield 65, 3) := by decide +kernel
theorem d_M_behindEnds_85 : decode (z_c m_M_behindEnds) 85 = .ok (.iload_n 3, 1) := by decide +kernel
theorem d_M_behindEnds_86 : decode (z_c m_M_behindEnds) 86 = .ok (.dup2, 1) := by decide +kernel
theorem d_M_behindEnds_87 : decode (z_c m_M_behindEnds) 87 = .ok (.iaload, 1) := by decide +kernel
theorem d_M_behindEnds_88 : decode (z_c m_M_behindEnds) 88 = .ok (.iload 4, 2) := by decide +kernel
theorem d_M_behindEnds_90 : decode (z_c m_M_behindEnds) 90 = .ok (.ifCond .eq 7, 3) := by decide +kernel
theorem d_M_behindEnds_93 : decode (z_c m_M_behindEnds) 93 = .ok (.iconst 1, 1) := by decide +kernel
theorem d_M_behindEnds_94 : decode (z_c m_M_behindEnds) 94 = .ok (.goto 4, 3) := by decide +kernel
theorem d_M_behindEnds_97 : decode (z_c m_M_behindEnds) 97 = .ok (.iconst 0, 1) := by decide +kernel
theorem d_M_behindEnds_98 : decode (z_c m_M_behindEnds) 98 = .ok (.isub, 1) := by decide +kernel
theorem d_M_behindEnds_99 : decode (z_c m_M_behindEnds) 99 = .ok (.iastore, 1) := by decide +kernel
theorem d_M_behindEnds_100 : decode (z_c m_M_behindEnds) 100 = .ok (.iload 4, 2) := by decide +kernel
theorem d_M_behindEnds_102 : decode (z_c m_M_behindEnds) 102 = .ok (.ifCond .eq 9, 3) := by decide +kernel
theorem d_M_behindEnds_105 : decode (z_c m_M_behindEnds) 105 = .ok (.iload_n 3, 1) := by decide +kernel
theorem d_M_behindEnds_106 : decode (z_c m_M_behindEnds) 106 = .ok (.iconst 1, 1) := by decide +kernel
theorem d_M_behindEnds_107 : decode (z_c m_M_behindEnds) 107 = .ok (.iadd, 1) := by decide +kernel
theorem d_M_behindEnds_108 : decode (z_c m_M_behindEnds) 108 = .ok (.goto 6, 3) := by decide +kernel
theorem d_M_behindEnds_111 : decode (z_c m_M_behindEnds) 111 = .ok (.iload_n 2, 1) := by decide +kernel
theorem d_M_behindEnds_112 : decode (z_c m_M_behindEnds) 112 = .ok (.iconst 1, 1) := by decide +kernel
theorem d_M_behindEnds_113 : decode (z_c m_M_behindEnds) 113 = .ok (.iadd, 1) := by decide +kernel
theorem d_M_behindEnds_114 : decode (z_c m_M_behindEnds) 114 = .ok (.istore_n 2, 1) := by decide +kernel
theorem d_M_behindEnds_115 : decode (z_c m_M_behindEnds) 115 = .ok (.goto (-113), 3) := by decide +kernel
theorem d_M_behindEnds_118 : decode (z_c m_M_behindEnds) 118 = .ok (.iload_n 2, 1) := by decide +kernel
theorem d_M_behindEnds_119 : decode (z_c m_M_behindEnds) 119 = .ok (.ireturn, 1) := by decide +kernel
abbrev L_M_behindEnds_2 (X : z_X) (N : Nat) (σ : z_G) (x2 : Int) (g : z_G) (Q : z_P) : Prop := z_U X 1 m_M_behindEnds 2 [(0, (2, 0)), (2, (0, x2))] [] N σ g Q
set_option maxRecDepth 8000 in
theorem b_M_behindEnds_0 {X : z_X} {N : Nat} {σ g : z_G} {Q : z_P} {a1 : Int} (hx : z_lay X N σ 0 z_SM z_RM) (h : L_M_behindEnds_2 X N σ a1 g Q) : z_O X 1 m_M_behindEnds [(2, 0), (0, a1)] N σ g Q := by
  refine z_Oenter mi_M_behindEnds rfl (fun _ => ?_)
  show z_U X 1 m_M_behindEnds 0 [(0, (2, 0)), (1, (0, a1))] [] N σ g Q
  refine z_iload_n (i := 1) 1 d_M_behindEnds_0 rfl rfl ?_
  refine z_istore_n (i := 2) (ls' := [(2, (0, a1)), (0, (2, 0)), (1, (0, a1))]) d_M_behindEnds_1 rfl rfl rfl ?_
  refine z_sub (ls' := [(0, (2, 0)), (2, (0, a1))]) [1, 0] rfl ?_
  exact h
set_option maxRecDepth 8000 in
theorem b_M_behindEnds_2 {X : z_X} {N : Nat} {σ g : z_G} {Q : z_P} {x2 : Int} (hx : z_lay X N σ 0 z_SM z_RM) (h : (((g 1 6) ≤ x2) → Q x2 g) ∧ (¬ ((g 1 6) ≤ x2) → ((-2147483648 ≤ (6 * x2) ∧ (6 * x2) ≤ 2147483647) ∧ ((-2147483648 ≤ (246 + (6 * x2)) ∧ (246 + (6 * x2)) ≤ 2147483647) ∧ ((0 ≤ (246 + (6 * x2)) ∧ (246 + (6 * x2)) < 3296) ∧ ((((g 1 (246 + (6 * x2))) = 14) → ((-2147483648 ≤ ((246 + (6 * x2)) + 4) ∧ ((246 + (6 * x2)) + 4) ≤ 2147483647) ∧ ((0 ≤ ((246 + (6 * x2)) + 4) ∧ ((246 + (6 * x2)) + 4) < 3296) ∧ ((-2147483648 ≤ (6 * (g 1 ((246 + (6 * x2)) + 4))) ∧ (6 * (g 1 ((246 + (6 * x2)) + 4))) ≤ 2147483647) ∧ ((-2147483648 ≤ (246 + (6 * (g 1 ((246 + (6 * x2)) + 4)))) ∧ (246 + (6 * (g 1 ((246 + (6 * x2)) + 4)))) ≤ 2147483647) ∧ ((0 ≤ (246 + (6 * (g 1 ((246 + (6 * x2)) + 4)))) ∧ (246 + (6 * (g 1 ((246 + (6 * x2)) + 4)))) < 3296) ∧ ((((g 1 (246 + (6 * (g 1 ((246 + (6 * x2)) + 4))))) = 13) → ((0 ≤ (g 1 ((246 + (6 * x2)) + 4)) ∧ (g 1 ((246 + (6 * x2)) + 4)) < 60) ∧ ((((g 15 (g 1 ((246 + (6 * x2)) + 4))) ≤ 0) → ((-2147483648 ≤ ((g 15 (g 1 ((246 + (6 * x2)) + 4))) - 0) ∧ ((g 15 (g 1 ((246 + (6 * x2)) + 4))) - 0) ≤ 2147483647) ∧ ((-2147483648 ≤ (x2 + 1) ∧ (x2 + 1) ≤ 2147483647) ∧ L_M_behindEnds_2 X N σ (x2 + 1) (z_up g 15 (g 1 ((246 + (6 * x2)) + 4)) ((g 15 (g 1 ((246 + (6 * x2)) + 4))) - 0)) Q))) ∧ (¬ ((g 15 (g 1 ((246 + (6 * x2)) + 4))) ≤ 0) → ((-2147483648 ≤ ((g 15 (g 1 ((246 + (6 * x2)) + 4))) - 1) ∧ ((g 15 (g 1 ((246 + (6 * x2)) + 4))) - 1) ≤ 2147483647) ∧ ((-2147483648 ≤ ((g 1 ((246 + (6 * x2)) + 4)) + 1) ∧ ((g 1 ((246 + (6 * x2)) + 4)) + 1) ≤ 2147483647) ∧ L_M_behindEnds_2 X N σ ((g 1 ((246 + (6 * x2)) + 4)) + 1) (z_up g 15 (g 1 ((246 + (6 * x2)) + 4)) ((g 15 (g 1 ((246 + (6 * x2)) + 4))) - 1)) Q)))))) ∧ (¬ ((g 1 (246 + (6 * (g 1 ((246 + (6 * x2)) + 4))))) = 13) → ((0 ≤ (g 1 ((246 + (6 * x2)) + 4)) ∧ (g 1 ((246 + (6 * x2)) + 4)) < 60) ∧ ((-2147483648 ≤ ((g 15 (g 1 ((246 + (6 * x2)) + 4))) - 0) ∧ ((g 15 (g 1 ((246 + (6 * x2)) + 4))) - 0) ≤ 2147483647) ∧ ((-2147483648 ≤ (x2 + 1) ∧ (x2 + 1) ≤ 2147483647) ∧ L_M_behindEnds_2 X N σ (x2 + 1) (z_up g 15 (g 1 ((246 + (6 * x2)) + 4)) ((g 15 (g 1 ((246 + (6 * x2)) + 4))) - 0)) Q))))))))))) ∧ (¬ ((g 1 (246 + (6 * x2))) = 14) → Q x2 g))))))) : L_M_behindEnds_2 X N σ x2 g Q := by
  refine z_iload_n (i := 2) 1 d_M_behindEnds_2 rfl rfl ?_
  refine z_aload_n (i := 0) (c := 0) 0 d_M_behindEnds_3 rfl rfl rfl ?_
  refine z_getr (c := 0) (kI := 0) (r2 := 1) d_M_behindEnds_4 fd_M_at fl_M_7 rfl rfl rfl (ks_M_0 hx) (kl_M_0 hx) (kr_M_0_0 hx) ?_
  refine z_bipush (n := 6) d_M_behindEnds_7 (by decide) (by decide) ?_
  refine z_iald (c := 1) (m := 3296) d_M_behindEnds_9 rfl (ks_M_1 hx) (kl_M_1 hx) rfl (by decide) (by decide) ?_
  refine z_icmp_ge (tgt := 118) d_M_behindEnds_10 (by decide) (fun c1 => ?_) (fun c1 => ?_)
  · have h := h.1 c1
    refine z_iload_n (i := 2) 1 d_M_behindEnds_118 rfl rfl ?_
    exact z_iret d_M_behindEnds_119 rfl (by decide) (by decide) ⟨rfl, rfl, h⟩
  · have h := h.2 c1
    refine z_aload_n (i := 0) (c := 0) 0 d_M_behindEnds_13 rfl rfl rfl ?_
    refine z_getr (c := 0) (kI := 0) (r2 := 1) d_M_behindEnds_14 fd_M_at fl_M_7 rfl rfl rfl (ks_M_0 hx) (kl_M_0 hx) (kr_M_0_0 hx) ?_
    refine z_sipush (n := 246) d_M_behindEnds_17 (by decide) (by decide) ?_
    refine z_bipush (n := 6) d_M_behindEnds_20 (by decide) (by decide) ?_
    refine z_iload_n (i := 2) 1 d_M_behindEnds_22 rfl rfl ?_
    obtain ⟨c2, h⟩ := h
    refine z_imul d_M_behindEnds_23 c2 ?_
    obtain ⟨c3, h⟩ := h
    refine z_iadd d_M_behindEnds_24 c3 ?_
    obtain ⟨c4, h⟩ := h
    refine z_iald (c := 1) (m := 3296) d_M_behindEnds_25 rfl (ks_M_1 hx) (kl_M_1 hx) rfl (by decide) c4 ?_
    refine z_bipush (n := 14) d_M_behindEnds_26 (by decide) (by decide) ?_
    refine z_icmp_ne (tgt := 118) d_M_behindEnds_28 (by decide) (fun c5 => ?_) (fun c5 => ?_)
    · have h := h.2 c5
      refine z_iload_n (i := 2) 1 d_M_behindEnds_118 rfl rfl ?_
      exact z_iret d_M_behindEnds_119 rfl (by decide) (by decide) ⟨rfl, rfl, h⟩
    · have h := h.1 c5
      refine z_aload_n (i := 0) (c := 0) 0 d_M_behindEnds_31 rfl rfl rfl ?_
      refine z_getr (c := 0) (kI := 0) (r2 := 1) d_M_behindEnds_32 fd_M_at fl_M_7 rfl rfl rfl (ks_M_0 hx) (kl_M_0 hx) (kr_M_0_0 hx) ?_
      refine z_sipush (n := 246) d_M_behindEnds_35 (by decide) (by decide) ?_
      refine z_bipush (n := 6) d_M_behindEnds_38 (by decide) (by decide) ?_
      refine z_iload_n (i := 2) 1 d_M_behindEnds_40 rfl rfl ?_
      refine z_imul d_M_behindEnds_41 c2 ?_
      refine z_iadd d_M_behindEnds_42 c3 ?_
      refine z_iconst (n := 4) d_M_behindEnds_43 (by decide) ?_
      obtain ⟨c6, h⟩ := h
      refine z_iadd d_M_behindEnds_44 c6 ?_
      obtain ⟨c7, h⟩ := h
      refine z_iald (c := 1) (m := 3296) d_M_behindEnds_45 rfl (ks_M_1 hx) (kl_M_1 hx) rfl (by decide) c7 ?_
      refine z_istore_n (i := 3) (ls' := [(3, (0, g 1 ((246 + (6 * x2)) + 4))), (0, (2, 0)), (2, (0, x2))]) d_M_behindEnds_46 rfl rfl rfl ?_
      refine z_aload_n (i := 0) (c := 0) 1 d_M_behindEnds_47 rfl rfl rfl ?_
      refine z_getr (c := 0) (kI := 0) (r2 := 1) d_M_behindEnds_48 fd_M_at fl_M_7 rfl rfl rfl (ks_M_0 hx) (kl_M_0 hx) (kr_M_0_0 hx) ?_
      refine z_sipush (n := 246) d_M_behindEnds_51 (by decide) (by decide) ?_
      refine z_bipush (n := 6) d_M_behindEnds_54 (by decide) (by decide) ?_
      refine z_iload_n (i := 3) 0 d_M_behindEnds_56 rfl rfl ?_
      obtain ⟨c8, h⟩ := h
      refine z_imul d_M_behindEnds_57 c8 ?_
      obtain ⟨c9, h⟩ := h
      refine z_iadd d_M_behindEnds_58 c9 ?_
      obtain ⟨c10, h⟩ := h
      refine z_iald (c := 1) (m := 3296) d_M_behindEnds_59 rfl (ks_M_1 hx) (kl_M_1 hx) rfl (by decide) c10 ?_
      refine z_bipush (n := 13) d_M_behindEnds_60 (by decide) (by decide) ?_
      refine z_icmp_ne (tgt := 78) d_M_behindEnds_62 (by decide) (fun c11 => ?_) (fun c11 => ?_)
      · have h := h.2 c11
        refine z_iconst (n := 0) d_M_behindEnds_78 (by decide) ?_
        refine z_istore (ls' := [(4, (0, 0)), (3, (0, g 1 ((246 + (6 * x2)) + 4))), (0, (2, 0)), (2, (0, x2))]) d_M_behindEnds_79 rfl rfl ?_
        refine z_aload_n (i := 0) (c := 0) 2 d_M_behindEnds_81 rfl rfl rfl ?_
        refine z_getr (c := 0) (kI := 37) (r2 := 15) d_M_behindEnds_82 fd_M_loops fl_M_65 rfl rfl rfl (ks_M_0 hx) (kl_M_0 hx) (kr_M_0_37 hx) ?_
        refine z_iload_n (i := 3) 1 d_M_behindEnds_85 rfl rfl ?_
        refine z_dup2 d_M_behindEnds_86 rfl rfl ?_
        obtain ⟨c12, h⟩ := h
        refine z_iald (c := 15) (m := 60) d_M_behindEnds_87 rfl (ks_M_15 hx) (kl_M_15 hx) rfl (by decide) c12 ?_
        refine z_iload 0 d_M_behindEnds_88 rfl ?_
        refine z_if_eq (tgt := 97) d_M_behindEnds_90 (by decide) (fun _ => ?_) (fun c => absurd (by decide) c)
        refine z_iconst (n := 0) d_M_behindEnds_97 (by decide) ?_
        obtain ⟨c13, h⟩ := h
        refine z_isub d_M_behindEnds_98 c13 ?_
        refine z_iast (c := 15) (m := 60) d_M_behindEnds_99 rfl (ks_M_15 hx) (kl_M_15 hx) rfl (by decide) c12 ?_
        refine z_iload 0 d_M_behindEnds_100 rfl ?_
        refine z_if_eq (tgt := 111) d_M_behindEnds_102 (by decide) (fun _ => ?_) (fun c => absurd (by decide) c)
        refine z_iload_n (i := 2) 3 d_M_behindEnds_111 rfl rfl ?_
        refine z_iconst (n := 1) d_M_behindEnds_112 (by decide) ?_
        obtain ⟨c14, h⟩ := h
        refine z_iadd d_M_behindEnds_113 c14 ?_
        refine z_istore_n (i := 2) (ls' := [(2, (0, x2 + 1)), (4, (0, 0)), (3, (0, g 1 ((246 + (6 * x2)) + 4))), (0, (2, 0))]) d_M_behindEnds_114 rfl rfl rfl ?_
        refine z_goto (tgt := 2) d_M_behindEnds_115 (by decide) ?_
        refine z_sub (ls' := [(0, (2, 0)), (2, (0, x2 + 1))]) [3, 0] rfl ?_
        exact h
      · have h := h.1 c11
        refine z_aload_n (i := 0) (c := 0) 1 d_M_behindEnds_65 rfl rfl rfl ?_
        refine z_getr (c := 0) (kI := 37) (r2 := 15) d_M_behindEnds_66 fd_M_loops fl_M_65 rfl rfl rfl (ks_M_0 hx) (kl_M_0 hx) (kr_M_0_37 hx) ?_
        refine z_iload_n (i := 3) 0 d_M_behindEnds_69 rfl rfl ?_
        obtain ⟨c15, h⟩ := h
        refine z_iald (c := 15) (m := 60) d_M_behindEnds_70 rfl (ks_M_15 hx) (kl_M_15 hx) rfl (by decide) c15 ?_
        refine z_if_le (tgt := 78) d_M_behindEnds_71 (by decide) (fun c16 => ?_) (fun c16 => ?_)
        · have h := h.1 c16
          refine z_iconst (n := 0) d_M_behindEnds_78 (by decide) ?_
          refine z_istore (ls' := [(4, (0, 0)), (3, (0, g 1 ((246 + (6 * x2)) + 4))), (0, (2, 0)), (2, (0, x2))]) d_M_behindEnds_79 rfl rfl ?_
          refine z_aload_n (i := 0) (c := 0) 2 d_M_behindEnds_81 rfl rfl rfl ?_
          refine z_getr (c := 0) (kI := 37) (r2 := 15) d_M_behindEnds_82 fd_M_loops fl_M_65 rfl rfl rfl (ks_M_0 hx) (kl_M_0 hx) (kr_M_0_37 hx) ?_
          refine z_iload_n (i := 3) 1 d_M_behindEnds_85 rfl rfl ?_
          refine z_dup2 d_M_behindEnds_86 rfl rfl ?_
          refine z_iald (c := 15) (m := 60) d_M_behindEnds_87 rfl (ks_M_15 hx) (kl_M_15 hx) rfl (by decide) c15 ?_
          refine z_iload 0 d_M_behindEnds_88 rfl ?_
          refine z_if_eq (tgt := 97) d_M_behindEnds_90 (by decide) (fun _ => ?_) (fun c => absurd (by decide) c)
          refine z_iconst (n := 0) d_M_behindEnds_97 (by decide) ?_
          obtain ⟨c17, h⟩ := h
          refine z_isub d_M_behindEnds_98 c17 ?_
          refine z_iast (c := 15) (m := 60) d_M_behindEnds_99 rfl (ks_M_15 hx) (kl_M_15 hx) rfl (by decide) c15 ?_
          refine z_iload 0 d_M_behindEnds_100 rfl ?_
          refine z_if_eq (tgt := 111) d_M_behindEnds_102 (by decide) (fun _ => ?_) (fun c => absurd (by decide) c)
          refine z_iload_n (i := 2) 3 d_M_behindEnds_111 rfl rfl ?_
          refine z_iconst (n := 1) d_M_behindEnds_112 (by decide) ?_
          obtain ⟨c18, h⟩ := h
          refine z_iadd d_M_behindEnds_113 c18 ?_
          refine z_istore_n (i := 2) (ls' := [(2, (0, x2 + 1)), (4, (0, 0)), (3, (0, g 1 ((246 + (6 * x2)) + 4))), (0, (2, 0))]) d_M_behindEnds_114 rfl rfl rfl ?_
          refine z_goto (tgt := 2) d_M_behindEnds_115 (by decide) ?_
          refine z_sub (ls' := [(0, (2, 0)), (2, (0, x2 + 1))]) [3, 0] rfl ?_
          exact h
        · have h := h.2 c16
          refine z_iconst (n := 1) d_M_behindEnds_74 (by decide) ?_
          refine z_goto (tgt := 79) d_M_behindEnds_75 (by decide) ?_
          refine z_istore (ls' := [(4, (0, 1)), (3, (0, g 1 ((246 + (6 * x2)) + 4))), (0, (2, 0)), (2, (0, x2))]) d_M_behindEnds_79 rfl rfl ?_
          refine z_aload_n (i := 0) (c := 0) 2 d_M_behindEnds_81 rfl rfl rfl ?_
          refine z_getr (c := 0) (kI := 37) (r2 := 15) d_M_behindEnds_82 fd_M_loops fl_M_65 rfl rfl rfl (ks_M_0 hx) (kl_M_0 hx) (kr_M_0_37 hx) ?_
          refine z_iload_n (i := 3) 1 d_M_behindEnds_85 rfl rfl ?_
          refine z_dup2 d_M_behindEnds_86 rfl rfl ?_
          refine z_iald (c := 15) (m := 60) d_M_behindEnds_87 rfl (ks_M_15 hx) (kl_M_15 hx) rfl (by decide) c15 ?_
          refine z_iload 0 d_M_behindEnds_88 rfl ?_
          refine z_if_eq (tgt := 97) d_M_behindEnds_90 (by decide) (fun c => absurd c (by decide)) (fun _ => ?_)
          refine z_iconst (n := 1) d_M_behindEnds_93 (by decide) ?_
          refine z_goto (tgt := 98) d_M_behindEnds_94 (by decide) ?_
          obtain ⟨c19, h⟩ := h
          refine z_isub d_M_behindEnds_98 c19 ?_
          refine z_iast (c := 15) (m := 60) d_M_behindEnds_99 rfl (ks_M_15 hx) (kl_M_15 hx) rfl (by decide) c15 ?_
          refine z_iload 0 d_M_behindEnds_100 rfl ?_
          refine z_if_eq (tgt := 111) d_M_behindEnds_102 (by decide) (fun c => absurd c (by decide)) (fun _ => ?_)
          refine z_iload_n (i := 3) 1 d_M_behindEnds_105 rfl rfl ?_
          refine z_iconst (n := 1) d_M_behindEnds_106 (by decide) ?_
          obtain ⟨c20, h⟩ := h
          refine z_iadd d_M_behindEnds_107 c20 ?_
          refine z_goto (tgt := 114) d_M_behindEnds_108 (by decide) ?_
          refine z_istore_n (i := 2) (ls' := [(2, (0, (g 1 ((246 + (6 * x2)) + 4)) + 1)), (4, (0, 1)), (3, (0, g 1 ((246 + (6 * x2)) + 4))), (0, (2, 0))]) d_M_behindEnds_114 rfl rfl rfl ?_
          refine z_goto (tgt := 2) d_M_behindEnds_115 (by decide) ?_
          refine z_sub (ls' := [(0, (2, 0)), (2, (0, (g 1 ((246 + (6 * x2)) + 4)) + 1))]) [3, 0] rfl ?_
          exact h
theorem d_M_bottom_0 : decode (z_c m_M_bottom) 0 = .ok (.aload_n 0, 1) := by decide +kernel
theorem d_M_bottom_1 : decode (z_c m_M_bottom) 1 = .ok (.getfield 13, 3) := by decide +kernel
theorem d_M_bottom_4 : decode (z_c m_M_bottom) 4 = .ok (.lreturn, 1) := by decide +kernel
set_option maxRecDepth 8000 in
theorem b_M_bottom_0 {X : z_X} {N : Nat} {σ g : z_G} {Q : z_P} (hx : z_lay X N σ 0 z_SM z_RM) (h : Q (g 0 3) g) : z_O X 1 m_M_bottom [(2, 0)] N σ g Q := by
  refine z_Oenter mi_M_bottom rfl (fun _ => ?_)
  show z_U X 1 m_M_bottom 0 [(0, (2, 0))] [] N σ g Q
  refine z_aload_n (i := 0) (c := 0) 0 d_M_bottom_0 rfl rfl rfl ?_
  refine z_getl (c := 0) (kI := 3) d_M_bottom_1 fd_M_bottom fl_M_13 rfl rfl rfl (ks_M_0 hx) (kl_M_0 hx) ?_
  exact z_lret d_M_bottom_4 rfl (by decide) (by decide) ⟨rfl, rfl, h⟩
theorem d_M_byteAt_0 : decode (z_c m_M_byteAt) 0 = .ok (.iload_n 1, 1) := by decide +kernel
theorem d_M_byteAt_1 : decode (z_c m_M_byteAt) 1 = .ok (.aload_n 0, 1) := by decide +kernel
theorem d_M_byteAt_2 : decode (z_c m_M_byteAt) 2 = .ok (.getfield 117, 3) := by decide +kernel
theorem d_M_byteAt_5 : decode (z_c m_M_byteAt) 5 = .ok (.if_icmp .ge 16, 3) := by decide +kernel
theorem d_M_byteAt_8 : decode (z_c m_M_byteAt) 8 = .ok (.aload_n 0, 1) := by decide +kernel
theorem d_M_byteAt_9 : decode (z_c m_M_byteAt) 9 = .ok (.getfield 31, 3) := by decide +kernel
theorem d_M_byteAt_12 : decode (z_c m_M_byteAt) 12 = .ok (.iload_n 1, 1) := by decide +kernel
theorem d_M_byteAt_13 : decode (z_c m_M_byteAt) 13 = .ok (.baload, 1) := by decide +kernel
theorem d_M_byteAt_14 : decode (z_c m_M_byteAt) 14 = .ok (.sipush 255, 3) := by decide +kernel
theorem d_M_byteAt_17 : decode (z_c m_M_byteAt) 17 = .ok (.iand, 1) := by decide +kernel
theorem d_M_byteAt_18 : decode (z_c m_M_byteAt) 18 = .ok (.goto 4, 3) := by decide +kernel
theorem d_M_byteAt_21 : decode (z_c m_M_byteAt) 21 = .ok (.iconst (-1), 1) := by decide +kernel
theorem d_M_byteAt_22 : decode (z_c m_M_byteAt) 22 = .ok (.ireturn, 1) := by decide +kernel
set_option maxRecDepth 8000 in
theorem b_M_byteAt_0 {X : z_X} {N : Nat} {σ g : z_G} {Q : z_P} {a1 : Int} (hx : z_lay X N σ 0 z_SM z_RM) (h : (((g 0 10) ≤ a1) → Q (-1) g) ∧ (¬ ((g 0 10) ≤ a1) → ((0 ≤ a1 ∧ a1 < 900) ∧ Q (Int32.toInt (Int32.ofInt (g 6 a1) &&& Int32.ofInt 255)) g))) : z_O X 1 m_M_byteAt [(2, 0), (0, a1)] N σ g Q := by
  refine z_Oenter mi_M_byteAt rfl (fun _ => ?_)
  show z_U X 1 m_M_byteAt 0 [(0, (2, 0)), (1, (0, a1))] [] N σ g Q
  refine z_iload_n (i := 1) 1 d_M_byteAt_0 rfl rfl ?_
  refine z_aload_n (i := 0) (c := 0) 0 d_M_byteAt_1 rfl rfl rfl ?_
  refine z_geti (c := 0) (kI := 10) d_M_byteAt_2 fd_M_size fl_M_117 (Or.inl rfl) rfl rfl (ks_M_0 hx) (kl_M_0 hx) ?_
  refine z_icmp_ge (tgt := 21) d_M_byteAt_5 (by decide) (fun c1 => ?_) (fun c1 => ?_)
  · have h := h.1 c1
    refine z_iconst (n := (-1)) d_M_byteAt_21 (by decide) ?_
    exact z_iret d_M_byteAt_22 rfl (by decide) (by decide) ⟨rfl, rfl, h⟩
  · have h := h.2 c1
    refine z_aload_n (i := 0) (c := 0) 0 d_M_byteAt_8 rfl rfl rfl ?_
    refine z_getr (c := 0) (kI := 8) (r2 := 6) d_M_byteAt_9 fd_M_text fl_M_31 rfl rfl rfl (ks_M_0 hx) (kl_M_0 hx) (kr_M_0_8 hx) ?_
    refine z_iload_n (i := 1) 1 d_M_byteAt_12 rfl rfl ?_
    obtain ⟨c2, h⟩ := h
    refine z_bald (c := 6) (m := 900) d_M_byteAt_13 rfl (ks_M_6 hx) (kl_M_6 hx) rfl (by decide) c2 ?_
    refine z_sipush (n := 255) d_M_byteAt_14 (by decide) (by decide) ?_
    refine z_iand d_M_byteAt_17 ?_
    refine z_goto (tgt := 22) d_M_byteAt_18 (by decide) ?_
    exact z_iret d_M_byteAt_22 rfl (by decide) (by decide) ⟨rfl, rfl, h⟩
theorem d_M_common_0 : decode (z_c m_M_common) 0 = .ok (.iload_n 0, 1) := by decide +kernel
theorem d_M_common_1 : decode (z_c m_M_common) 1 = .ok (.istore_n 2, 1) := by decide +kernel
theorem d_M_common_2 : decode (z_c m_M_common) 2 = .ok (.iload_n 1, 1) := by decide +kernel
theorem d_M_common_3 : decode (z_c m_M_common) 3 = .ok (.istore_n 3, 1) := by decide +kernel
theorem d_M_common_4 : decode (z_c m_M_common) 4 = .ok (.iload_n 3, 1) := by decide +kernel
theorem d_M_common_5 : decode (z_c m_M_common) 5 = .ok (.ifCond .eq 16, 3) := by decide +kernel
theorem d_M_common_8 : decode (z_c m_M_common) 8 = .ok (.iload_n 2, 1) := by decide +kernel
theorem d_M_common_9 : decode (z_c m_M_common) 9 = .ok (.iload_n 3, 1) := by decide +kernel
theorem d_M_common_10 : decode (z_c m_M_common) 10 = .ok (.irem, 1) := by decide +kernel
theorem d_M_common_11 : decode (z_c m_M_common) 11 = .ok (.istore 4, 2) := by decide +kernel
theorem d_M_common_13 : decode (z_c m_M_common) 13 = .ok (.iload_n 3, 1) := by decide +kernel
theorem d_M_common_14 : decode (z_c m_M_common) 14 = .ok (.istore_n 2, 1) := by decide +kernel
theorem d_M_common_15 : decode (z_c m_M_common) 15 = .ok (.iload 4, 2) := by decide +kernel
theorem d_M_common_17 : decode (z_c m_M_common) 17 = .ok (.istore_n 3, 1) := by decide +kernel
theorem d_M_common_18 : decode (z_c m_M_common) 18 = .ok (.goto (-14), 3) := by decide +kernel
theorem d_M_common_21 : decode (z_c m_M_common) 21 = .ok (.iload_n 2, 1) := by decide +kernel
theorem d_M_common_22 : decode (z_c m_M_common) 22 = .ok (.ireturn, 1) := by decide +kernel
abbrev L_M_common_4 (X : z_X) (N : Nat) (σ : z_G) (x2 x3 : Int) (g : z_G) (Q : z_P) : Prop := z_U X 1 m_M_common 4 [(2, (0, x2)), (3, (0, x3))] [] N σ g Q
set_option maxRecDepth 8000 in
theorem b_M_common_0 {X : z_X} {N : Nat} {σ g : z_G} {Q : z_P} {a0 a1 : Int} (h : L_M_common_4 X N σ a0 a1 g Q) : z_O X 1 m_M_common [(0, a0), (0, a1)] N σ g Q := by
  refine z_Oenter mi_M_common rfl (fun _ => ?_)
  show z_U X 1 m_M_common 0 [(0, (0, a0)), (1, (0, a1))] [] N σ g Q
  refine z_iload_n (i := 0) 0 d_M_common_0 rfl rfl ?_
  refine z_istore_n (i := 2) (ls' := [(2, (0, a0)), (0, (0, a0)), (1, (0, a1))]) d_M_common_1 rfl rfl rfl ?_
  refine z_iload_n (i := 1) 2 d_M_common_2 rfl rfl ?_
  refine z_istore_n (i := 3) (ls' := [(3, (0, a1)), (2, (0, a0)), (0, (0, a0)), (1, (0, a1))]) d_M_common_3 rfl rfl rfl ?_
  refine z_sub (ls' := [(2, (0, a0)), (3, (0, a1))]) [1, 0] rfl ?_
  exact h
set_option maxRecDepth 8000 in
theorem b_M_common_4 {X : z_X} {N : Nat} {σ g : z_G} {Q : z_P} {x2 x3 : Int} (h : ((x3 = 0) → Q x2 g) ∧ (¬ (x3 = 0) → ((0 < x3) ∧ L_M_common_4 X N σ x3 (Int.tmod x2 x3) g Q))) : L_M_common_4 X N σ x2 x3 g Q := by
  refine z_iload_n (i := 3) 1 d_M_common_4 rfl rfl ?_
  refine z_if_eq (tgt := 21) d_M_common_5 (by decide) (fun c1 => ?_) (fun c1 => ?_)
  · have h := h.1 c1
    refine z_iload_n (i := 2) 0 d_M_common_21 rfl rfl ?_
    exact z_iret d_M_common_22 rfl (by decide) (by decide) ⟨rfl, rfl, h⟩
  · have h := h.2 c1
    refine z_iload_n (i := 2) 0 d_M_common_8 rfl rfl ?_
    refine z_iload_n (i := 3) 1 d_M_common_9 rfl rfl ?_
    obtain ⟨c2, h⟩ := h
    refine z_irem d_M_common_10 c2 ?_
    refine z_istore (ls' := [(4, (0, Int.tmod x2 x3)), (2, (0, x2)), (3, (0, x3))]) d_M_common_11 rfl rfl ?_
    refine z_iload_n (i := 3) 2 d_M_common_13 rfl rfl ?_
    refine z_istore_n (i := 2) (ls' := [(2, (0, x3)), (4, (0, Int.tmod x2 x3)), (3, (0, x3))]) d_M_common_14 rfl rfl rfl ?_
    refine z_iload 1 d_M_common_15 rfl ?_
    refine z_istore_n (i := 3) (ls' := [(3, (0, Int.tmod x2 x3)), (2, (0, x3)), (4, (0, Int.tmod x2 x3))]) d_M_common_17 rfl rfl rfl ?_
    refine z_goto (tgt := 4) d_M_common_18 (by decide) ?_
    refine z_sub (ls' := [(2, (0, x3)), (3, (0, Int.tmod x2 x3))]) [1, 0] rfl ?_
    exact h
theorem d_M_copies_0 : decode (z_c m_M_copies) 0 = .ok (.iconst 0, 1) := by decide +kernel
theorem d_M_copies_1 : decode (z_c m_M_copies) 1 = .ok (.istore_n 3, 1) := by decide +kernel
theorem d_M_copies_2 : decode (z_c m_M_copies) 2 = .ok (.iload_n 3, 1) := by decide +kernel
theorem d_M_copies_3 : decode (z_c m_M_copies) 3 = .ok (.sipush 610, 3) := by decide +kernel
theorem d_M_copies_6 : decode (z_c m_M_copies) 6 = .ok (.if_icmp .ge 33, 3) := by decide +kernel
theorem d_M_copies_9 : decode (z_c m_M_copies) 9 = .ok (.aload_n 0, 1) := by decide +kernel
theorem d_M_copies_10 : decode (z_c m_M_copies) 10 = .ok (.getfield 7, 3) := by decide +kernel
theorem d_M_copies_13 : decode (z_c m_M_copies) 13 = .ok (.sipush 610, 3) := by decide +kernel
theorem d_M_copies_16 : decode (z_c m_M_copies) 16 = .ok (.iload_n 2, 1) := by decide +kernel
theorem d_M_copies_17 : decode (z_c m_M_copies) 17 = .ok (.imul, 1) := by decide +kernel
theorem d_M_copies_18 : decode (z_c m_M_copies) 18 = .ok (.iload_n 3, 1) := by decide +kernel
theorem d_M_copies_19 : decode (z_c m_M_copies) 19 = .ok (.iadd, 1) := by decide +kernel
theorem d_M_copies_20 : decode (z_c m_M_copies) 20 = .ok (.aload_n 0, 1) := by decide +kernel
theorem d_M_copies_21 : decode (z_c m_M_copies) 21 = .ok (.getfield 7, 3) := by decide +kernel
theorem d_M_copies_24 : decode (z_c m_M_copies) 24 = .ok (.sipush 610, 3) := by decide +kernel
theorem d_M_copies_27 : decode (z_c m_M_copies) 27 = .ok (.iload_n 1, 1) := by decide +kernel
theorem d_M_copies_28 : decode (z_c m_M_copies) 28 = .ok (.imul, 1) := by decide +kernel
theorem d_M_copies_29 : decode (z_c m_M_copies) 29 = .ok (.iload_n 3, 1) := by decide +kernel
theorem d_M_copies_30 : decode (z_c m_M_copies) 30 = .ok (.iadd, 1) := by decide +kernel
theorem d_M_copies_31 : decode (z_c m_M_copies) 31 = .ok (.iaload, 1) := by decide +kernel
theorem d_M_copies_32 : decode (z_c m_M_copies) 32 = .ok (.iastore, 1) := by decide +kernel
theorem d_M_copies_33 : decode (z_c m_M_copies) 33 = .ok (.iinc 3 1, 3) := by decide +kernel
theorem d_M_copies_36 : decode (z_c m_M_copies) 36 = .ok (.goto (-34), 3) := by decide +kernel
theorem d_M_copies_39 : decode (z_c m_M_copies) 39 = .ok (.return_, 1) := by decide +kernel
abbrev L_M_copies_2 (X : z_X) (N : Nat) (σ : z_G) (x1 x2 x3 : Int) (g : z_G) (Q : z_P) : Prop := z_U X 1 m_M_copies 2 [(0, (2, 0)), (1, (0, x1)), (2, (0, x2)), (3, (0, x3))] [] N σ g Q
set_option maxRecDepth 8000 in
theorem b_M_copies_0 {X : z_X} {N : Nat} {σ g : z_G} {Q : z_P} {a1 a2 : Int} (hx : z_lay X N σ 0 z_SM z_RM) (h : L_M_copies_2 X N σ a1 a2 0 g Q) : z_O X 1 m_M_copies [(2, 0), (0, a1), (0, a2)] N σ g Q := by
  refine z_Oenter mi_M_copies rfl (fun _ => ?_)
  show z_U X 1 m_M_copies 0 [(0, (2, 0)), (1, (0, a1)), (2, (0, a2))] [] N σ g Q
  refine z_iconst (n := 0) d_M_copies_0 (by decide) ?_
  refine z_istore_n (i := 3) (ls' := [(3, (0, 0)), (0, (2, 0)), (1, (0, a1)), (2, (0, a2))]) d_M_copies_1 rfl rfl rfl ?_
  refine z_sub (ls' := [(0, (2, 0)), (1, (0, a1)), (2, (0, a2)), (3, (0, 0))]) [1, 2, 3, 0] rfl ?_
  exact h
set_option maxRecDepth 8000 in
theorem b_M_copies_2 {X : z_X} {N : Nat} {σ g : z_G} {Q : z_P} {x1 x2 x3 : Int} (hx : z_lay X N σ 0 z_SM z_RM) (h : ((610 ≤ x3) → Q 0 g) ∧ (¬ (610 ≤ x3) → ((-2147483648 ≤ (610 * x2) ∧ (610 * x2) ≤ 2147483647) ∧ ((-2147483648 ≤ ((610 * x2) + x3) ∧ ((610 * x2) + x3) ≤ 2147483647) ∧ ((-2147483648 ≤ (610 * x1) ∧ (610 * x1) ≤ 2147483647) ∧ ((-2147483648 ≤ ((610 * x1) + x3) ∧ ((610 * x1) + x3) ≤ 2147483647) ∧ ((0 ≤ ((610 * x1) + x3) ∧ ((610 * x1) + x3) < 3296) ∧ ((0 ≤ ((610 * x2) + x3) ∧ ((610 * x2) + x3) < 3296) ∧ ((-2147483648 ≤ (x3 + 1) ∧ (x3 + 1) ≤ 2147483647) ∧ L_M_copies_2 X N σ x1 x2 (x3 + 1) (z_up g 1 ((610 * x2) + x3) (g 1 ((610 * x1) + x3))) Q))))))))) : L_M_copies_2 X N σ x1 x2 x3 g Q := by
  refine z_iload_n (i := 3) 3 d_M_copies_2 rfl rfl ?_
  refine z_sipush (n := 610) d_M_copies_3 (by decide) (by decide) ?_
  refine z_icmp_ge (tgt := 39) d_M_copies_6 (by decide) (fun c1 => ?_) (fun c1 => ?_)
  · have h := h.1 c1
    exact z_vret d_M_copies_39 rfl (by decide) (by decide) ⟨rfl, rfl, h⟩
  · have h := h.2 c1
    refine z_aload_n (i := 0) (c := 0) 0 d_M_copies_9 rfl rfl rfl ?_
    refine z_getr (c := 0) (kI := 0) (r2 := 1) d_M_copies_10 fd_M_at fl_M_7 rfl rfl rfl (ks_M_0 hx) (kl_M_0 hx) (kr_M_0_0 hx) ?_
    refine z_sipush (n := 610) d_M_copies_13 (by decide) (by decide) ?_
    refine z_iload_n (i := 2) 2 d_M_copies_16 rfl rfl ?_
    obtain ⟨c2, h⟩ := h
    refine z_imul d_M_copies_17 c2 ?_
    refine z_iload_n (i := 3) 3 d_M_copies_18 rfl rfl ?_
    obtain ⟨c3, h⟩ := h
    refine z_iadd d_M_copies_19 c3 ?_
    refine z_aload_n (i := 0) (c := 0) 0 d_M_copies_20 rfl rfl rfl ?_
    refine z_getr (c := 0) (kI := 0) (r2 := 1) d_M_copies_21 fd_M_at fl_M_7 rfl rfl rfl (ks_M_0 hx) (kl_M_0 hx) (kr_M_0_0 hx) ?_
    refine z_sipush (n := 610) d_M_copies_24 (by decide) (by decide) ?_
    refine z_iload_n (i := 1) 1 d_M_copies_27 rfl rfl ?_
    obtain ⟨c4, h⟩ := h
    refine z_imul d_M_copies_28 c4 ?_
    refine z_iload_n (i := 3) 3 d_M_copies_29 rfl rfl ?_
    obtain ⟨c5, h⟩ := h
    refine z_iadd d_M_copies_30 c5 ?_
    obtain ⟨c6, h⟩ := h
    refine z_iald (c := 1) (m := 3296) d_M_copies_31 rfl (ks_M_1 hx) (kl_M_1 hx) rfl (by decide) c6 ?_
    obtain ⟨c7, h⟩ := h
    refine z_iast (c := 1) (m := 3296) d_M_copies_32 rfl (ks_M_1 hx) (kl_M_1 hx) rfl (by decide) c7 ?_
    obtain ⟨c8, h⟩ := h
    refine z_iinc (n := 1) (ls' := [(3, (0, x3 + 1)), (0, (2, 0)), (1, (0, x1)), (2, (0, x2))]) 3 d_M_copies_33 rfl c8 rfl rfl ?_
    refine z_goto (tgt := 2) d_M_copies_36 (by decide) ?_
    refine z_sub (ls' := [(0, (2, 0)), (1, (0, x1)), (2, (0, x2)), (3, (0, x3 + 1))]) [1, 2, 3, 0] rfl ?_
    exact h
theorem d_M_cut_0 : decode (z_c m_M_cut) 0 = .ok (.iload_n 2, 1) := by decide +kernel
theorem d_M_cut_1 : decode (z_c m_M_cut) 1 = .ok (.ifCond .ne 10, 3) := by decide +kernel
theorem d_M_cut_4 : decode (z_c m_M_cut) 4 = .ok (.lload_n 0, 1) := by decide +kernel
theorem d_M_cut_5 : decode (z_c m_M_cut) 5 = .ok (.l2i, 1) := by decide +kernel
theorem d_M_cut_6 : decode (z_c m_M_cut) 6 = .ok (.i2b, 1) := by decide +kernel
theorem d_M_cut_7 : decode (z_c m_M_cut) 7 = .ok (.i2l, 1) := by decide +kernel
theorem d_M_cut_8 : decode (z_c m_M_cut) 8 = .ok (.goto 27, 3) := by decide +kernel
theorem d_M_cut_11 : decode (z_c m_M_cut) 11 = .ok (.iload_n 2, 1) := by decide +kernel
theorem d_M_cut_12 : decode (z_c m_M_cut) 12 = .ok (.iconst 1, 1) := by decide +kernel
theorem d_M_cut_13 : decode (z_c m_M_cut) 13 = .ok (.if_icmp .ne 10, 3) := by decide +kernel
theorem d_M_cut_16 : decode (z_c m_M_cut) 16 = .ok (.lload_n 0, 1) := by decide +kernel
theorem d_M_cut_17 : decode (z_c m_M_cut) 17 = .ok (.l2i, 1) := by decide +kernel
theorem d_M_cut_18 : decode (z_c m_M_cut) 18 = .ok (.i2s, 1) := by decide +kernel
theorem d_M_cut_19 : decode (z_c m_M_cut) 19 = .ok (.i2l, 1) := by decide +kernel
theorem d_M_cut_20 : decode (z_c m_M_cut) 20 = .ok (.goto 15, 3) := by decide +kernel
theorem d_M_cut_23 : decode (z_c m_M_cut) 23 = .ok (.iload_n 2, 1) := by decide +kernel
theorem d_M_cut_24 : decode (z_c m_M_cut) 24 = .ok (.iconst 2, 1) := by decide +kernel
theorem d_M_cut_25 : decode (z_c m_M_cut) 25 = .ok (.if_icmp .ne 9, 3) := by decide +kernel
theorem d_M_cut_28 : decode (z_c m_M_cut) 28 = .ok (.lload_n 0, 1) := by decide +kernel
theorem d_M_cut_29 : decode (z_c m_M_cut) 29 = .ok (.l2i, 1) := by decide +kernel
theorem d_M_cut_30 : decode (z_c m_M_cut) 30 = .ok (.i2l, 1) := by decide +kernel
theorem d_M_cut_31 : decode (z_c m_M_cut) 31 = .ok (.goto 4, 3) := by decide +kernel
theorem d_M_cut_34 : decode (z_c m_M_cut) 34 = .ok (.lload_n 0, 1) := by decide +kernel
theorem d_M_cut_35 : decode (z_c m_M_cut) 35 = .ok (.lreturn, 1) := by decide +kernel
set_option maxRecDepth 8000 in
theorem b_M_cut_0 {X : z_X} {N : Nat} {σ g : z_G} {Q : z_P} {a0 a2 : Int} (h : ((a2 = 0) → Q (Int.bmod (Int.bmod a0 4294967296) 256) g) ∧ (¬ (a2 = 0) → (((a2 = 1) → Q (Int.bmod (Int.bmod a0 4294967296) 65536) g) ∧ (¬ (a2 = 1) → (((a2 = 2) → Q (Int.bmod a0 4294967296) g) ∧ (¬ (a2 = 2) → Q a0 g)))))) : z_O X 1 m_M_cut [(1, a0), (0, a2)] N σ g Q := by
  refine z_Oenter mi_M_cut rfl (fun _ => ?_)
  show z_U X 1 m_M_cut 0 [(0, (1, a0)), (2, (0, a2))] [] N σ g Q
  refine z_iload_n (i := 2) 1 d_M_cut_0 rfl rfl ?_
  refine z_if_ne (tgt := 11) d_M_cut_1 (by decide) (fun c1 => ?_) (fun c1 => ?_)
  · have h := h.2 c1
    refine z_iload_n (i := 2) 1 d_M_cut_11 rfl rfl ?_
    refine z_iconst (n := 1) d_M_cut_12 (by decide) ?_
    refine z_icmp_ne (tgt := 23) d_M_cut_13 (by decide) (fun c2 => ?_) (fun c2 => ?_)
    · have h := h.2 c2
      refine z_iload_n (i := 2) 1 d_M_cut_23 rfl rfl ?_
      refine z_iconst (n := 2) d_M_cut_24 (by decide) ?_
      refine z_icmp_ne (tgt := 34) d_M_cut_25 (by decide) (fun c3 => ?_) (fun c3 => ?_)
      · have h := h.2 c3
        refine z_lload_n (i := 0) 0 d_M_cut_34 rfl rfl ?_
        exact z_lret d_M_cut_35 rfl (by decide) (by decide) ⟨rfl, rfl, h⟩
      · have h := h.1 c3
        refine z_lload_n (i := 0) 0 d_M_cut_28 rfl rfl ?_
        refine z_l2i d_M_cut_29 ?_
        refine z_i2l d_M_cut_30 ?_
        refine z_goto (tgt := 35) d_M_cut_31 (by decide) ?_
        exact z_lret d_M_cut_35 rfl (by decide) (by decide) ⟨rfl, rfl, h⟩
    · have h := h.1 c2
      refine z_lload_n (i := 0) 0 d_M_cut_16 rfl rfl ?_
      refine z_l2i d_M_cut_17 ?_
      refine z_i2s d_M_cut_18 ?_
      refine z_i2l d_M_cut_19 ?_
      refine z_goto (tgt := 35) d_M_cut_20 (by decide) ?_
      exact z_lret d_M_cut_35 rfl (by decide) (by decide) ⟨rfl, rfl, h⟩
  · have h := h.1 c1
    refine z_lload_n (i := 0) 0 d_M_cut_4 rfl rfl ?_
    refine z_l2i d_M_cut_5 ?_
    refine z_i2b d_M_cut_6 ?_
    refine z_i2l d_M_cut_7 ?_
    refine z_goto (tgt := 35) d_M_cut_8 (by decide) ?_
    exact z_lret d_M_cut_35 rfl (by decide) (by decide) ⟨rfl, rfl, h⟩
theorem d_M_draw_0 : decode (z_c m_M_draw) 0 = .ok (.aload_n 0, 1) := by decide +kernel
theorem d_M_draw_1 : decode (z_c m_M_draw) 1 = .ok (.aload_n 0, 1) := by decide +kernel
theorem d_M_draw_2 : decode (z_c m_M_draw) 2 = .ok (.getfield 392, 3) := by decide +kernel
theorem d_M_draw_5 : decode (z_c m_M_draw) 5 = .ok (.sipush 3301, 3) := by decide +kernel
theorem d_M_draw_8 : decode (z_c m_M_draw) 8 = .ok (.imul, 1) := by decide +kernel
theorem d_M_draw_9 : decode (z_c m_M_draw) 9 = .ok (.sipush 11533, 3) := by decide +kernel
theorem d_M_draw_12 : decode (z_c m_M_draw) 12 = .ok (.iadd, 1) := by decide +kernel
theorem d_M_draw_13 : decode (z_c m_M_draw) 13 = .ok (.ldc_w 395, 3) := by decide +kernel
theorem d_M_draw_16 : decode (z_c m_M_draw) 16 = .ok (.irem, 1) := by decide +kernel
theorem d_M_draw_17 : decode (z_c m_M_draw) 17 = .ok (.putfield 392, 3) := by decide +kernel
theorem d_M_draw_20 : decode (z_c m_M_draw) 20 = .ok (.aload_n 0, 1) := by decide +kernel
theorem d_M_draw_21 : decode (z_c m_M_draw) 21 = .ok (.getfield 392, 3) := by decide +kernel
theorem d_M_draw_24 : decode (z_c m_M_draw) 24 = .ok (.bipush 8, 2) := by decide +kernel
theorem d_M_draw_26 : decode (z_c m_M_draw) 26 = .ok (.idiv, 1) := by decide +kernel
theorem d_M_draw_27 : decode (z_c m_M_draw) 27 = .ok (.iload_n 1, 1) := by decide +kernel
theorem d_M_draw_28 : decode (z_c m_M_draw) 28 = .ok (.irem, 1) := by decide +kernel
theorem d_M_draw_29 : decode (z_c m_M_draw) 29 = .ok (.ireturn, 1) := by decide +kernel
set_option maxRecDepth 8000 in
theorem b_M_draw_0 {X : z_X} {N : Nat} {σ g : z_G} {Q : z_P} {a1 : Int} (hx : z_lay X N σ 0 z_SM z_RM) (h : (-2147483648 ≤ ((g 0 35) * 3301) ∧ ((g 0 35) * 3301) ≤ 2147483647) ∧ ((-2147483648 ≤ (((g 0 35) * 3301) + 11533) ∧ (((g 0 35) * 3301) + 11533) ≤ 2147483647) ∧ ((0 < a1) ∧ Q (Int.tmod (Int.tdiv (Int.tmod (((g 0 35) * 3301) + 11533) 65536) 8) a1) (z_up g 0 35 (Int.tmod (((g 0 35) * 3301) + 11533) 65536))))) : z_O X 1 m_M_draw [(2, 0), (0, a1)] N σ g Q := by
  refine z_Oenter mi_M_draw rfl (fun _ => ?_)
  show z_U X 1 m_M_draw 0 [(0, (2, 0)), (1, (0, a1))] [] N σ g Q
  refine z_aload_n (i := 0) (c := 0) 0 d_M_draw_0 rfl rfl rfl ?_
  refine z_aload_n (i := 0) (c := 0) 0 d_M_draw_1 rfl rfl rfl ?_
  refine z_geti (c := 0) (kI := 35) d_M_draw_2 fd_M_drawn fl_M_392 (Or.inl rfl) rfl rfl (ks_M_0 hx) (kl_M_0 hx) ?_
  refine z_sipush (n := 3301) d_M_draw_5 (by decide) (by decide) ?_
  obtain ⟨c1, h⟩ := h
  refine z_imul d_M_draw_8 c1 ?_
  refine z_sipush (n := 11533) d_M_draw_9 (by decide) (by decide) ?_
  obtain ⟨c2, h⟩ := h
  refine z_iadd d_M_draw_12 c2 ?_
  refine z_ldcw (v := 65536) d_M_draw_13 kc_M_395 (by decide) ?_
  refine z_irem d_M_draw_16 (by decide) ?_
  refine z_puti (c := 0) (kI := 35) d_M_draw_17 fd_M_drawn fl_M_392 pf_M_drawn rfl rfl rfl rfl (ks_M_0 hx) (kl_M_0 hx) ?_
  refine z_aload_n (i := 0) (c := 0) 0 d_M_draw_20 rfl rfl rfl ?_
  refine z_geti (c := 0) (kI := 35) d_M_draw_21 fd_M_drawn fl_M_392 (Or.inl rfl) rfl rfl (ks_M_0 hx) (kl_M_0 hx) ?_
  refine z_ti (b := Int.tmod (((g 0 35) * 3301) + 11533) 65536) (by simp [z_up]) ?_
  refine z_bipush (n := 8) d_M_draw_24 (by decide) (by decide) ?_
  refine z_idiv d_M_draw_26 (by decide) ?_
  refine z_iload_n (i := 1) 1 d_M_draw_27 rfl rfl ?_
  obtain ⟨c3, h⟩ := h
  refine z_irem d_M_draw_28 c3 ?_
  exact z_iret d_M_draw_29 rfl (by decide) (by decide) ⟨rfl, rfl, h⟩
theorem d_M_fails_0 : decode (z_c m_M_fails) 0 = .ok (.aload_n 0, 1) := by decide +kernel
theorem d_M_fails_1 : decode (z_c m_M_fails) 1 = .ok (.getfield 157, 3) := by decide +kernel
theorem d_M_fails_4 : decode (z_c m_M_fails) 4 = .ok (.ifCond .ne 28, 3) := by decide +kernel
theorem d_M_fails_7 : decode (z_c m_M_fails) 7 = .ok (.aload_n 0, 1) := by decide +kernel
theorem d_M_fails_8 : decode (z_c m_M_fails) 8 = .ok (.aload_n 0, 1) := by decide +kernel
theorem d_M_fails_9 : decode (z_c m_M_fails) 9 = .ok (.getfield 132, 3) := by decide +kernel
theorem d_M_fails_12 : decode (z_c m_M_fails) 12 = .ok (.iconst 1, 1) := by decide +kernel
theorem d_M_fails_13 : decode (z_c m_M_fails) 13 = .ok (.if_icmp .ne 7, 3) := by decide +kernel
theorem d_M_fails_16 : decode (z_c m_M_fails) 16 = .ok (.iconst 1, 1) := by decide +kernel
theorem d_M_fails_17 : decode (z_c m_M_fails) 17 = .ok (.goto 4, 3) := by decide +kernel
theorem d_M_fails_20 : decode (z_c m_M_fails) 20 = .ok (.iload_n 1, 1) := by decide +kernel
theorem d_M_fails_21 : decode (z_c m_M_fails) 21 = .ok (.putfield 157, 3) := by decide +kernel
theorem d_M_fails_24 : decode (z_c m_M_fails) 24 = .ok (.aload_n 0, 1) := by decide +kernel
theorem d_M_fails_25 : decode (z_c m_M_fails) 25 = .ok (.aload_n 0, 1) := by decide +kernel
theorem d_M_fails_26 : decode (z_c m_M_fails) 26 = .ok (.getfield 126, 3) := by decide +kernel
theorem d_M_fails_29 : decode (z_c m_M_fails) 29 = .ok (.putfield 38, 3) := by decide +kernel
theorem d_M_fails_32 : decode (z_c m_M_fails) 32 = .ok (.iconst 0, 1) := by decide +kernel
theorem d_M_fails_33 : decode (z_c m_M_fails) 33 = .ok (.ireturn, 1) := by decide +kernel
set_option maxRecDepth 8000 in
theorem b_M_fails_0 {X : z_X} {N : Nat} {σ g : z_G} {Q : z_P} {a1 : Int} (hx : z_lay X N σ 0 z_SM z_RM) (h : (((g 0 17) = 0) → ((((g 0 11) = 1) → Q 0 (z_up (z_up g 0 17 1) 0 16 (g 0 12))) ∧ (¬ ((g 0 11) = 1) → Q 0 (z_up (z_up g 0 17 a1) 0 16 (g 0 12))))) ∧ (¬ ((g 0 17) = 0) → Q 0 g)) : z_O X 1 m_M_fails [(2, 0), (0, a1)] N σ g Q := by
  refine z_Oenter mi_M_fails rfl (fun _ => ?_)
  show z_U X 1 m_M_fails 0 [(0, (2, 0)), (1, (0, a1))] [] N σ g Q
  refine z_aload_n (i := 0) (c := 0) 0 d_M_fails_0 rfl rfl rfl ?_
  refine z_geti (c := 0) (kI := 17) d_M_fails_1 fd_M_faults fl_M_157 (Or.inl rfl) rfl rfl (ks_M_0 hx) (kl_M_0 hx) ?_
  refine z_if_ne (tgt := 32) d_M_fails_4 (by decide) (fun c1 => ?_) (fun c1 => ?_)
  · have h := h.2 c1
    refine z_iconst (n := 0) d_M_fails_32 (by decide) ?_
    exact z_zret d_M_fails_33 rfl (by decide) (by decide) (by decide) ⟨rfl, rfl, h⟩
  · have h := h.1 c1
    refine z_aload_n (i := 0) (c := 0) 0 d_M_fails_7 rfl rfl rfl ?_
    refine z_aload_n (i := 0) (c := 0) 0 d_M_fails_8 rfl rfl rfl ?_
    refine z_geti (c := 0) (kI := 11) d_M_fails_9 fd_M_token fl_M_132 (Or.inl rfl) rfl rfl (ks_M_0 hx) (kl_M_0 hx) ?_
    refine z_iconst (n := 1) d_M_fails_12 (by decide) ?_
    refine z_icmp_ne (tgt := 20) d_M_fails_13 (by decide) (fun c2 => ?_) (fun c2 => ?_)
    · have h := h.2 c2
      refine z_iload_n (i := 1) 1 d_M_fails_20 rfl rfl ?_
      refine z_puti (c := 0) (kI := 17) d_M_fails_21 fd_M_faults fl_M_157 pf_M_faults rfl rfl rfl rfl (ks_M_0 hx) (kl_M_0 hx) ?_
      refine z_aload_n (i := 0) (c := 0) 0 d_M_fails_24 rfl rfl rfl ?_
      refine z_aload_n (i := 0) (c := 0) 0 d_M_fails_25 rfl rfl rfl ?_
      refine z_geti (c := 0) (kI := 12) d_M_fails_26 fd_M_from fl_M_126 (Or.inl rfl) rfl rfl (ks_M_0 hx) (kl_M_0 hx) ?_
      refine z_ti (b := g 0 12) (by simp [z_up]) ?_
      refine z_puti (c := 0) (kI := 16) d_M_fails_29 fd_M_faultPlace fl_M_38 pf_M_faultPlace rfl rfl rfl rfl (ks_M_0 hx) (kl_M_0 hx) ?_
      refine z_iconst (n := 0) d_M_fails_32 (by decide) ?_
      exact z_zret d_M_fails_33 rfl (by decide) (by decide) (by decide) ⟨rfl, rfl, h⟩
    · have h := h.1 c2
      refine z_iconst (n := 1) d_M_fails_16 (by decide) ?_
      refine z_goto (tgt := 21) d_M_fails_17 (by decide) ?_
      refine z_puti (c := 0) (kI := 17) d_M_fails_21 fd_M_faults fl_M_157 pf_M_faults rfl rfl rfl rfl (ks_M_0 hx) (kl_M_0 hx) ?_
      refine z_aload_n (i := 0) (c := 0) 0 d_M_fails_24 rfl rfl rfl ?_
      refine z_aload_n (i := 0) (c := 0) 0 d_M_fails_25 rfl rfl rfl ?_
      refine z_geti (c := 0) (kI := 12) d_M_fails_26 fd_M_from fl_M_126 (Or.inl rfl) rfl rfl (ks_M_0 hx) (kl_M_0 hx) ?_
      refine z_ti (b := g 0 12) (by simp [z_up]) ?_
      refine z_puti (c := 0) (kI := 16) d_M_fails_29 fd_M_faultPlace fl_M_38 pf_M_faultPlace rfl rfl rfl rfl (ks_M_0 hx) (kl_M_0 hx) ?_
      refine z_iconst (n := 0) d_M_fails_32 (by decide) ?_
      exact z_zret d_M_fails_33 rfl (by decide) (by decide) (by decide) ⟨rfl, rfl, h⟩
theorem d_M_fault_0 : decode (z_c m_M_fault) 0 = .ok (.iload_n 1, 1) := by decide +kernel
theorem d_M_fault_1 : decode (z_c m_M_fault) 1 = .ok (.ifCond .ne 10, 3) := by decide +kernel
theorem d_M_fault_4 : decode (z_c m_M_fault) 4 = .ok (.aload_n 0, 1) := by decide +kernel
theorem d_M_fault_5 : decode (z_c m_M_fault) 5 = .ok (.getfield 34, 3) := by decide +kernel
theorem d_M_fault_8 : decode (z_c m_M_fault) 8 = .ok (.goto 16, 3) := by decide +kernel
theorem d_M_fault_11 : decode (z_c m_M_fault) 11 = .ok (.iload_n 1, 1) := by decide +kernel
theorem d_M_fault_12 : decode (z_c m_M_fault) 12 = .ok (.iconst 1, 1) := by decide +kernel
theorem d_M_fault_13 : decode (z_c m_M_fault) 13 = .ok (.if_icmp .ne 10, 3) := by decide +kernel
theorem d_M_fault_16 : decode (z_c m_M_fault) 16 = .ok (.aload_n 0, 1) := by decide +kernel
theorem d_M_fault_17 : decode (z_c m_M_fault) 17 = .ok (.getfield 38, 3) := by decide +kernel
theorem d_M_fault_20 : decode (z_c m_M_fault) 20 = .ok (.goto 4, 3) := by decide +kernel
theorem d_M_fault_23 : decode (z_c m_M_fault) 23 = .ok (.iconst (-1), 1) := by decide +kernel
theorem d_M_fault_24 : decode (z_c m_M_fault) 24 = .ok (.ireturn, 1) := by decide +kernel
set_option maxRecDepth 8000 in
theorem b_M_fault_0 {X : z_X} {N : Nat} {σ g : z_G} {Q : z_P} {a1 : Int} (hx : z_lay X N σ 0 z_SM z_RM) (h : ((a1 = 0) → Q (g 0 15) g) ∧ (¬ (a1 = 0) → (((a1 = 1) → Q (g 0 16) g) ∧ (¬ (a1 = 1) → Q (-1) g)))) : z_O X 1 m_M_fault [(2, 0), (0, a1)] N σ g Q := by
  refine z_Oenter mi_M_fault rfl (fun _ => ?_)
  show z_U X 1 m_M_fault 0 [(0, (2, 0)), (1, (0, a1))] [] N σ g Q
  refine z_iload_n (i := 1) 1 d_M_fault_0 rfl rfl ?_
  refine z_if_ne (tgt := 11) d_M_fault_1 (by decide) (fun c1 => ?_) (fun c1 => ?_)
  · have h := h.2 c1
    refine z_iload_n (i := 1) 1 d_M_fault_11 rfl rfl ?_
    refine z_iconst (n := 1) d_M_fault_12 (by decide) ?_
    refine z_icmp_ne (tgt := 23) d_M_fault_13 (by decide) (fun c2 => ?_) (fun c2 => ?_)
    · have h := h.2 c2
      refine z_iconst (n := (-1)) d_M_fault_23 (by decide) ?_
      exact z_iret d_M_fault_24 rfl (by decide) (by decide) ⟨rfl, rfl, h⟩
    · have h := h.1 c2
      refine z_aload_n (i := 0) (c := 0) 0 d_M_fault_16 rfl rfl rfl ?_
      refine z_geti (c := 0) (kI := 16) d_M_fault_17 fd_M_faultPlace fl_M_38 (Or.inl rfl) rfl rfl (ks_M_0 hx) (kl_M_0 hx) ?_
      refine z_goto (tgt := 24) d_M_fault_20 (by decide) ?_
      exact z_iret d_M_fault_24 rfl (by decide) (by decide) ⟨rfl, rfl, h⟩
  · have h := h.1 c1
    refine z_aload_n (i := 0) (c := 0) 0 d_M_fault_4 rfl rfl rfl ?_
    refine z_geti (c := 0) (kI := 15) d_M_fault_5 fd_M_faultKind fl_M_34 (Or.inl rfl) rfl rfl (ks_M_0 hx) (kl_M_0 hx) ?_
    refine z_goto (tgt := 24) d_M_fault_8 (by decide) ?_
    exact z_iret d_M_fault_24 rfl (by decide) (by decide) ⟨rfl, rfl, h⟩
theorem d_M_findPin_0 : decode (z_c m_M_findPin) 0 = .ok (.iconst 0, 1) := by decide +kernel
theorem d_M_findPin_1 : decode (z_c m_M_findPin) 1 = .ok (.istore 4, 2) := by decide +kernel
theorem d_M_findPin_3 : decode (z_c m_M_findPin) 3 = .ok (.iload 4, 2) := by decide +kernel
theorem d_M_findPin_5 : decode (z_c m_M_findPin) 5 = .ok (.aload_n 0, 1) := by decide +kernel
theorem d_M_findPin_6 : decode (z_c m_M_findPin) 6 = .ok (.getfield 7, 3) := by decide +kernel
theorem d_M_findPin_9 : decode (z_c m_M_findPin) 9 = .ok (.iload_n 1, 1) := by decide +kernel
theorem d_M_findPin_10 : decode (z_c m_M_findPin) 10 = .ok (.iconst 4, 1) := by decide +kernel
theorem d_M_findPin_11 : decode (z_c m_M_findPin) 11 = .ok (.iadd, 1) := by decide +kernel
theorem d_M_findPin_12 : decode (z_c m_M_findPin) 12 = .ok (.iaload, 1) := by decide +kernel
theorem d_M_findPin_13 : decode (z_c m_M_findPin) 13 = .ok (.if_icmp .ge 50, 3) := by decide +kernel
theorem d_M_findPin_16 : decode (z_c m_M_findPin) 16 = .ok (.aload_n 0, 1) := by decide +kernel
theorem d_M_findPin_17 : decode (z_c m_M_findPin) 17 = .ok (.getfield 7, 3) := by decide +kernel
theorem d_M_findPin_20 : decode (z_c m_M_findPin) 20 = .ok (.iload_n 1, 1) := by decide +kernel
theorem d_M_findPin_21 : decode (z_c m_M_findPin) 21 = .ok (.bipush 10, 2) := by decide +kernel
theorem d_M_findPin_23 : decode (z_c m_M_findPin) 23 = .ok (.iadd, 1) := by decide +kernel
theorem d_M_findPin_24 : decode (z_c m_M_findPin) 24 = .ok (.iconst 3, 1) := by decide +kernel
theorem d_M_findPin_25 : decode (z_c m_M_findPin) 25 = .ok (.iload 4, 2) := by decide +kernel
theorem d_M_findPin_27 : decode (z_c m_M_findPin) 27 = .ok (.imul, 1) := by decide +kernel
theorem d_M_findPin_28 : decode (z_c m_M_findPin) 28 = .ok (.iadd, 1) := by decide +kernel
theorem d_M_findPin_29 : decode (z_c m_M_findPin) 29 = .ok (.iaload, 1) := by decide +kernel
theorem d_M_findPin_30 : decode (z_c m_M_findPin) 30 = .ok (.iload_n 2, 1) := by decide +kernel
theorem d_M_findPin_31 : decode (z_c m_M_findPin) 31 = .ok (.if_icmp .ne 26, 3) := by decide +kernel
theorem d_M_findPin_34 : decode (z_c m_M_findPin) 34 = .ok (.aload_n 0, 1) := by decide +kernel
theorem d_M_findPin_35 : decode (z_c m_M_findPin) 35 = .ok (.getfield 7, 3) := by decide +kernel
theorem d_M_findPin_38 : decode (z_c m_M_findPin) 38 = .ok (.iload_n 1, 1) := by decide +kernel
theorem d_M_findPin_39 : decode (z_c m_M_findPin) 39 = .ok (.bipush 10, 2) := by decide +kernel
theorem d_M_findPin_41 : decode (z_c m_M_findPin) 41 = .ok (.iadd, 1) := by decide +kernel
theorem d_M_findPin_42 : decode (z_c m_M_findPin) 42 = .ok (.iconst 3, 1) := by decide +kernel
theorem d_M_findPin_43 : decode (z_c m_M_findPin) 43 = .ok (.iload 4, 2) := by decide +kernel
theorem d_M_findPin_45 : decode (z_c m_M_findPin) 45 = .ok (.imul, 1) := by decide +kernel
theorem d_M_findPin_46 : decode (z_c m_M_findPin) 46 = .ok (.iadd, 1) := by decide +kernel
theorem d_M_findPin_47 : decode (z_c m_M_findPin) 47 = .ok (.iconst 1, 1) := by decide +kernel
theorem d_M_findPin_48 : decode (z_c m_M_findPin) 48 = .ok (.iadd, 1) := by decide +kernel
theorem d_M_findPin_49 : decode (z_c m_M_findPin) 49 = .ok (.iaload, 1) := by decide +kernel
theorem d_M_findPin_50 : decode (z_c m_M_findPin) 50 = .ok (.iload_n 3, 1) := by decide +kernel
theorem d_M_findPin_51 : decode (z_c m_M_findPin) 51 = .ok (.if_icmp .ne 6, 3) := by decide +kernel
theorem d_M_findPin_54 : decode (z_c m_M_findPin) 54 = .ok (.iload 4, 2) := by decide +kernel
theorem d_M_findPin_56 : decode (z_c m_M_findPin) 56 = .ok (.ireturn, 1) := by decide +kernel
theorem d_M_findPin_57 : decode (z_c m_M_findPin) 57 = .ok (.iinc 4 1, 3) := by decide +kernel
theorem d_M_findPin_60 : decode (z_c m_M_findPin) 60 = .ok (.goto (-57), 3) := by decide +kernel
theorem d_M_findPin_63 : decode (z_c m_M_findPin) 63 = .ok (.iconst (-1), 1) := by decide +kernel
theorem d_M_findPin_64 : decode (z_c m_M_findPin) 64 = .ok (.ireturn, 1) := by decide +kernel
abbrev L_M_findPin_3 (X : z_X) (N : Nat) (σ : z_G) (x1 x2 x3 x4 : Int) (g : z_G) (Q : z_P) : Prop := z_U X 1 m_M_findPin 3 [(0, (2, 0)), (1, (0, x1)), (2, (0, x2)), (3, (0, x3)), (4, (0, x4))] [] N σ g Q
set_option maxRecDepth 8000 in
theorem b_M_findPin_0 {X : z_X} {N : Nat} {σ g : z_G} {Q : z_P} {a1 a2 a3 : Int} (hx : z_lay X N σ 0 z_SM z_RM) (h : L_M_findPin_3 X N σ a1 a2 a3 0 g Q) : z_O X 1 m_M_findPin [(2, 0), (0, a1), (0, a2), (0, a3)] N σ g Q := by
  refine z_Oenter mi_M_findPin rfl (fun _ => ?_)
  show z_U X 1 m_M_findPin 0 [(0, (2, 0)), (1, (0, a1)), (2, (0, a2)), (3, (0, a3))] [] N σ g Q
  refine z_iconst (n := 0) d_M_findPin_0 (by decide) ?_
  refine z_istore (ls' := [(4, (0, 0)), (0, (2, 0)), (1, (0, a1)), (2, (0, a2)), (3, (0, a3))]) d_M_findPin_1 rfl rfl ?_
  refine z_sub (ls' := [(0, (2, 0)), (1, (0, a1)), (2, (0, a2)), (3, (0, a3)), (4, (0, 0))]) [1, 2, 3, 4, 0] rfl ?_
  exact h
set_option maxRecDepth 8000 in
theorem b_M_findPin_3 {X : z_X} {N : Nat} {σ g : z_G} {Q : z_P} {x1 x2 x3 x4 : Int} (hx : z_lay X N σ 0 z_SM z_RM) (h : (-2147483648 ≤ (x1 + 4) ∧ (x1 + 4) ≤ 2147483647) ∧ ((0 ≤ (x1 + 4) ∧ (x1 + 4) < 3296) ∧ ((((g 1 (x1 + 4)) ≤ x4) → Q (-1) g) ∧ (¬ ((g 1 (x1 + 4)) ≤ x4) → ((-2147483648 ≤ (x1 + 10) ∧ (x1 + 10) ≤ 2147483647) ∧ ((-2147483648 ≤ (3 * x4) ∧ (3 * x4) ≤ 2147483647) ∧ ((-2147483648 ≤ ((x1 + 10) + (3 * x4)) ∧ ((x1 + 10) + (3 * x4)) ≤ 2147483647) ∧ ((0 ≤ ((x1 + 10) + (3 * x4)) ∧ ((x1 + 10) + (3 * x4)) < 3296) ∧ ((((g 1 ((x1 + 10) + (3 * x4))) = x2) → ((-2147483648 ≤ (((x1 + 10) + (3 * x4)) + 1) ∧ (((x1 + 10) + (3 * x4)) + 1) ≤ 2147483647) ∧ ((0 ≤ (((x1 + 10) + (3 * x4)) + 1) ∧ (((x1 + 10) + (3 * x4)) + 1) < 3296) ∧ ((((g 1 (((x1 + 10) + (3 * x4)) + 1)) = x3) → Q x4 g) ∧ (¬ ((g 1 (((x1 + 10) + (3 * x4)) + 1)) = x3) → ((-2147483648 ≤ (x4 + 1) ∧ (x4 + 1) ≤ 2147483647) ∧ L_M_findPin_3 X N σ x1 x2 x3 (x4 + 1) g Q)))))) ∧ (¬ ((g 1 ((x1 + 10) + (3 * x4))) = x2) → ((-2147483648 ≤ (x4 + 1) ∧ (x4 + 1) ≤ 2147483647) ∧ L_M_findPin_3 X N σ x1 x2 x3 (x4 + 1) g Q))))))))))) : L_M_findPin_3 X N σ x1 x2 x3 x4 g Q := by
  refine z_iload 4 d_M_findPin_3 rfl ?_
  refine z_aload_n (i := 0) (c := 0) 0 d_M_findPin_5 rfl rfl rfl ?_
  refine z_getr (c := 0) (kI := 0) (r2 := 1) d_M_findPin_6 fd_M_at fl_M_7 rfl rfl rfl (ks_M_0 hx) (kl_M_0 hx) (kr_M_0_0 hx) ?_
  refine z_iload_n (i := 1) 1 d_M_findPin_9 rfl rfl ?_
  refine z_iconst (n := 4) d_M_findPin_10 (by decide) ?_
  obtain ⟨c1, h⟩ := h
  refine z_iadd d_M_findPin_11 c1 ?_
  obtain ⟨c2, h⟩ := h
  refine z_iald (c := 1) (m := 3296) d_M_findPin_12 rfl (ks_M_1 hx) (kl_M_1 hx) rfl (by decide) c2 ?_
  refine z_icmp_ge (tgt := 63) d_M_findPin_13 (by decide) (fun c3 => ?_) (fun c3 => ?_)
  · have h := h.1 c3
    refine z_iconst (n := (-1)) d_M_findPin_63 (by decide) ?_
    exact z_iret d_M_findPin_64 rfl (by decide) (by decide) ⟨rfl, rfl, h⟩
  · have h := h.2 c3
    refine z_aload_n (i := 0) (c := 0) 0 d_M_findPin_16 rfl rfl rfl ?_
    refine z_getr (c := 0) (kI := 0) (r2 := 1) d_M_findPin_17 fd_M_at fl_M_7 rfl rfl rfl (ks_M_0 hx) (kl_M_0 hx) (kr_M_0_0 hx) ?_
    refine z_iload_n (i := 1) 1 d_M_findPin_20 rfl rfl ?_
    refine z_bipush (n := 10) d_M_findPin_21 (by decide) (by decide) ?_
    obtain ⟨c4, h⟩ := h
    refine z_iadd d_M_findPin_23 c4 ?_
    refine z_iconst (n := 3) d_M_findPin_24 (by decide) ?_
    refine z_iload 4 d_M_findPin_25 rfl ?_
    obtain ⟨c5, h⟩ := h
    refine z_imul d_M_findPin_27 c5 ?_
    obtain ⟨c6, h⟩ := h
    refine z_iadd d_M_findPin_28 c6 ?_
    obtain ⟨c7, h⟩ := h
    refine z_iald (c := 1) (m := 3296) d_M_findPin_29 rfl (ks_M_1 hx) (kl_M_1 hx) rfl (by decide) c7 ?_
    refine z_iload_n (i := 2) 2 d_M_findPin_30 rfl rfl ?_
    refine z_icmp_ne (tgt := 57) d_M_findPin_31 (by decide) (fun c8 => ?_) (fun c8 => ?_)
    · have h := h.2 c8
      obtain ⟨c9, h⟩ := h
      refine z_iinc (n := 1) (ls' := [(4, (0, x4 + 1)), (0, (2, 0)), (1, (0, x1)), (2, (0, x2)), (3, (0, x3))]) 4 d_M_findPin_57 rfl c9 rfl rfl ?_
      refine z_goto (tgt := 3) d_M_findPin_60 (by decide) ?_
      refine z_sub (ls' := [(0, (2, 0)), (1, (0, x1)), (2, (0, x2)), (3, (0, x3)), (4, (0, x4 + 1))]) [1, 2, 3, 4, 0] rfl ?_
      exact h
    · have h := h.1 c8
      refine z_aload_n (i := 0) (c := 0) 0 d_M_findPin_34 rfl rfl rfl ?_
      refine z_getr (c := 0) (kI := 0) (r2 := 1) d_M_findPin_35 fd_M_at fl_M_7 rfl rfl rfl (ks_M_0 hx) (kl_M_0 hx) (kr_M_0_0 hx) ?_
      refine z_iload_n (i := 1) 1 d_M_findPin_38 rfl rfl ?_
      refine z_bipush (n := 10) d_M_findPin_39 (by decide) (by decide) ?_
      refine z_iadd d_M_findPin_41 c4 ?_
      refine z_iconst (n := 3) d_M_findPin_42 (by decide) ?_
      refine z_iload 4 d_M_findPin_43 rfl ?_
      refine z_imul d_M_findPin_45 c5 ?_
      refine z_iadd d_M_findPin_46 c6 ?_
      refine z_iconst (n := 1) d_M_findPin_47 (by decide) ?_
      obtain ⟨c10, h⟩ := h
      refine z_iadd d_M_findPin_48 c10 ?_
      obtain ⟨c11, h⟩ := h
      refine z_iald (c := 1) (m := 3296) d_M_findPin_49 rfl (ks_M_1 hx) (kl_M_1 hx) rfl (by decide) c11 ?_
      refine z_iload_n (i := 3) 3 d_M_findPin_50 rfl rfl ?_
      refine z_icmp_ne (tgt := 57) d_M_findPin_51 (by decide) (fun c12 => ?_) (fun c12 => ?_)
      · have h := h.2 c12
        obtain ⟨c13, h⟩ := h
        refine z_iinc (n := 1) (ls' := [(4, (0, x4 + 1)), (0, (2, 0)), (1, (0, x1)), (2, (0, x2)), (3, (0, x3))]) 4 d_M_findPin_57 rfl c13 rfl rfl ?_
        refine z_goto (tgt := 3) d_M_findPin_60 (by decide) ?_
        refine z_sub (ls' := [(0, (2, 0)), (1, (0, x1)), (2, (0, x2)), (3, (0, x3)), (4, (0, x4 + 1))]) [1, 2, 3, 4, 0] rfl ?_
        exact h
      · have h := h.1 c12
        refine z_iload 4 d_M_findPin_54 rfl ?_
        exact z_iret d_M_findPin_56 rfl (by decide) (by decide) ⟨rfl, rfl, h⟩
theorem d_M_findsChild_0 : decode (z_c m_M_findsChild) 0 = .ok (.iconst 1, 1) := by decide +kernel
theorem d_M_findsChild_1 : decode (z_c m_M_findsChild) 1 = .ok (.istore 4, 2) := by decide +kernel
theorem d_M_findsChild_3 : decode (z_c m_M_findsChild) 3 = .ok (.iload_n 1, 1) := by decide +kernel
theorem d_M_findsChild_4 : decode (z_c m_M_findsChild) 4 = .ok (.iload 4, 2) := by decide +kernel
theorem d_M_findsChild_6 : decode (z_c m_M_findsChild) 6 = .ok (.imul, 1) := by decide +kernel
theorem d_M_findsChild_7 : decode (z_c m_M_findsChild) 7 = .ok (.iload_n 2, 1) := by decide +kernel
theorem d_M_findsChild_8 : decode (z_c m_M_findsChild) 8 = .ok (.irem, 1) := by decide +kernel
theorem d_M_findsChild_9 : decode (z_c m_M_findsChild) 9 = .ok (.iconst 1, 1) := by decide +kernel
theorem d_M_findsChild_10 : decode (z_c m_M_findsChild) 10 = .ok (.if_icmp .eq 9, 3) := by decide +kernel
theorem d_M_findsChild_13 : decode (z_c m_M_findsChild) 13 = .ok (.iinc 4 1, 3) := by decide +kernel
theorem d_M_findsChild_16 : decode (z_c m_M_findsChild) 16 = .ok (.goto (-13), 3) := by decide +kernel
theorem d_M_findsChild_19 : decode (z_c m_M_findsChild) 19 = .ok (.iload_n 1, 1) := by decide +kernel
theorem d_M_findsChild_20 : decode (z_c m_M_findsChild) 20 = .ok (.iload 4, 2) := by decide +kernel
theorem d_M_findsChild_22 : decode (z_c m_M_findsChild) 22 = .ok (.imul, 1) := by decide +kernel
theorem d_M_findsChild_23 : decode (z_c m_M_findsChild) 23 = .ok (.iconst 1, 1) := by decide +kernel
theorem d_M_findsChild_24 : decode (z_c m_M_findsChild) 24 = .ok (.isub, 1) := by decide +kernel
theorem d_M_findsChild_25 : decode (z_c m_M_findsChild) 25 = .ok (.iload_n 2, 1) := by decide +kernel
theorem d_M_findsChild_26 : decode (z_c m_M_findsChild) 26 = .ok (.idiv, 1) := by decide +kernel
theorem d_M_findsChild_27 : decode (z_c m_M_findsChild) 27 = .ok (.istore 5, 2) := by decide +kernel
theorem d_M_findsChild_29 : decode (z_c m_M_findsChild) 29 = .ok (.aload_n 0, 1) := by decide +kernel
theorem d_M_findsChild_30 : decode (z_c m_M_findsChild) 30 = .ok (.iload_n 3, 1) := by decide +kernel
theorem d_M_findsChild_31 : decode (z_c m_M_findsChild) 31 = .ok (.ifCond .ne 10, 3) := by decide +kernel
theorem d_M_findsChild_34 : decode (z_c m_M_findsChild) 34 = .ok (.iload_n 1, 1) := by decide +kernel
theorem d_M_findsChild_35 : decode (z_c m_M_findsChild) 35 = .ok (.iload 5, 2) := by decide +kernel
theorem d_M_findsChild_37 : decode (z_c m_M_findsChild) 37 = .ok (.iadd, 1) := by decide +kernel
theorem d_M_findsChild_38 : decode (z_c m_M_findsChild) 38 = .ok (.goto 9, 3) := by decide +kernel
theorem d_M_findsChild_41 : decode (z_c m_M_findsChild) 41 = .ok (.iconst 2, 1) := by decide +kernel
theorem d_M_findsChild_42 : decode (z_c m_M_findsChild) 42 = .ok (.iload_n 1, 1) := by decide +kernel
theorem d_M_findsChild_43 : decode (z_c m_M_findsChild) 43 = .ok (.imul, 1) := by decide +kernel
theorem d_M_findsChild_44 : decode (z_c m_M_findsChild) 44 = .ok (.iload 5, 2) := by decide +kernel
theorem d_M_findsChild_46 : decode (z_c m_M_findsChild) 46 = .ok (.isub, 1) := by decide +kernel
theorem d_M_findsChild_47 : decode (z_c m_M_findsChild) 47 = .ok (.putfield 300, 3) := by decide +kernel
theorem d_M_findsChild_50 : decode (z_c m_M_findsChild) 50 = .ok (.aload_n 0, 1) := by decide +kernel
theorem d_M_findsChild_51 : decode (z_c m_M_findsChild) 51 = .ok (.iload_n 3, 1) := by decide +kernel
theorem d_M_findsChild_52 : decode (z_c m_M_findsChild) 52 = .ok (.ifCond .ne 10, 3) := by decide +kernel
theorem d_M_findsChild_55 : decode (z_c m_M_findsChild) 55 = .ok (.iload_n 2, 1) := by decide +kernel
theorem d_M_findsChild_56 : decode (z_c m_M_findsChild) 56 = .ok (.iload 4, 2) := by decide +kernel
theorem d_M_findsChild_58 : decode (z_c m_M_findsChild) 58 = .ok (.iadd, 1) := by decide +kernel
theorem d_M_findsChild_59 : decode (z_c m_M_findsChild) 59 = .ok (.goto 9, 3) := by decide +kernel
theorem d_M_findsChild_62 : decode (z_c m_M_findsChild) 62 = .ok (.iconst 2, 1) := by decide +kernel
theorem d_M_findsChild_63 : decode (z_c m_M_findsChild) 63 = .ok (.iload_n 2, 1) := by decide +kernel
theorem d_M_findsChild_64 : decode (z_c m_M_findsChild) 64 = .ok (.imul, 1) := by decide +kernel
theorem d_M_findsChild_65 : decode (z_c m_M_findsChild) 65 = .ok (.iload 4, 2) := by decide +kernel
theorem d_M_findsChild_67 : decode (z_c m_M_findsChild) 67 = .ok (.isub, 1) := by decide +kernel
theorem d_M_findsChild_68 : decode (z_c m_M_findsChild) 68 = .ok (.putfield 303, 3) := by decide +kernel
theorem d_M_findsChild_71 : decode (z_c m_M_findsChild) 71 = .ok (.return_, 1) := by decide +kernel
abbrev L_M_findsChild_3 (X : z_X) (N : Nat) (σ : z_G) (x1 x2 x3 x4 : Int) (g : z_G) (Q : z_P) : Prop := z_U X 1 m_M_findsChild 3 [(0, (2, 0)), (1, (0, x1)), (2, (0, x2)), (3, (0, x3)), (4, (0, x4))] [] N σ g Q
set_option maxRecDepth 8000 in
theorem b_M_findsChild_0 {X : z_X} {N : Nat} {σ g : z_G} {Q : z_P} {a1 a2 a3 : Int} (hx : z_lay X N σ 0 z_SM z_RM) (h : L_M_findsChild_3 X N σ a1 a2 a3 1 g Q) : z_O X 1 m_M_findsChild [(2, 0), (0, a1), (0, a2), (0, a3)] N σ g Q := by
  refine z_Oenter mi_M_findsChild rfl (fun _ => ?_)
  show z_U X 1 m_M_findsChild 0 [(0, (2, 0)), (1, (0, a1)), (2, (0, a2)), (3, (0, a3))] [] N σ g Q
  refine z_iconst (n := 1) d_M_findsChild_0 (by decide) ?_
  refine z_istore (ls' := [(4, (0, 1)), (0, (2, 0)), (1, (0, a1)), (2, (0, a2)), (3, (0, a3))]) d_M_findsChild_1 rfl rfl ?_
  refine z_sub (ls' := [(0, (2, 0)), (1, (0, a1)), (2, (0, a2)), (3, (0, a3)), (4, (0, 1))]) [1, 2, 3, 4, 0] rfl ?_
  exact h
set_option maxRecDepth 8000 in
theorem b_M_findsChild_3 {X : z_X} {N : Nat} {σ g : z_G} {Q : z_P} {x1 x2 x3 x4 : Int} (hx : z_lay X N σ 0 z_SM z_RM) (h : (-2147483648 ≤ (x1 * x4) ∧ (x1 * x4) ≤ 2147483647) ∧ ((0 < x2) ∧ ((((Int.tmod (x1 * x4) x2) = 1) → ((-2147483648 ≤ ((x1 * x4) - 1) ∧ ((x1 * x4) - 1) ≤ 2147483647) ∧ (((x3 = 0) → ((-2147483648 ≤ (x1 + (Int.tdiv ((x1 * x4) - 1) x2)) ∧ (x1 + (Int.tdiv ((x1 * x4) - 1) x2)) ≤ 2147483647) ∧ ((-2147483648 ≤ (x2 + x4) ∧ (x2 + x4) ≤ 2147483647) ∧ Q 0 (z_up (z_up g 0 28 (x1 + (Int.tdiv ((x1 * x4) - 1) x2))) 0 29 (x2 + x4))))) ∧ (¬ (x3 = 0) → ((-2147483648 ≤ (2 * x1) ∧ (2 * x1) ≤ 2147483647) ∧ ((-2147483648 ≤ ((2 * x1) - (Int.tdiv ((x1 * x4) - 1) x2)) ∧ ((2 * x1) - (Int.tdiv ((x1 * x4) - 1) x2)) ≤ 2147483647) ∧ ((-2147483648 ≤ (2 * x2) ∧ (2 * x2) ≤ 2147483647) ∧ ((-2147483648 ≤ ((2 * x2) - x4) ∧ ((2 * x2) - x4) ≤ 2147483647) ∧ Q 0 (z_up (z_up g 0 28 ((2 * x1) - (Int.tdiv ((x1 * x4) - 1) x2))) 0 29 ((2 * x2) - x4)))))))))) ∧ (¬ ((Int.tmod (x1 * x4) x2) = 1) → ((-2147483648 ≤ (x4 + 1) ∧ (x4 + 1) ≤ 2147483647) ∧ L_M_findsChild_3 X N σ x1 x2 x3 (x4 + 1) g Q))))) : L_M_findsChild_3 X N σ x1 x2 x3 x4 g Q := by
  refine z_iload_n (i := 1) 1 d_M_findsChild_3 rfl rfl ?_
  refine z_iload 4 d_M_findsChild_4 rfl ?_
  obtain ⟨c1, h⟩ := h
  refine z_imul d_M_findsChild_6 c1 ?_
  refine z_iload_n (i := 2) 2 d_M_findsChild_7 rfl rfl ?_
  obtain ⟨c2, h⟩ := h
  refine z_irem d_M_findsChild_8 c2 ?_
  refine z_iconst (n := 1) d_M_findsChild_9 (by decide) ?_
  refine z_icmp_eq (tgt := 19) d_M_findsChild_10 (by decide) (fun c3 => ?_) (fun c3 => ?_)
  · have h := h.1 c3
    refine z_iload_n (i := 1) 1 d_M_findsChild_19 rfl rfl ?_
    refine z_iload 4 d_M_findsChild_20 rfl ?_
    refine z_imul d_M_findsChild_22 c1 ?_
    refine z_iconst (n := 1) d_M_findsChild_23 (by decide) ?_
    obtain ⟨c4, h⟩ := h
    refine z_isub d_M_findsChild_24 c4 ?_
    refine z_iload_n (i := 2) 2 d_M_findsChild_25 rfl rfl ?_
    refine z_idiv d_M_findsChild_26 c2 ?_
    refine z_istore (ls' := [(5, (0, Int.tdiv ((x1 * x4) - 1) x2)), (0, (2, 0)), (1, (0, x1)), (2, (0, x2)), (3, (0, x3)), (4, (0, x4))]) d_M_findsChild_27 rfl rfl ?_
    refine z_aload_n (i := 0) (c := 0) 1 d_M_findsChild_29 rfl rfl rfl ?_
    refine z_iload_n (i := 3) 4 d_M_findsChild_30 rfl rfl ?_
    refine z_if_ne (tgt := 41) d_M_findsChild_31 (by decide) (fun c5 => ?_) (fun c5 => ?_)
    · have h := h.2 c5
      refine z_iconst (n := 2) d_M_findsChild_41 (by decide) ?_
      refine z_iload_n (i := 1) 2 d_M_findsChild_42 rfl rfl ?_
      obtain ⟨c6, h⟩ := h
      refine z_imul d_M_findsChild_43 c6 ?_
      refine z_iload 0 d_M_findsChild_44 rfl ?_
      obtain ⟨c7, h⟩ := h
      refine z_isub d_M_findsChild_46 c7 ?_
      refine z_puti (c := 0) (kI := 28) d_M_findsChild_47 fd_M_foundTop fl_M_300 pf_M_foundTop rfl rfl rfl rfl (ks_M_0 hx) (kl_M_0 hx) ?_
      refine z_aload_n (i := 0) (c := 0) 1 d_M_findsChild_50 rfl rfl rfl ?_
      refine z_iload_n (i := 3) 4 d_M_findsChild_51 rfl rfl ?_
      refine z_if_ne (tgt := 62) d_M_findsChild_52 (by decide) (fun _ => ?_) (fun c => absurd c c5)
      refine z_iconst (n := 2) d_M_findsChild_62 (by decide) ?_
      refine z_iload_n (i := 2) 3 d_M_findsChild_63 rfl rfl ?_
      obtain ⟨c8, h⟩ := h
      refine z_imul d_M_findsChild_64 c8 ?_
      refine z_iload 5 d_M_findsChild_65 rfl ?_
      obtain ⟨c9, h⟩ := h
      refine z_isub d_M_findsChild_67 c9 ?_
      refine z_puti (c := 0) (kI := 29) d_M_findsChild_68 fd_M_foundBottom fl_M_303 pf_M_foundBottom rfl rfl rfl rfl (ks_M_0 hx) (kl_M_0 hx) ?_
      exact z_vret d_M_findsChild_71 rfl (by decide) (by decide) ⟨rfl, rfl, h⟩
    · have h := h.1 c5
      refine z_iload_n (i := 1) 2 d_M_findsChild_34 rfl rfl ?_
      refine z_iload 0 d_M_findsChild_35 rfl ?_
      obtain ⟨c10, h⟩ := h
      refine z_iadd d_M_findsChild_37 c10 ?_
      refine z_goto (tgt := 47) d_M_findsChild_38 (by decide) ?_
      refine z_puti (c := 0) (kI := 28) d_M_findsChild_47 fd_M_foundTop fl_M_300 pf_M_foundTop rfl rfl rfl rfl (ks_M_0 hx) (kl_M_0 hx) ?_
      refine z_aload_n (i := 0) (c := 0) 1 d_M_findsChild_50 rfl rfl rfl ?_
      refine z_iload_n (i := 3) 4 d_M_findsChild_51 rfl rfl ?_
      refine z_if_ne (tgt := 62) d_M_findsChild_52 (by decide) (fun c => absurd c5 c) (fun _ => ?_)
      refine z_iload_n (i := 2) 3 d_M_findsChild_55 rfl rfl ?_
      refine z_iload 5 d_M_findsChild_56 rfl ?_
      obtain ⟨c11, h⟩ := h
      refine z_iadd d_M_findsChild_58 c11 ?_
      refine z_goto (tgt := 68) d_M_findsChild_59 (by decide) ?_
      refine z_puti (c := 0) (kI := 29) d_M_findsChild_68 fd_M_foundBottom fl_M_303 pf_M_foundBottom rfl rfl rfl rfl (ks_M_0 hx) (kl_M_0 hx) ?_
      exact z_vret d_M_findsChild_71 rfl (by decide) (by decide) ⟨rfl, rfl, h⟩
  · have h := h.2 c3
    obtain ⟨c12, h⟩ := h
    refine z_iinc (n := 1) (ls' := [(4, (0, x4 + 1)), (0, (2, 0)), (1, (0, x1)), (2, (0, x2)), (3, (0, x3))]) 4 d_M_findsChild_13 rfl c12 rfl rfl ?_
    refine z_goto (tgt := 3) d_M_findsChild_16 (by decide) ?_
    refine z_sub (ls' := [(0, (2, 0)), (1, (0, x1)), (2, (0, x2)), (3, (0, x3)), (4, (0, x4 + 1))]) [1, 2, 3, 4, 0] rfl ?_
    exact h
theorem d_M_four_0 : decode (z_c m_M_four) 0 = .ok (.bipush 24, 2) := by decide +kernel
theorem d_M_four_2 : decode (z_c m_M_four) 2 = .ok (.istore_n 2, 1) := by decide +kernel
theorem d_M_four_3 : decode (z_c m_M_four) 3 = .ok (.iload_n 2, 1) := by decide +kernel
theorem d_M_four_4 : decode (z_c m_M_four) 4 = .ok (.ifCond .lt 32, 3) := by decide +kernel
theorem d_M_four_7 : decode (z_c m_M_four) 7 = .ok (.aload_n 0, 1) := by decide +kernel
theorem d_M_four_8 : decode (z_c m_M_four) 8 = .ok (.getfield 27, 3) := by decide +kernel
theorem d_M_four_11 : decode (z_c m_M_four) 11 = .ok (.aload_n 0, 1) := by decide +kernel
theorem d_M_four_12 : decode (z_c m_M_four) 12 = .ok (.getfield 111, 3) := by decide +kernel
theorem d_M_four_15 : decode (z_c m_M_four) 15 = .ok (.iload_n 1, 1) := by decide +kernel
theorem d_M_four_16 : decode (z_c m_M_four) 16 = .ok (.iload_n 2, 1) := by decide +kernel
theorem d_M_four_17 : decode (z_c m_M_four) 17 = .ok (.ishr, 1) := by decide +kernel
theorem d_M_four_18 : decode (z_c m_M_four) 18 = .ok (.i2b, 1) := by decide +kernel
theorem d_M_four_19 : decode (z_c m_M_four) 19 = .ok (.bastore, 1) := by decide +kernel
theorem d_M_four_20 : decode (z_c m_M_four) 20 = .ok (.aload_n 0, 1) := by decide +kernel
theorem d_M_four_21 : decode (z_c m_M_four) 21 = .ok (.dup, 1) := by decide +kernel
theorem d_M_four_22 : decode (z_c m_M_four) 22 = .ok (.getfield 111, 3) := by decide +kernel
theorem d_M_four_25 : decode (z_c m_M_four) 25 = .ok (.iconst 1, 1) := by decide +kernel
theorem d_M_four_26 : decode (z_c m_M_four) 26 = .ok (.iadd, 1) := by decide +kernel
theorem d_M_four_27 : decode (z_c m_M_four) 27 = .ok (.putfield 111, 3) := by decide +kernel
theorem d_M_four_30 : decode (z_c m_M_four) 30 = .ok (.iinc 2 (-8), 3) := by decide +kernel
theorem d_M_four_33 : decode (z_c m_M_four) 33 = .ok (.goto (-30), 3) := by decide +kernel
theorem d_M_four_36 : decode (z_c m_M_four) 36 = .ok (.return_, 1) := by decide +kernel
abbrev L_M_four_3 (X : z_X) (N : Nat) (σ : z_G) (x1 x2 : Int) (g : z_G) (Q : z_P) : Prop := z_U X 1 m_M_four 3 [(0, (2, 0)), (1, (0, x1)), (2, (0, x2))] [] N σ g Q
set_option maxRecDepth 8000 in
theorem b_M_four_0 {X : z_X} {N : Nat} {σ g : z_G} {Q : z_P} {a1 : Int} (hx : z_lay X N σ 0 z_SM z_RM) (h : L_M_four_3 X N σ a1 24 g Q) : z_O X 1 m_M_four [(2, 0), (0, a1)] N σ g Q := by
  refine z_Oenter mi_M_four rfl (fun _ => ?_)
  show z_U X 1 m_M_four 0 [(0, (2, 0)), (1, (0, a1))] [] N σ g Q
  refine z_bipush (n := 24) d_M_four_0 (by decide) (by decide) ?_
  refine z_istore_n (i := 2) (ls' := [(2, (0, 24)), (0, (2, 0)), (1, (0, a1))]) d_M_four_2 rfl rfl rfl ?_
  refine z_sub (ls' := [(0, (2, 0)), (1, (0, a1)), (2, (0, 24))]) [1, 2, 0] rfl ?_
  exact h
set_option maxRecDepth 8000 in
theorem b_M_four_3 {X : z_X} {N : Nat} {σ g : z_G} {Q : z_P} {x1 x2 : Int} (hx : z_lay X N σ 0 z_SM z_RM) (h : ((x2 < 0) → Q 0 g) ∧ (¬ (x2 < 0) → ((0 ≤ (g 0 9) ∧ (g 0 9) < 900) ∧ ((-128 ≤ (Int.bmod (Int32.toInt (Int32.ofInt x1 >>> (Int32.ofInt x2 &&& 31))) 256) ∧ (Int.bmod (Int32.toInt (Int32.ofInt x1 >>> (Int32.ofInt x2 &&& 31))) 256) ≤ 127) ∧ ((-2147483648 ≤ ((g 0 9) + 1) ∧ ((g 0 9) + 1) ≤ 2147483647) ∧ ((-2147483648 ≤ (x2 + (-8)) ∧ (x2 + (-8)) ≤ 2147483647) ∧ L_M_four_3 X N σ x1 (x2 + (-8)) (z_up (z_up g 5 (g 0 9) (Int.bmod (Int32.toInt (Int32.ofInt x1 >>> (Int32.ofInt x2 &&& 31))) 256)) 0 9 ((g 0 9) + 1)) Q)))))) : L_M_four_3 X N σ x1 x2 g Q := by
  refine z_iload_n (i := 2) 2 d_M_four_3 rfl rfl ?_
  refine z_if_lt (tgt := 36) d_M_four_4 (by decide) (fun c1 => ?_) (fun c1 => ?_)
  · have h := h.1 c1
    exact z_vret d_M_four_36 rfl (by decide) (by decide) ⟨rfl, rfl, h⟩
  · have h := h.2 c1
    refine z_aload_n (i := 0) (c := 0) 0 d_M_four_7 rfl rfl rfl ?_
    refine z_getr (c := 0) (kI := 7) (r2 := 5) d_M_four_8 fd_M_tape fl_M_27 rfl rfl rfl (ks_M_0 hx) (kl_M_0 hx) (kr_M_0_7 hx) ?_
    refine z_aload_n (i := 0) (c := 0) 0 d_M_four_11 rfl rfl rfl ?_
    refine z_geti (c := 0) (kI := 9) d_M_four_12 fd_M_taped fl_M_111 (Or.inl rfl) rfl rfl (ks_M_0 hx) (kl_M_0 hx) ?_
    refine z_iload_n (i := 1) 1 d_M_four_15 rfl rfl ?_
    refine z_iload_n (i := 2) 2 d_M_four_16 rfl rfl ?_
    refine z_ishr d_M_four_17 ?_
    refine z_i2b d_M_four_18 ?_
    obtain ⟨c2, h⟩ := h
    obtain ⟨c3, h⟩ := h
    refine z_bast (c := 5) (m := 900) d_M_four_19 rfl (ks_M_5 hx) (kl_M_5 hx) rfl (by decide) c2 c3 ?_
    refine z_aload_n (i := 0) (c := 0) 0 d_M_four_20 rfl rfl rfl ?_
    refine z_dup d_M_four_21 rfl ?_
    refine z_geti (c := 0) (kI := 9) d_M_four_22 fd_M_taped fl_M_111 (Or.inl rfl) rfl rfl (ks_M_0 hx) (kl_M_0 hx) ?_
    refine z_ti (b := g 0 9) (by simp [z_up]) ?_
    refine z_iconst (n := 1) d_M_four_25 (by decide) ?_
    obtain ⟨c4, h⟩ := h
    refine z_iadd d_M_four_26 c4 ?_
    refine z_puti (c := 0) (kI := 9) d_M_four_27 fd_M_taped fl_M_111 pf_M_taped rfl rfl rfl rfl (ks_M_0 hx) (kl_M_0 hx) ?_
    obtain ⟨c5, h⟩ := h
    refine z_iinc (n := (-8)) (ls' := [(2, (0, x2 + (-8))), (0, (2, 0)), (1, (0, x1))]) 2 d_M_four_30 rfl c5 rfl rfl ?_
    refine z_goto (tgt := 3) d_M_four_33 (by decide) ?_
    refine z_sub (ls' := [(0, (2, 0)), (1, (0, x1)), (2, (0, x2 + (-8)))]) [1, 2, 0] rfl ?_
    exact h
theorem d_M_gives_0 : decode (z_c m_M_gives) 0 = .ok (.aload_n 0, 1) := by decide +kernel
theorem d_M_gives_1 : decode (z_c m_M_gives) 1 = .ok (.iconst 0, 1) := by decide +kernel
theorem d_M_gives_2 : decode (z_c m_M_gives) 2 = .ok (.putfield 81, 3) := by decide +kernel
theorem d_M_gives_5 : decode (z_c m_M_gives) 5 = .ok (.iload_n 1, 1) := by decide +kernel
theorem d_M_gives_6 : decode (z_c m_M_gives) 6 = .ok (.ireturn, 1) := by decide +kernel
set_option maxRecDepth 8000 in
theorem b_M_gives_0 {X : z_X} {N : Nat} {σ g : z_G} {Q : z_P} {a1 : Int} (hx : z_lay X N σ 0 z_SM z_RM) (h : Q a1 (z_up g 0 1 0)) : z_O X 1 m_M_gives [(2, 0), (0, a1)] N σ g Q := by
  refine z_Oenter mi_M_gives rfl (fun _ => ?_)
  show z_U X 1 m_M_gives 0 [(0, (2, 0)), (1, (0, a1))] [] N σ g Q
  refine z_aload_n (i := 0) (c := 0) 0 d_M_gives_0 rfl rfl rfl ?_
  refine z_iconst (n := 0) d_M_gives_1 (by decide) ?_
  refine z_puti (c := 0) (kI := 1) d_M_gives_2 fd_M_status fl_M_81 pf_M_status rfl rfl rfl rfl (ks_M_0 hx) (kl_M_0 hx) ?_
  refine z_iload_n (i := 1) 1 d_M_gives_5 rfl rfl ?_
  exact z_iret d_M_gives_6 rfl (by decide) (by decide) ⟨rfl, rfl, h⟩
theorem d_M_is_0 : decode (z_c m_M_is) 0 = .ok (.aload_n 0, 1) := by decide +kernel
theorem d_M_is_1 : decode (z_c m_M_is) 1 = .ok (.iload_n 1, 1) := by decide +kernel
theorem d_M_is_2 : decode (z_c m_M_is) 2 = .ok (.putfield 81, 3) := by decide +kernel
theorem d_M_is_5 : decode (z_c m_M_is) 5 = .ok (.iload_n 1, 1) := by decide +kernel
theorem d_M_is_6 : decode (z_c m_M_is) 6 = .ok (.ifCond .ne 7, 3) := by decide +kernel
theorem d_M_is_9 : decode (z_c m_M_is) 9 = .ok (.iconst 1, 1) := by decide +kernel
theorem d_M_is_10 : decode (z_c m_M_is) 10 = .ok (.goto 4, 3) := by decide +kernel
theorem d_M_is_13 : decode (z_c m_M_is) 13 = .ok (.iconst 0, 1) := by decide +kernel
theorem d_M_is_14 : decode (z_c m_M_is) 14 = .ok (.ireturn, 1) := by decide +kernel
set_option maxRecDepth 8000 in
theorem b_M_is_0 {X : z_X} {N : Nat} {σ g : z_G} {Q : z_P} {a1 : Int} (hx : z_lay X N σ 0 z_SM z_RM) (h : ((a1 = 0) → Q 1 (z_up g 0 1 a1)) ∧ (¬ (a1 = 0) → Q 0 (z_up g 0 1 a1))) : z_O X 1 m_M_is [(2, 0), (0, a1)] N σ g Q := by
  refine z_Oenter mi_M_is rfl (fun _ => ?_)
  show z_U X 1 m_M_is 0 [(0, (2, 0)), (1, (0, a1))] [] N σ g Q
  refine z_aload_n (i := 0) (c := 0) 0 d_M_is_0 rfl rfl rfl ?_
  refine z_iload_n (i := 1) 1 d_M_is_1 rfl rfl ?_
  refine z_puti (c := 0) (kI := 1) d_M_is_2 fd_M_status fl_M_81 pf_M_status rfl rfl rfl rfl (ks_M_0 hx) (kl_M_0 hx) ?_
  refine z_iload_n (i := 1) 1 d_M_is_5 rfl rfl ?_
  refine z_if_ne (tgt := 13) d_M_is_6 (by decide) (fun c1 => ?_) (fun c1 => ?_)
  · have h := h.2 c1
    refine z_iconst (n := 0) d_M_is_13 (by decide) ?_
    exact z_zret d_M_is_14 rfl (by decide) (by decide) (by decide) ⟨rfl, rfl, h⟩
  · have h := h.1 c1
    refine z_iconst (n := 1) d_M_is_9 (by decide) ?_
    refine z_goto (tgt := 14) d_M_is_10 (by decide) ?_
    exact z_zret d_M_is_14 rfl (by decide) (by decide) (by decide) ⟨rfl, rfl, h⟩
theorem d_M_isAt_0 : decode (z_c m_M_isAt) 0 = .ok (.iload_n 1, 1) := by decide +kernel
theorem d_M_isAt_1 : decode (z_c m_M_isAt) 1 = .ok (.aload_n 0, 1) := by decide +kernel
theorem d_M_isAt_2 : decode (z_c m_M_isAt) 2 = .ok (.getfield 237, 3) := by decide +kernel
theorem d_M_isAt_5 : decode (z_c m_M_isAt) 5 = .ok (.if_icmp .ge 26, 3) := by decide +kernel
theorem d_M_isAt_8 : decode (z_c m_M_isAt) 8 = .ok (.aload_n 0, 1) := by decide +kernel
theorem d_M_isAt_9 : decode (z_c m_M_isAt) 9 = .ok (.getfield 44, 3) := by decide +kernel
theorem d_M_isAt_12 : decode (z_c m_M_isAt) 12 = .ok (.iload_n 1, 1) := by decide +kernel
theorem d_M_isAt_13 : decode (z_c m_M_isAt) 13 = .ok (.iaload, 1) := by decide +kernel
theorem d_M_isAt_14 : decode (z_c m_M_isAt) 14 = .ok (.iload_n 3, 1) := by decide +kernel
theorem d_M_isAt_15 : decode (z_c m_M_isAt) 15 = .ok (.imul, 1) := by decide +kernel
theorem d_M_isAt_16 : decode (z_c m_M_isAt) 16 = .ok (.iload_n 2, 1) := by decide +kernel
theorem d_M_isAt_17 : decode (z_c m_M_isAt) 17 = .ok (.aload_n 0, 1) := by decide +kernel
theorem d_M_isAt_18 : decode (z_c m_M_isAt) 18 = .ok (.getfield 47, 3) := by decide +kernel
theorem d_M_isAt_21 : decode (z_c m_M_isAt) 21 = .ok (.iload_n 1, 1) := by decide +kernel
theorem d_M_isAt_22 : decode (z_c m_M_isAt) 22 = .ok (.iaload, 1) := by decide +kernel
theorem d_M_isAt_23 : decode (z_c m_M_isAt) 23 = .ok (.imul, 1) := by decide +kernel
theorem d_M_isAt_24 : decode (z_c m_M_isAt) 24 = .ok (.if_icmp .ne 7, 3) := by decide +kernel
theorem d_M_isAt_27 : decode (z_c m_M_isAt) 27 = .ok (.iconst 1, 1) := by decide +kernel
theorem d_M_isAt_28 : decode (z_c m_M_isAt) 28 = .ok (.goto 4, 3) := by decide +kernel
theorem d_M_isAt_31 : decode (z_c m_M_isAt) 31 = .ok (.iconst 0, 1) := by decide +kernel
theorem d_M_isAt_32 : decode (z_c m_M_isAt) 32 = .ok (.ireturn, 1) := by decide +kernel
set_option maxRecDepth 8000 in
theorem b_M_isAt_0 {X : z_X} {N : Nat} {σ g : z_G} {Q : z_P} {a1 a2 a3 : Int} (hx : z_lay X N σ 0 z_SM z_RM) (h : (((g 0 24) ≤ a1) → Q 0 g) ∧ (¬ ((g 0 24) ≤ a1) → ((0 ≤ a1 ∧ a1 < 12233) ∧ ((-2147483648 ≤ ((g 8 a1) * a3) ∧ ((g 8 a1) * a3) ≤ 2147483647) ∧ ((-2147483648 ≤ (a2 * (g 9 a1)) ∧ (a2 * (g 9 a1)) ≤ 2147483647) ∧ (((((g 8 a1) * a3) = (a2 * (g 9 a1))) → Q 1 g) ∧ (¬ (((g 8 a1) * a3) = (a2 * (g 9 a1))) → Q 0 g))))))) : z_O X 1 m_M_isAt [(2, 0), (0, a1), (0, a2), (0, a3)] N σ g Q := by
  refine z_Oenter mi_M_isAt rfl (fun _ => ?_)
  show z_U X 1 m_M_isAt 0 [(0, (2, 0)), (1, (0, a1)), (2, (0, a2)), (3, (0, a3))] [] N σ g Q
  refine z_iload_n (i := 1) 1 d_M_isAt_0 rfl rfl ?_
  refine z_aload_n (i := 0) (c := 0) 0 d_M_isAt_1 rfl rfl rfl ?_
  refine z_geti (c := 0) (kI := 24) d_M_isAt_2 fd_M_many fl_M_237 (Or.inl rfl) rfl rfl (ks_M_0 hx) (kl_M_0 hx) ?_
  refine z_icmp_ge (tgt := 31) d_M_isAt_5 (by decide) (fun c1 => ?_) (fun c1 => ?_)
  · have h := h.1 c1
    refine z_iconst (n := 0) d_M_isAt_31 (by decide) ?_
    exact z_zret d_M_isAt_32 rfl (by decide) (by decide) (by decide) ⟨rfl, rfl, h⟩
  · have h := h.2 c1
    refine z_aload_n (i := 0) (c := 0) 0 d_M_isAt_8 rfl rfl rfl ?_
    refine z_getr (c := 0) (kI := 22) (r2 := 8) d_M_isAt_9 fd_M_topBy fl_M_44 rfl rfl rfl (ks_M_0 hx) (kl_M_0 hx) (kr_M_0_22 hx) ?_
    refine z_iload_n (i := 1) 1 d_M_isAt_12 rfl rfl ?_
    obtain ⟨c2, h⟩ := h
    refine z_iald (c := 8) (m := 12233) d_M_isAt_13 rfl (ks_M_8 hx) (kl_M_8 hx) rfl (by decide) c2 ?_
    refine z_iload_n (i := 3) 3 d_M_isAt_14 rfl rfl ?_
    obtain ⟨c3, h⟩ := h
    refine z_imul d_M_isAt_15 c3 ?_
    refine z_iload_n (i := 2) 2 d_M_isAt_16 rfl rfl ?_
    refine z_aload_n (i := 0) (c := 0) 0 d_M_isAt_17 rfl rfl rfl ?_
    refine z_getr (c := 0) (kI := 23) (r2 := 9) d_M_isAt_18 fd_M_bottomBy fl_M_47 rfl rfl rfl (ks_M_0 hx) (kl_M_0 hx) (kr_M_0_23 hx) ?_
    refine z_iload_n (i := 1) 1 d_M_isAt_21 rfl rfl ?_
    refine z_iald (c := 9) (m := 12233) d_M_isAt_22 rfl (ks_M_9 hx) (kl_M_9 hx) rfl (by decide) c2 ?_
    obtain ⟨c4, h⟩ := h
    refine z_imul d_M_isAt_23 c4 ?_
    refine z_icmp_ne (tgt := 31) d_M_isAt_24 (by decide) (fun c5 => ?_) (fun c5 => ?_)
    · have h := h.2 c5
      refine z_iconst (n := 0) d_M_isAt_31 (by decide) ?_
      exact z_zret d_M_isAt_32 rfl (by decide) (by decide) (by decide) ⟨rfl, rfl, h⟩
    · have h := h.1 c5
      refine z_iconst (n := 1) d_M_isAt_27 (by decide) ?_
      refine z_goto (tgt := 32) d_M_isAt_28 (by decide) ?_
      exact z_zret d_M_isAt_32 rfl (by decide) (by decide) (by decide) ⟨rfl, rfl, h⟩
theorem d_M_isDigit_0 : decode (z_c m_M_isDigit) 0 = .ok (.iload_n 0, 1) := by decide +kernel
theorem d_M_isDigit_1 : decode (z_c m_M_isDigit) 1 = .ok (.bipush 48, 2) := by decide +kernel
theorem d_M_isDigit_3 : decode (z_c m_M_isDigit) 3 = .ok (.if_icmp .lt 13, 3) := by decide +kernel
theorem d_M_isDigit_6 : decode (z_c m_M_isDigit) 6 = .ok (.iload_n 0, 1) := by decide +kernel
theorem d_M_isDigit_7 : decode (z_c m_M_isDigit) 7 = .ok (.bipush 57, 2) := by decide +kernel
theorem d_M_isDigit_9 : decode (z_c m_M_isDigit) 9 = .ok (.if_icmp .gt 7, 3) := by decide +kernel
theorem d_M_isDigit_12 : decode (z_c m_M_isDigit) 12 = .ok (.iconst 1, 1) := by decide +kernel
theorem d_M_isDigit_13 : decode (z_c m_M_isDigit) 13 = .ok (.goto 4, 3) := by decide +kernel
theorem d_M_isDigit_16 : decode (z_c m_M_isDigit) 16 = .ok (.iconst 0, 1) := by decide +kernel
theorem d_M_isDigit_17 : decode (z_c m_M_isDigit) 17 = .ok (.ireturn, 1) := by decide +kernel
set_option maxRecDepth 8000 in
theorem b_M_isDigit_0 {X : z_X} {N : Nat} {σ g : z_G} {Q : z_P} {a0 : Int} (h : ((a0 < 48) → Q 0 g) ∧ (¬ (a0 < 48) → (((57 < a0) → Q 0 g) ∧ (¬ (57 < a0) → Q 1 g)))) : z_O X 1 m_M_isDigit [(0, a0)] N σ g Q := by
  refine z_Oenter mi_M_isDigit rfl (fun _ => ?_)
  show z_U X 1 m_M_isDigit 0 [(0, (0, a0))] [] N σ g Q
  refine z_iload_n (i := 0) 0 d_M_isDigit_0 rfl rfl ?_
  refine z_bipush (n := 48) d_M_isDigit_1 (by decide) (by decide) ?_
  refine z_icmp_lt (tgt := 16) d_M_isDigit_3 (by decide) (fun c1 => ?_) (fun c1 => ?_)
  · have h := h.1 c1
    refine z_iconst (n := 0) d_M_isDigit_16 (by decide) ?_
    exact z_zret d_M_isDigit_17 rfl (by decide) (by decide) (by decide) ⟨rfl, rfl, h⟩
  · have h := h.2 c1
    refine z_iload_n (i := 0) 0 d_M_isDigit_6 rfl rfl ?_
    refine z_bipush (n := 57) d_M_isDigit_7 (by decide) (by decide) ?_
    refine z_icmp_gt (tgt := 16) d_M_isDigit_9 (by decide) (fun c2 => ?_) (fun c2 => ?_)
    · have h := h.1 c2
      refine z_iconst (n := 0) d_M_isDigit_16 (by decide) ?_
      exact z_zret d_M_isDigit_17 rfl (by decide) (by decide) (by decide) ⟨rfl, rfl, h⟩
    · have h := h.2 c2
      refine z_iconst (n := 1) d_M_isDigit_12 (by decide) ?_
      refine z_goto (tgt := 17) d_M_isDigit_13 (by decide) ?_
      exact z_zret d_M_isDigit_17 rfl (by decide) (by decide) (by decide) ⟨rfl, rfl, h⟩
theorem d_M_isFrom_0 : decode (z_c m_M_isFrom) 0 = .ok (.lload_n 0, 1) := by decide +kernel
theorem d_M_isFrom_1 : decode (z_c m_M_isFrom) 1 = .ok (.lload_n 2, 1) := by decide +kernel
theorem d_M_isFrom_2 : decode (z_c m_M_isFrom) 2 = .ok (.lcmp, 1) := by decide +kernel
theorem d_M_isFrom_3 : decode (z_c m_M_isFrom) 3 = .ok (.ifCond .lt 14, 3) := by decide +kernel
theorem d_M_isFrom_6 : decode (z_c m_M_isFrom) 6 = .ok (.lload_n 0, 1) := by decide +kernel
theorem d_M_isFrom_7 : decode (z_c m_M_isFrom) 7 = .ok (.lload 4, 2) := by decide +kernel
theorem d_M_isFrom_9 : decode (z_c m_M_isFrom) 9 = .ok (.lcmp, 1) := by decide +kernel
theorem d_M_isFrom_10 : decode (z_c m_M_isFrom) 10 = .ok (.ifCond .gt 7, 3) := by decide +kernel
theorem d_M_isFrom_13 : decode (z_c m_M_isFrom) 13 = .ok (.iconst 1, 1) := by decide +kernel
theorem d_M_isFrom_14 : decode (z_c m_M_isFrom) 14 = .ok (.goto 4, 3) := by decide +kernel
theorem d_M_isFrom_17 : decode (z_c m_M_isFrom) 17 = .ok (.iconst 0, 1) := by decide +kernel
theorem d_M_isFrom_18 : decode (z_c m_M_isFrom) 18 = .ok (.ireturn, 1) := by decide +kernel
set_option maxRecDepth 8000 in
theorem b_M_isFrom_0 {X : z_X} {N : Nat} {σ g : z_G} {Q : z_P} {a0 a2 a4 : Int} (h : ((a0 < a2) → Q 0 g) ∧ (¬ (a0 < a2) → (((a4 < a0) → Q 0 g) ∧ (¬ (a4 < a0) → Q 1 g)))) : z_O X 1 m_M_isFrom [(1, a0), (1, a2), (1, a4)] N σ g Q := by
  refine z_Oenter mi_M_isFrom rfl (fun _ => ?_)
  show z_U X 1 m_M_isFrom 0 [(0, (1, a0)), (2, (1, a2)), (4, (1, a4))] [] N σ g Q
  refine z_lload_n (i := 0) 0 d_M_isFrom_0 rfl rfl ?_
  refine z_lload_n (i := 2) 1 d_M_isFrom_1 rfl rfl ?_
  refine z_lcmp_lt (tgt := 17) d_M_isFrom_2 d_M_isFrom_3 (by decide) (fun c1 => ?_) (fun c1 => ?_)
  · have h := h.1 c1
    refine z_iconst (n := 0) d_M_isFrom_17 (by decide) ?_
    exact z_zret d_M_isFrom_18 rfl (by decide) (by decide) (by decide) ⟨rfl, rfl, h⟩
  · have h := h.2 c1
    refine z_lload_n (i := 0) 0 d_M_isFrom_6 rfl rfl ?_
    refine z_lload 2 d_M_isFrom_7 rfl ?_
    refine z_lcmp_gt (tgt := 17) d_M_isFrom_9 d_M_isFrom_10 (by decide) (fun c2 => ?_) (fun c2 => ?_)
    · have h := h.1 c2
      refine z_iconst (n := 0) d_M_isFrom_17 (by decide) ?_
      exact z_zret d_M_isFrom_18 rfl (by decide) (by decide) (by decide) ⟨rfl, rfl, h⟩
    · have h := h.2 c2
      refine z_iconst (n := 1) d_M_isFrom_13 (by decide) ?_
      refine z_goto (tgt := 18) d_M_isFrom_14 (by decide) ?_
      exact z_zret d_M_isFrom_18 rfl (by decide) (by decide) (by decide) ⟨rfl, rfl, h⟩
theorem d_M_isIn_0 : decode (z_c m_M_isIn) 0 = .ok (.iload_n 0, 1) := by decide +kernel
theorem d_M_isIn_1 : decode (z_c m_M_isIn) 1 = .ok (.iload_n 1, 1) := by decide +kernel
theorem d_M_isIn_2 : decode (z_c m_M_isIn) 2 = .ok (.ishr, 1) := by decide +kernel
theorem d_M_isIn_3 : decode (z_c m_M_isIn) 3 = .ok (.iconst 1, 1) := by decide +kernel
theorem d_M_isIn_4 : decode (z_c m_M_isIn) 4 = .ok (.iand, 1) := by decide +kernel
theorem d_M_isIn_5 : decode (z_c m_M_isIn) 5 = .ok (.iconst 1, 1) := by decide +kernel
theorem d_M_isIn_6 : decode (z_c m_M_isIn) 6 = .ok (.if_icmp .ne 7, 3) := by decide +kernel
theorem d_M_isIn_9 : decode (z_c m_M_isIn) 9 = .ok (.iconst 1, 1) := by decide +kernel
theorem d_M_isIn_10 : decode (z_c m_M_isIn) 10 = .ok (.goto 4, 3) := by decide +kernel
theorem d_M_isIn_13 : decode (z_c m_M_isIn) 13 = .ok (.iconst 0, 1) := by decide +kernel
theorem d_M_isIn_14 : decode (z_c m_M_isIn) 14 = .ok (.ireturn, 1) := by decide +kernel
set_option maxRecDepth 8000 in
theorem b_M_isIn_0 {X : z_X} {N : Nat} {σ g : z_G} {Q : z_P} {a0 a1 : Int} (h : (((Int32.toInt (Int32.ofInt (Int32.toInt (Int32.ofInt a0 >>> (Int32.ofInt a1 &&& 31))) &&& Int32.ofInt 1)) = 1) → Q 1 g) ∧ (¬ ((Int32.toInt (Int32.ofInt (Int32.toInt (Int32.ofInt a0 >>> (Int32.ofInt a1 &&& 31))) &&& Int32.ofInt 1)) = 1) → Q 0 g)) : z_O X 1 m_M_isIn [(0, a0), (0, a1)] N σ g Q := by
  refine z_Oenter mi_M_isIn rfl (fun _ => ?_)
  show z_U X 1 m_M_isIn 0 [(0, (0, a0)), (1, (0, a1))] [] N σ g Q
  refine z_iload_n (i := 0) 0 d_M_isIn_0 rfl rfl ?_
  refine z_iload_n (i := 1) 1 d_M_isIn_1 rfl rfl ?_
  refine z_ishr d_M_isIn_2 ?_
  refine z_iconst (n := 1) d_M_isIn_3 (by decide) ?_
  refine z_iand d_M_isIn_4 ?_
  refine z_iconst (n := 1) d_M_isIn_5 (by decide) ?_
  refine z_icmp_ne (tgt := 13) d_M_isIn_6 (by decide) (fun c1 => ?_) (fun c1 => ?_)
  · have h := h.2 c1
    refine z_iconst (n := 0) d_M_isIn_13 (by decide) ?_
    exact z_zret d_M_isIn_14 rfl (by decide) (by decide) (by decide) ⟨rfl, rfl, h⟩
  · have h := h.1 c1
    refine z_iconst (n := 1) d_M_isIn_9 (by decide) ?_
    refine z_goto (tgt := 14) d_M_isIn_10 (by decide) ?_
    exact z_zret d_M_isIn_14 rfl (by decide) (by decide) (by decide) ⟨rfl, rfl, h⟩
theorem d_M_isOfTree_0 : decode (z_c m_M_isOfTree) 0 = .ok (.iload_n 0, 1) := by decide +kernel
theorem d_M_isOfTree_1 : decode (z_c m_M_isOfTree) 1 = .ok (.ifCond .le 12, 3) := by decide +kernel
theorem d_M_isOfTree_4 : decode (z_c m_M_isOfTree) 4 = .ok (.iload_n 0, 1) := by decide +kernel
theorem d_M_isOfTree_5 : decode (z_c m_M_isOfTree) 5 = .ok (.iload_n 1, 1) := by decide +kernel
theorem d_M_isOfTree_6 : decode (z_c m_M_isOfTree) 6 = .ok (.if_icmp .ge 7, 3) := by decide +kernel
theorem d_M_isOfTree_9 : decode (z_c m_M_isOfTree) 9 = .ok (.iconst 1, 1) := by decide +kernel
theorem d_M_isOfTree_10 : decode (z_c m_M_isOfTree) 10 = .ok (.goto 4, 3) := by decide +kernel
theorem d_M_isOfTree_13 : decode (z_c m_M_isOfTree) 13 = .ok (.iconst 0, 1) := by decide +kernel
theorem d_M_isOfTree_14 : decode (z_c m_M_isOfTree) 14 = .ok (.ireturn, 1) := by decide +kernel
set_option maxRecDepth 8000 in
theorem b_M_isOfTree_0 {X : z_X} {N : Nat} {σ g : z_G} {Q : z_P} {a0 a1 : Int} (h : ((a0 ≤ 0) → Q 0 g) ∧ (¬ (a0 ≤ 0) → (((a1 ≤ a0) → Q 0 g) ∧ (¬ (a1 ≤ a0) → Q 1 g)))) : z_O X 1 m_M_isOfTree [(0, a0), (0, a1)] N σ g Q := by
  refine z_Oenter mi_M_isOfTree rfl (fun _ => ?_)
  show z_U X 1 m_M_isOfTree 0 [(0, (0, a0)), (1, (0, a1))] [] N σ g Q
  refine z_iload_n (i := 0) 0 d_M_isOfTree_0 rfl rfl ?_
  refine z_if_le (tgt := 13) d_M_isOfTree_1 (by decide) (fun c1 => ?_) (fun c1 => ?_)
  · have h := h.1 c1
    refine z_iconst (n := 0) d_M_isOfTree_13 (by decide) ?_
    exact z_zret d_M_isOfTree_14 rfl (by decide) (by decide) (by decide) ⟨rfl, rfl, h⟩
  · have h := h.2 c1
    refine z_iload_n (i := 0) 0 d_M_isOfTree_4 rfl rfl ?_
    refine z_iload_n (i := 1) 1 d_M_isOfTree_5 rfl rfl ?_
    refine z_icmp_ge (tgt := 13) d_M_isOfTree_6 (by decide) (fun c2 => ?_) (fun c2 => ?_)
    · have h := h.1 c2
      refine z_iconst (n := 0) d_M_isOfTree_13 (by decide) ?_
      exact z_zret d_M_isOfTree_14 rfl (by decide) (by decide) (by decide) ⟨rfl, rfl, h⟩
    · have h := h.2 c2
      refine z_iconst (n := 1) d_M_isOfTree_9 (by decide) ?_
      refine z_goto (tgt := 14) d_M_isOfTree_10 (by decide) ?_
      exact z_zret d_M_isOfTree_14 rfl (by decide) (by decide) (by decide) ⟨rfl, rfl, h⟩
theorem d_M_isOrder_0 : decode (z_c m_M_isOrder) 0 = .ok (.iload_n 0, 1) := by decide +kernel
theorem d_M_isOrder_1 : decode (z_c m_M_isOrder) 1 = .ok (.iconst 1, 1) := by decide +kernel
theorem d_M_isOrder_2 : decode (z_c m_M_isOrder) 2 = .ok (.if_icmp .eq 20, 3) := by decide +kernel
theorem d_M_isOrder_5 : decode (z_c m_M_isOrder) 5 = .ok (.iload_n 0, 1) := by decide +kernel
theorem d_M_isOrder_6 : decode (z_c m_M_isOrder) 6 = .ok (.iconst 3, 1) := by decide +kernel
theorem d_M_isOrder_7 : decode (z_c m_M_isOrder) 7 = .ok (.if_icmp .eq 15, 3) := by decide +kernel
theorem d_M_isOrder_10 : decode (z_c m_M_isOrder) 10 = .ok (.iload_n 0, 1) := by decide +kernel
theorem d_M_isOrder_11 : decode (z_c m_M_isOrder) 11 = .ok (.bipush 6, 2) := by decide +kernel
theorem d_M_isOrder_13 : decode (z_c m_M_isOrder) 13 = .ok (.if_icmp .lt 13, 3) := by decide +kernel
theorem d_M_isOrder_16 : decode (z_c m_M_isOrder) 16 = .ok (.iload_n 0, 1) := by decide +kernel
theorem d_M_isOrder_17 : decode (z_c m_M_isOrder) 17 = .ok (.bipush 15, 2) := by decide +kernel
theorem d_M_isOrder_19 : decode (z_c m_M_isOrder) 19 = .ok (.if_icmp .gt 7, 3) := by decide +kernel
theorem d_M_isOrder_22 : decode (z_c m_M_isOrder) 22 = .ok (.iconst 1, 1) := by decide +kernel
theorem d_M_isOrder_23 : decode (z_c m_M_isOrder) 23 = .ok (.goto 4, 3) := by decide +kernel
theorem d_M_isOrder_26 : decode (z_c m_M_isOrder) 26 = .ok (.iconst 0, 1) := by decide +kernel
theorem d_M_isOrder_27 : decode (z_c m_M_isOrder) 27 = .ok (.ireturn, 1) := by decide +kernel
set_option maxRecDepth 8000 in
theorem b_M_isOrder_0 {X : z_X} {N : Nat} {σ g : z_G} {Q : z_P} {a0 : Int} (h : ((a0 = 1) → Q 1 g) ∧ (¬ (a0 = 1) → (((a0 = 3) → Q 1 g) ∧ (¬ (a0 = 3) → (((a0 < 6) → Q 0 g) ∧ (¬ (a0 < 6) → (((15 < a0) → Q 0 g) ∧ (¬ (15 < a0) → Q 1 g)))))))) : z_O X 1 m_M_isOrder [(0, a0)] N σ g Q := by
  refine z_Oenter mi_M_isOrder rfl (fun _ => ?_)
  show z_U X 1 m_M_isOrder 0 [(0, (0, a0))] [] N σ g Q
  refine z_iload_n (i := 0) 0 d_M_isOrder_0 rfl rfl ?_
  refine z_iconst (n := 1) d_M_isOrder_1 (by decide) ?_
  refine z_icmp_eq (tgt := 22) d_M_isOrder_2 (by decide) (fun c1 => ?_) (fun c1 => ?_)
  · have h := h.1 c1
    refine z_iconst (n := 1) d_M_isOrder_22 (by decide) ?_
    refine z_goto (tgt := 27) d_M_isOrder_23 (by decide) ?_
    exact z_zret d_M_isOrder_27 rfl (by decide) (by decide) (by decide) ⟨rfl, rfl, h⟩
  · have h := h.2 c1
    refine z_iload_n (i := 0) 0 d_M_isOrder_5 rfl rfl ?_
    refine z_iconst (n := 3) d_M_isOrder_6 (by decide) ?_
    refine z_icmp_eq (tgt := 22) d_M_isOrder_7 (by decide) (fun c2 => ?_) (fun c2 => ?_)
    · have h := h.1 c2
      refine z_iconst (n := 1) d_M_isOrder_22 (by decide) ?_
      refine z_goto (tgt := 27) d_M_isOrder_23 (by decide) ?_
      exact z_zret d_M_isOrder_27 rfl (by decide) (by decide) (by decide) ⟨rfl, rfl, h⟩
    · have h := h.2 c2
      refine z_iload_n (i := 0) 0 d_M_isOrder_10 rfl rfl ?_
      refine z_bipush (n := 6) d_M_isOrder_11 (by decide) (by decide) ?_
      refine z_icmp_lt (tgt := 26) d_M_isOrder_13 (by decide) (fun c3 => ?_) (fun c3 => ?_)
      · have h := h.1 c3
        refine z_iconst (n := 0) d_M_isOrder_26 (by decide) ?_
        exact z_zret d_M_isOrder_27 rfl (by decide) (by decide) (by decide) ⟨rfl, rfl, h⟩
      · have h := h.2 c3
        refine z_iload_n (i := 0) 0 d_M_isOrder_16 rfl rfl ?_
        refine z_bipush (n := 15) d_M_isOrder_17 (by decide) (by decide) ?_
        refine z_icmp_gt (tgt := 26) d_M_isOrder_19 (by decide) (fun c4 => ?_) (fun c4 => ?_)
        · have h := h.1 c4
          refine z_iconst (n := 0) d_M_isOrder_26 (by decide) ?_
          exact z_zret d_M_isOrder_27 rfl (by decide) (by decide) (by decide) ⟨rfl, rfl, h⟩
        · have h := h.2 c4
          refine z_iconst (n := 1) d_M_isOrder_22 (by decide) ?_
          refine z_goto (tgt := 27) d_M_isOrder_23 (by decide) ?_
          exact z_zret d_M_isOrder_27 rfl (by decide) (by decide) (by decide) ⟨rfl, rfl, h⟩
theorem d_M_isSign_0 : decode (z_c m_M_isSign) 0 = .ok (.aload_n 0, 1) := by decide +kernel
theorem d_M_isSign_1 : decode (z_c m_M_isSign) 1 = .ok (.getfield 132, 3) := by decide +kernel
theorem d_M_isSign_4 : decode (z_c m_M_isSign) 4 = .ok (.iconst 4, 1) := by decide +kernel
theorem d_M_isSign_5 : decode (z_c m_M_isSign) 5 = .ok (.if_icmp .ne 15, 3) := by decide +kernel
theorem d_M_isSign_8 : decode (z_c m_M_isSign) 8 = .ok (.aload_n 0, 1) := by decide +kernel
theorem d_M_isSign_9 : decode (z_c m_M_isSign) 9 = .ok (.getfield 129, 3) := by decide +kernel
theorem d_M_isSign_12 : decode (z_c m_M_isSign) 12 = .ok (.iload_n 1, 1) := by decide +kernel
theorem d_M_isSign_13 : decode (z_c m_M_isSign) 13 = .ok (.if_icmp .ne 7, 3) := by decide +kernel
theorem d_M_isSign_16 : decode (z_c m_M_isSign) 16 = .ok (.iconst 1, 1) := by decide +kernel
theorem d_M_isSign_17 : decode (z_c m_M_isSign) 17 = .ok (.goto 4, 3) := by decide +kernel
theorem d_M_isSign_20 : decode (z_c m_M_isSign) 20 = .ok (.iconst 0, 1) := by decide +kernel
theorem d_M_isSign_21 : decode (z_c m_M_isSign) 21 = .ok (.ireturn, 1) := by decide +kernel
set_option maxRecDepth 8000 in
theorem b_M_isSign_0 {X : z_X} {N : Nat} {σ g : z_G} {Q : z_P} {a1 : Int} (hx : z_lay X N σ 0 z_SM z_RM) (h : (((g 0 11) = 4) → ((((g 0 14) = a1) → Q 1 g) ∧ (¬ ((g 0 14) = a1) → Q 0 g))) ∧ (¬ ((g 0 11) = 4) → Q 0 g)) : z_O X 1 m_M_isSign [(2, 0), (0, a1)] N σ g Q := by
  refine z_Oenter mi_M_isSign rfl (fun _ => ?_)
  show z_U X 1 m_M_isSign 0 [(0, (2, 0)), (1, (0, a1))] [] N σ g Q
  refine z_aload_n (i := 0) (c := 0) 0 d_M_isSign_0 rfl rfl rfl ?_
  refine z_geti (c := 0) (kI := 11) d_M_isSign_1 fd_M_token fl_M_132 (Or.inl rfl) rfl rfl (ks_M_0 hx) (kl_M_0 hx) ?_
  refine z_iconst (n := 4) d_M_isSign_4 (by decide) ?_
  refine z_icmp_ne (tgt := 20) d_M_isSign_5 (by decide) (fun c1 => ?_) (fun c1 => ?_)
  · have h := h.2 c1
    refine z_iconst (n := 0) d_M_isSign_20 (by decide) ?_
    exact z_zret d_M_isSign_21 rfl (by decide) (by decide) (by decide) ⟨rfl, rfl, h⟩
  · have h := h.1 c1
    refine z_aload_n (i := 0) (c := 0) 0 d_M_isSign_8 rfl rfl rfl ?_
    refine z_geti (c := 0) (kI := 14) d_M_isSign_9 fd_M_value fl_M_129 (Or.inl rfl) rfl rfl (ks_M_0 hx) (kl_M_0 hx) ?_
    refine z_iload_n (i := 1) 1 d_M_isSign_12 rfl rfl ?_
    refine z_icmp_ne (tgt := 20) d_M_isSign_13 (by decide) (fun c2 => ?_) (fun c2 => ?_)
    · have h := h.2 c2
      refine z_iconst (n := 0) d_M_isSign_20 (by decide) ?_
      exact z_zret d_M_isSign_21 rfl (by decide) (by decide) (by decide) ⟨rfl, rfl, h⟩
    · have h := h.1 c2
      refine z_iconst (n := 1) d_M_isSign_16 (by decide) ?_
      refine z_goto (tgt := 21) d_M_isSign_17 (by decide) ?_
      exact z_zret d_M_isSign_21 rfl (by decide) (by decide) (by decide) ⟨rfl, rfl, h⟩
theorem d_M_isSmall_0 : decode (z_c m_M_isSmall) 0 = .ok (.iload_n 0, 1) := by decide +kernel
theorem d_M_isSmall_1 : decode (z_c m_M_isSmall) 1 = .ok (.bipush 97, 2) := by decide +kernel
theorem d_M_isSmall_3 : decode (z_c m_M_isSmall) 3 = .ok (.if_icmp .lt 13, 3) := by decide +kernel
theorem d_M_isSmall_6 : decode (z_c m_M_isSmall) 6 = .ok (.iload_n 0, 1) := by decide +kernel
theorem d_M_isSmall_7 : decode (z_c m_M_isSmall) 7 = .ok (.bipush 122, 2) := by decide +kernel
theorem d_M_isSmall_9 : decode (z_c m_M_isSmall) 9 = .ok (.if_icmp .gt 7, 3) := by decide +kernel
theorem d_M_isSmall_12 : decode (z_c m_M_isSmall) 12 = .ok (.iconst 1, 1) := by decide +kernel
theorem d_M_isSmall_13 : decode (z_c m_M_isSmall) 13 = .ok (.goto 4, 3) := by decide +kernel
theorem d_M_isSmall_16 : decode (z_c m_M_isSmall) 16 = .ok (.iconst 0, 1) := by decide +kernel
theorem d_M_isSmall_17 : decode (z_c m_M_isSmall) 17 = .ok (.ireturn, 1) := by decide +kernel
set_option maxRecDepth 8000 in
theorem b_M_isSmall_0 {X : z_X} {N : Nat} {σ g : z_G} {Q : z_P} {a0 : Int} (h : ((a0 < 97) → Q 0 g) ∧ (¬ (a0 < 97) → (((122 < a0) → Q 0 g) ∧ (¬ (122 < a0) → Q 1 g)))) : z_O X 1 m_M_isSmall [(0, a0)] N σ g Q := by
  refine z_Oenter mi_M_isSmall rfl (fun _ => ?_)
  show z_U X 1 m_M_isSmall 0 [(0, (0, a0))] [] N σ g Q
  refine z_iload_n (i := 0) 0 d_M_isSmall_0 rfl rfl ?_
  refine z_bipush (n := 97) d_M_isSmall_1 (by decide) (by decide) ?_
  refine z_icmp_lt (tgt := 16) d_M_isSmall_3 (by decide) (fun c1 => ?_) (fun c1 => ?_)
  · have h := h.1 c1
    refine z_iconst (n := 0) d_M_isSmall_16 (by decide) ?_
    exact z_zret d_M_isSmall_17 rfl (by decide) (by decide) (by decide) ⟨rfl, rfl, h⟩
  · have h := h.2 c1
    refine z_iload_n (i := 0) 0 d_M_isSmall_6 rfl rfl ?_
    refine z_bipush (n := 122) d_M_isSmall_7 (by decide) (by decide) ?_
    refine z_icmp_gt (tgt := 16) d_M_isSmall_9 (by decide) (fun c2 => ?_) (fun c2 => ?_)
    · have h := h.1 c2
      refine z_iconst (n := 0) d_M_isSmall_16 (by decide) ?_
      exact z_zret d_M_isSmall_17 rfl (by decide) (by decide) (by decide) ⟨rfl, rfl, h⟩
    · have h := h.2 c2
      refine z_iconst (n := 1) d_M_isSmall_12 (by decide) ?_
      refine z_goto (tgt := 17) d_M_isSmall_13 (by decide) ?_
      exact z_zret d_M_isSmall_17 rfl (by decide) (by decide) (by decide) ⟨rfl, rfl, h⟩
theorem d_M_isTray_0 : decode (z_c m_M_isTray) 0 = .ok (.iload_n 0, 1) := by decide +kernel
theorem d_M_isTray_1 : decode (z_c m_M_isTray) 1 = .ok (.ifCond .lt 12, 3) := by decide +kernel
theorem d_M_isTray_4 : decode (z_c m_M_isTray) 4 = .ok (.iload_n 0, 1) := by decide +kernel
theorem d_M_isTray_5 : decode (z_c m_M_isTray) 5 = .ok (.iconst 4, 1) := by decide +kernel
theorem d_M_isTray_6 : decode (z_c m_M_isTray) 6 = .ok (.if_icmp .ge 7, 3) := by decide +kernel
theorem d_M_isTray_9 : decode (z_c m_M_isTray) 9 = .ok (.iconst 1, 1) := by decide +kernel
theorem d_M_isTray_10 : decode (z_c m_M_isTray) 10 = .ok (.goto 4, 3) := by decide +kernel
theorem d_M_isTray_13 : decode (z_c m_M_isTray) 13 = .ok (.iconst 0, 1) := by decide +kernel
theorem d_M_isTray_14 : decode (z_c m_M_isTray) 14 = .ok (.ireturn, 1) := by decide +kernel
set_option maxRecDepth 8000 in
theorem b_M_isTray_0 {X : z_X} {N : Nat} {σ g : z_G} {Q : z_P} {a0 : Int} (h : ((a0 < 0) → Q 0 g) ∧ (¬ (a0 < 0) → (((4 ≤ a0) → Q 0 g) ∧ (¬ (4 ≤ a0) → Q 1 g)))) : z_O X 1 m_M_isTray [(0, a0)] N σ g Q := by
  refine z_Oenter mi_M_isTray rfl (fun _ => ?_)
  show z_U X 1 m_M_isTray 0 [(0, (0, a0))] [] N σ g Q
  refine z_iload_n (i := 0) 0 d_M_isTray_0 rfl rfl ?_
  refine z_if_lt (tgt := 13) d_M_isTray_1 (by decide) (fun c1 => ?_) (fun c1 => ?_)
  · have h := h.1 c1
    refine z_iconst (n := 0) d_M_isTray_13 (by decide) ?_
    exact z_zret d_M_isTray_14 rfl (by decide) (by decide) (by decide) ⟨rfl, rfl, h⟩
  · have h := h.2 c1
    refine z_iload_n (i := 0) 0 d_M_isTray_4 rfl rfl ?_
    refine z_iconst (n := 4) d_M_isTray_5 (by decide) ?_
    refine z_icmp_ge (tgt := 13) d_M_isTray_6 (by decide) (fun c2 => ?_) (fun c2 => ?_)
    · have h := h.1 c2
      refine z_iconst (n := 0) d_M_isTray_13 (by decide) ?_
      exact z_zret d_M_isTray_14 rfl (by decide) (by decide) (by decide) ⟨rfl, rfl, h⟩
    · have h := h.2 c2
      refine z_iconst (n := 1) d_M_isTray_9 (by decide) ?_
      refine z_goto (tgt := 14) d_M_isTray_10 (by decide) ?_
      exact z_zret d_M_isTray_14 rfl (by decide) (by decide) (by decide) ⟨rfl, rfl, h⟩
theorem d_M_isValue_0 : decode (z_c m_M_isValue) 0 = .ok (.iload_n 1, 1) := by decide +kernel
theorem d_M_isValue_1 : decode (z_c m_M_isValue) 1 = .ok (.iconst 1, 1) := by decide +kernel
theorem d_M_isValue_2 : decode (z_c m_M_isValue) 2 = .ok (.if_icmp .lt 23, 3) := by decide +kernel
theorem d_M_isValue_5 : decode (z_c m_M_isValue) 5 = .ok (.iload_n 1, 1) := by decide +kernel
theorem d_M_isValue_6 : decode (z_c m_M_isValue) 6 = .ok (.sipush 9999, 3) := by decide +kernel
theorem d_M_isValue_9 : decode (z_c m_M_isValue) 9 = .ok (.if_icmp .gt 16, 3) := by decide +kernel
theorem d_M_isValue_12 : decode (z_c m_M_isValue) 12 = .ok (.iload_n 0, 1) := by decide +kernel
theorem d_M_isValue_13 : decode (z_c m_M_isValue) 13 = .ok (.ifCond .lt 12, 3) := by decide +kernel
theorem d_M_isValue_16 : decode (z_c m_M_isValue) 16 = .ok (.iload_n 0, 1) := by decide +kernel
theorem d_M_isValue_17 : decode (z_c m_M_isValue) 17 = .ok (.iload_n 1, 1) := by decide +kernel
theorem d_M_isValue_18 : decode (z_c m_M_isValue) 18 = .ok (.if_icmp .gt 7, 3) := by decide +kernel
theorem d_M_isValue_21 : decode (z_c m_M_isValue) 21 = .ok (.iconst 1, 1) := by decide +kernel
theorem d_M_isValue_22 : decode (z_c m_M_isValue) 22 = .ok (.goto 4, 3) := by decide +kernel
theorem d_M_isValue_25 : decode (z_c m_M_isValue) 25 = .ok (.iconst 0, 1) := by decide +kernel
theorem d_M_isValue_26 : decode (z_c m_M_isValue) 26 = .ok (.ireturn, 1) := by decide +kernel
set_option maxRecDepth 8000 in
theorem b_M_isValue_0 {X : z_X} {N : Nat} {σ g : z_G} {Q : z_P} {a0 a1 : Int} (h : ((a1 < 1) → Q 0 g) ∧ (¬ (a1 < 1) → (((9999 < a1) → Q 0 g) ∧ (¬ (9999 < a1) → (((a0 < 0) → Q 0 g) ∧ (¬ (a0 < 0) → (((a1 < a0) → Q 0 g) ∧ (¬ (a1 < a0) → Q 1 g)))))))) : z_O X 1 m_M_isValue [(0, a0), (0, a1)] N σ g Q := by
  refine z_Oenter mi_M_isValue rfl (fun _ => ?_)
  show z_U X 1 m_M_isValue 0 [(0, (0, a0)), (1, (0, a1))] [] N σ g Q
  refine z_iload_n (i := 1) 1 d_M_isValue_0 rfl rfl ?_
  refine z_iconst (n := 1) d_M_isValue_1 (by decide) ?_
  refine z_icmp_lt (tgt := 25) d_M_isValue_2 (by decide) (fun c1 => ?_) (fun c1 => ?_)
  · have h := h.1 c1
    refine z_iconst (n := 0) d_M_isValue_25 (by decide) ?_
    exact z_zret d_M_isValue_26 rfl (by decide) (by decide) (by decide) ⟨rfl, rfl, h⟩
  · have h := h.2 c1
    refine z_iload_n (i := 1) 1 d_M_isValue_5 rfl rfl ?_
    refine z_sipush (n := 9999) d_M_isValue_6 (by decide) (by decide) ?_
    refine z_icmp_gt (tgt := 25) d_M_isValue_9 (by decide) (fun c2 => ?_) (fun c2 => ?_)
    · have h := h.1 c2
      refine z_iconst (n := 0) d_M_isValue_25 (by decide) ?_
      exact z_zret d_M_isValue_26 rfl (by decide) (by decide) (by decide) ⟨rfl, rfl, h⟩
    · have h := h.2 c2
      refine z_iload_n (i := 0) 0 d_M_isValue_12 rfl rfl ?_
      refine z_if_lt (tgt := 25) d_M_isValue_13 (by decide) (fun c3 => ?_) (fun c3 => ?_)
      · have h := h.1 c3
        refine z_iconst (n := 0) d_M_isValue_25 (by decide) ?_
        exact z_zret d_M_isValue_26 rfl (by decide) (by decide) (by decide) ⟨rfl, rfl, h⟩
      · have h := h.2 c3
        refine z_iload_n (i := 0) 0 d_M_isValue_16 rfl rfl ?_
        refine z_iload_n (i := 1) 1 d_M_isValue_17 rfl rfl ?_
        refine z_icmp_gt (tgt := 25) d_M_isValue_18 (by decide) (fun c4 => ?_) (fun c4 => ?_)
        · have h := h.1 c4
          refine z_iconst (n := 0) d_M_isValue_25 (by decide) ?_
          exact z_zret d_M_isValue_26 rfl (by decide) (by decide) (by decide) ⟨rfl, rfl, h⟩
        · have h := h.2 c4
          refine z_iconst (n := 1) d_M_isValue_21 (by decide) ?_
          refine z_goto (tgt := 26) d_M_isValue_22 (by decide) ?_
          exact z_zret d_M_isValue_26 rfl (by decide) (by decide) (by decide) ⟨rfl, rfl, h⟩
theorem d_M_laysTerms_0 : decode (z_c m_M_laysTerms) 0 = .ok (.iload_n 2, 1) := by decide +kernel
theorem d_M_laysTerms_1 : decode (z_c m_M_laysTerms) 1 = .ok (.istore_n 3, 1) := by decide +kernel
theorem d_M_laysTerms_2 : decode (z_c m_M_laysTerms) 2 = .ok (.iload_n 1, 1) := by decide +kernel
theorem d_M_laysTerms_3 : decode (z_c m_M_laysTerms) 3 = .ok (.iload_n 2, 1) := by decide +kernel
theorem d_M_laysTerms_4 : decode (z_c m_M_laysTerms) 4 = .ok (.irem, 1) := by decide +kernel
theorem d_M_laysTerms_5 : decode (z_c m_M_laysTerms) 5 = .ok (.istore 4, 2) := by decide +kernel
theorem d_M_laysTerms_7 : decode (z_c m_M_laysTerms) 7 = .ok (.aload_n 0, 1) := by decide +kernel
theorem d_M_laysTerms_8 : decode (z_c m_M_laysTerms) 8 = .ok (.getfield 50, 3) := by decide +kernel
theorem d_M_laysTerms_11 : decode (z_c m_M_laysTerms) 11 = .ok (.iconst 0, 1) := by decide +kernel
theorem d_M_laysTerms_12 : decode (z_c m_M_laysTerms) 12 = .ok (.iload_n 1, 1) := by decide +kernel
theorem d_M_laysTerms_13 : decode (z_c m_M_laysTerms) 13 = .ok (.iload_n 2, 1) := by decide +kernel
theorem d_M_laysTerms_14 : decode (z_c m_M_laysTerms) 14 = .ok (.idiv, 1) := by decide +kernel
theorem d_M_laysTerms_15 : decode (z_c m_M_laysTerms) 15 = .ok (.iastore, 1) := by decide +kernel
theorem d_M_laysTerms_16 : decode (z_c m_M_laysTerms) 16 = .ok (.aload_n 0, 1) := by decide +kernel
theorem d_M_laysTerms_17 : decode (z_c m_M_laysTerms) 17 = .ok (.iconst 1, 1) := by decide +kernel
theorem d_M_laysTerms_18 : decode (z_c m_M_laysTerms) 18 = .ok (.putfield 288, 3) := by decide +kernel
theorem d_M_laysTerms_21 : decode (z_c m_M_laysTerms) 21 = .ok (.iload 4, 2) := by decide +kernel
theorem d_M_laysTerms_23 : decode (z_c m_M_laysTerms) 23 = .ok (.ifCond .le 42, 3) := by decide +kernel
theorem d_M_laysTerms_26 : decode (z_c m_M_laysTerms) 26 = .ok (.aload_n 0, 1) := by decide +kernel
theorem d_M_laysTerms_27 : decode (z_c m_M_laysTerms) 27 = .ok (.getfield 50, 3) := by decide +kernel
theorem d_M_laysTerms_30 : decode (z_c m_M_laysTerms) 30 = .ok (.aload_n 0, 1) := by decide +kernel
theorem d_M_laysTerms_31 : decode (z_c m_M_laysTerms) 31 = .ok (.getfield 288, 3) := by decide +kernel
theorem d_M_laysTerms_34 : decode (z_c m_M_laysTerms) 34 = .ok (.iload_n 3, 1) := by decide +kernel
theorem d_M_laysTerms_35 : decode (z_c m_M_laysTerms) 35 = .ok (.iload 4, 2) := by decide +kernel
theorem d_M_laysTerms_37 : decode (z_c m_M_laysTerms) 37 = .ok (.idiv, 1) := by decide +kernel
theorem d_M_laysTerms_38 : decode (z_c m_M_laysTerms) 38 = .ok (.iastore, 1) := by decide +kernel
theorem d_M_laysTerms_39 : decode (z_c m_M_laysTerms) 39 = .ok (.aload_n 0, 1) := by decide +kernel
theorem d_M_laysTerms_40 : decode (z_c m_M_laysTerms) 40 = .ok (.dup, 1) := by decide +kernel
theorem d_M_laysTerms_41 : decode (z_c m_M_laysTerms) 41 = .ok (.getfield 288, 3) := by decide +kernel
theorem d_M_laysTerms_44 : decode (z_c m_M_laysTerms) 44 = .ok (.iconst 1, 1) := by decide +kernel
theorem d_M_laysTerms_45 : decode (z_c m_M_laysTerms) 45 = .ok (.iadd, 1) := by decide +kernel
theorem d_M_laysTerms_46 : decode (z_c m_M_laysTerms) 46 = .ok (.putfield 288, 3) := by decide +kernel
theorem d_M_laysTerms_49 : decode (z_c m_M_laysTerms) 49 = .ok (.iload_n 3, 1) := by decide +kernel
theorem d_M_laysTerms_50 : decode (z_c m_M_laysTerms) 50 = .ok (.iload 4, 2) := by decide +kernel
theorem d_M_laysTerms_52 : decode (z_c m_M_laysTerms) 52 = .ok (.irem, 1) := by decide +kernel
theorem d_M_laysTerms_53 : decode (z_c m_M_laysTerms) 53 = .ok (.istore 5, 2) := by decide +kernel
theorem d_M_laysTerms_55 : decode (z_c m_M_laysTerms) 55 = .ok (.iload 4, 2) := by decide +kernel
theorem d_M_laysTerms_57 : decode (z_c m_M_laysTerms) 57 = .ok (.istore_n 3, 1) := by decide +kernel
theorem d_M_laysTerms_58 : decode (z_c m_M_laysTerms) 58 = .ok (.iload 5, 2) := by decide +kernel
theorem d_M_laysTerms_60 : decode (z_c m_M_laysTerms) 60 = .ok (.istore 4, 2) := by decide +kernel
theorem d_M_laysTerms_62 : decode (z_c m_M_laysTerms) 62 = .ok (.goto (-41), 3) := by decide +kernel
theorem d_M_laysTerms_65 : decode (z_c m_M_laysTerms) 65 = .ok (.return_, 1) := by decide +kernel
abbrev L_M_laysTerms_21 (X : z_X) (N : Nat) (σ : z_G) (x3 x4 : Int) (g : z_G) (Q : z_P) : Prop := z_U X 1 m_M_laysTerms 21 [(0, (2, 0)), (3, (0, x3)), (4, (0, x4))] [] N σ g Q
set_option maxRecDepth 8000 in
theorem b_M_laysTerms_0 {X : z_X} {N : Nat} {σ g : z_G} {Q : z_P} {a1 a2 : Int} (hx : z_lay X N σ 0 z_SM z_RM) (h : (0 < a2) ∧ L_M_laysTerms_21 X N σ a2 (Int.tmod a1 a2) (z_up (z_up g 10 0 (Int.tdiv a1 a2)) 0 27 1) Q) : z_O X 1 m_M_laysTerms [(2, 0), (0, a1), (0, a2)] N σ g Q := by
  refine z_Oenter mi_M_laysTerms rfl (fun _ => ?_)
  show z_U X 1 m_M_laysTerms 0 [(0, (2, 0)), (1, (0, a1)), (2, (0, a2))] [] N σ g Q
  refine z_iload_n (i := 2) 2 d_M_laysTerms_0 rfl rfl ?_
  refine z_istore_n (i := 3) (ls' := [(3, (0, a2)), (0, (2, 0)), (1, (0, a1)), (2, (0, a2))]) d_M_laysTerms_1 rfl rfl rfl ?_
  refine z_iload_n (i := 1) 2 d_M_laysTerms_2 rfl rfl ?_
  refine z_iload_n (i := 2) 3 d_M_laysTerms_3 rfl rfl ?_
  obtain ⟨c1, h⟩ := h
  refine z_irem d_M_laysTerms_4 c1 ?_
  refine z_istore (ls' := [(4, (0, Int.tmod a1 a2)), (3, (0, a2)), (0, (2, 0)), (1, (0, a1)), (2, (0, a2))]) d_M_laysTerms_5 rfl rfl ?_
  refine z_aload_n (i := 0) (c := 0) 2 d_M_laysTerms_7 rfl rfl rfl ?_
  refine z_getr (c := 0) (kI := 26) (r2 := 10) d_M_laysTerms_8 fd_M_termBy fl_M_50 rfl rfl rfl (ks_M_0 hx) (kl_M_0 hx) (kr_M_0_26 hx) ?_
  refine z_iconst (n := 0) d_M_laysTerms_11 (by decide) ?_
  refine z_iload_n (i := 1) 3 d_M_laysTerms_12 rfl rfl ?_
  refine z_iload_n (i := 2) 4 d_M_laysTerms_13 rfl rfl ?_
  refine z_idiv d_M_laysTerms_14 c1 ?_
  refine z_iast (c := 10) (m := 40) d_M_laysTerms_15 rfl (ks_M_10 hx) (kl_M_10 hx) rfl (by decide) (by decide) ?_
  refine z_aload_n (i := 0) (c := 0) 2 d_M_laysTerms_16 rfl rfl rfl ?_
  refine z_iconst (n := 1) d_M_laysTerms_17 (by decide) ?_
  refine z_puti (c := 0) (kI := 27) d_M_laysTerms_18 fd_M_termMany fl_M_288 pf_M_termMany rfl rfl rfl rfl (ks_M_0 hx) (kl_M_0 hx) ?_
  refine z_sub (ls' := [(0, (2, 0)), (3, (0, a2)), (4, (0, Int.tmod a1 a2))]) [2, 1, 0] rfl ?_
  exact h
set_option maxRecDepth 8000 in
theorem b_M_laysTerms_21 {X : z_X} {N : Nat} {σ g : z_G} {Q : z_P} {x3 x4 : Int} (hx : z_lay X N σ 0 z_SM z_RM) (h : ((x4 ≤ 0) → Q 0 g) ∧ (¬ (x4 ≤ 0) → ((0 < x4) ∧ ((0 ≤ (g 0 27) ∧ (g 0 27) < 40) ∧ ((-2147483648 ≤ ((g 0 27) + 1) ∧ ((g 0 27) + 1) ≤ 2147483647) ∧ L_M_laysTerms_21 X N σ x4 (Int.tmod x3 x4) (z_up (z_up g 10 (g 0 27) (Int.tdiv x3 x4)) 0 27 ((g 0 27) + 1)) Q))))) : L_M_laysTerms_21 X N σ x3 x4 g Q := by
  refine z_iload 2 d_M_laysTerms_21 rfl ?_
  refine z_if_le (tgt := 65) d_M_laysTerms_23 (by decide) (fun c1 => ?_) (fun c1 => ?_)
  · have h := h.1 c1
    exact z_vret d_M_laysTerms_65 rfl (by decide) (by decide) ⟨rfl, rfl, h⟩
  · have h := h.2 c1
    refine z_aload_n (i := 0) (c := 0) 0 d_M_laysTerms_26 rfl rfl rfl ?_
    refine z_getr (c := 0) (kI := 26) (r2 := 10) d_M_laysTerms_27 fd_M_termBy fl_M_50 rfl rfl rfl (ks_M_0 hx) (kl_M_0 hx) (kr_M_0_26 hx) ?_
    refine z_aload_n (i := 0) (c := 0) 0 d_M_laysTerms_30 rfl rfl rfl ?_
    refine z_geti (c := 0) (kI := 27) d_M_laysTerms_31 fd_M_termMany fl_M_288 (Or.inl rfl) rfl rfl (ks_M_0 hx) (kl_M_0 hx) ?_
    refine z_iload_n (i := 3) 1 d_M_laysTerms_34 rfl rfl ?_
    refine z_iload 2 d_M_laysTerms_35 rfl ?_
    obtain ⟨c2, h⟩ := h
    refine z_idiv d_M_laysTerms_37 c2 ?_
    obtain ⟨c3, h⟩ := h
    refine z_iast (c := 10) (m := 40) d_M_laysTerms_38 rfl (ks_M_10 hx) (kl_M_10 hx) rfl (by decide) c3 ?_
    refine z_aload_n (i := 0) (c := 0) 0 d_M_laysTerms_39 rfl rfl rfl ?_
    refine z_dup d_M_laysTerms_40 rfl ?_
    refine z_geti (c := 0) (kI := 27) d_M_laysTerms_41 fd_M_termMany fl_M_288 (Or.inl rfl) rfl rfl (ks_M_0 hx) (kl_M_0 hx) ?_
    refine z_ti (b := g 0 27) (by simp [z_up]) ?_
    refine z_iconst (n := 1) d_M_laysTerms_44 (by decide) ?_
    obtain ⟨c4, h⟩ := h
    refine z_iadd d_M_laysTerms_45 c4 ?_
    refine z_puti (c := 0) (kI := 27) d_M_laysTerms_46 fd_M_termMany fl_M_288 pf_M_termMany rfl rfl rfl rfl (ks_M_0 hx) (kl_M_0 hx) ?_
    refine z_iload_n (i := 3) 1 d_M_laysTerms_49 rfl rfl ?_
    refine z_iload 2 d_M_laysTerms_50 rfl ?_
    refine z_irem d_M_laysTerms_52 c2 ?_
    refine z_istore (ls' := [(5, (0, Int.tmod x3 x4)), (0, (2, 0)), (3, (0, x3)), (4, (0, x4))]) d_M_laysTerms_53 rfl rfl ?_
    refine z_iload 3 d_M_laysTerms_55 rfl ?_
    refine z_istore_n (i := 3) (ls' := [(3, (0, x4)), (5, (0, Int.tmod x3 x4)), (0, (2, 0)), (4, (0, x4))]) d_M_laysTerms_57 rfl rfl rfl ?_
    refine z_iload 1 d_M_laysTerms_58 rfl ?_
    refine z_istore (ls' := [(4, (0, Int.tmod x3 x4)), (3, (0, x4)), (5, (0, Int.tmod x3 x4)), (0, (2, 0))]) d_M_laysTerms_60 rfl rfl ?_
    refine z_goto (tgt := 21) d_M_laysTerms_62 (by decide) ?_
    refine z_sub (ls' := [(0, (2, 0)), (3, (0, x4)), (4, (0, Int.tmod x3 x4))]) [3, 1, 0] rfl ?_
    exact h
theorem d_M_orders_0 : decode (z_c m_M_orders) 0 = .ok (.aload_n 0, 1) := by decide +kernel
theorem d_M_orders_1 : decode (z_c m_M_orders) 1 = .ok (.getfield 7, 3) := by decide +kernel
theorem d_M_orders_4 : decode (z_c m_M_orders) 4 = .ok (.iconst 1, 1) := by decide +kernel
theorem d_M_orders_5 : decode (z_c m_M_orders) 5 = .ok (.iaload, 1) := by decide +kernel
theorem d_M_orders_6 : decode (z_c m_M_orders) 6 = .ok (.iload_n 1, 1) := by decide +kernel
theorem d_M_orders_7 : decode (z_c m_M_orders) 7 = .ok (.if_icmp .ne 5, 3) := by decide +kernel
theorem d_M_orders_10 : decode (z_c m_M_orders) 10 = .ok (.iconst 0, 1) := by decide +kernel
theorem d_M_orders_11 : decode (z_c m_M_orders) 11 = .ok (.ireturn, 1) := by decide +kernel
theorem d_M_orders_12 : decode (z_c m_M_orders) 12 = .ok (.aload_n 0, 1) := by decide +kernel
theorem d_M_orders_13 : decode (z_c m_M_orders) 13 = .ok (.getfield 7, 3) := by decide +kernel
theorem d_M_orders_16 : decode (z_c m_M_orders) 16 = .ok (.iconst 1, 1) := by decide +kernel
theorem d_M_orders_17 : decode (z_c m_M_orders) 17 = .ok (.iload_n 1, 1) := by decide +kernel
theorem d_M_orders_18 : decode (z_c m_M_orders) 18 = .ok (.iastore, 1) := by decide +kernel
theorem d_M_orders_19 : decode (z_c m_M_orders) 19 = .ok (.iconst 1, 1) := by decide +kernel
theorem d_M_orders_20 : decode (z_c m_M_orders) 20 = .ok (.ireturn, 1) := by decide +kernel
set_option maxRecDepth 8000 in
theorem b_M_orders_0 {X : z_X} {N : Nat} {σ g : z_G} {Q : z_P} {a1 : Int} (hx : z_lay X N σ 0 z_SM z_RM) (h : (((g 1 1) = a1) → Q 0 g) ∧ (¬ ((g 1 1) = a1) → Q 1 (z_up g 1 1 a1))) : z_O X 1 m_M_orders [(2, 0), (0, a1)] N σ g Q := by
  refine z_Oenter mi_M_orders rfl (fun _ => ?_)
  show z_U X 1 m_M_orders 0 [(0, (2, 0)), (1, (0, a1))] [] N σ g Q
  refine z_aload_n (i := 0) (c := 0) 0 d_M_orders_0 rfl rfl rfl ?_
  refine z_getr (c := 0) (kI := 0) (r2 := 1) d_M_orders_1 fd_M_at fl_M_7 rfl rfl rfl (ks_M_0 hx) (kl_M_0 hx) (kr_M_0_0 hx) ?_
  refine z_iconst (n := 1) d_M_orders_4 (by decide) ?_
  refine z_iald (c := 1) (m := 3296) d_M_orders_5 rfl (ks_M_1 hx) (kl_M_1 hx) rfl (by decide) (by decide) ?_
  refine z_iload_n (i := 1) 1 d_M_orders_6 rfl rfl ?_
  refine z_icmp_ne (tgt := 12) d_M_orders_7 (by decide) (fun c1 => ?_) (fun c1 => ?_)
  · have h := h.2 c1
    refine z_aload_n (i := 0) (c := 0) 0 d_M_orders_12 rfl rfl rfl ?_
    refine z_getr (c := 0) (kI := 0) (r2 := 1) d_M_orders_13 fd_M_at fl_M_7 rfl rfl rfl (ks_M_0 hx) (kl_M_0 hx) (kr_M_0_0 hx) ?_
    refine z_iconst (n := 1) d_M_orders_16 (by decide) ?_
    refine z_iload_n (i := 1) 1 d_M_orders_17 rfl rfl ?_
    refine z_iast (c := 1) (m := 3296) d_M_orders_18 rfl (ks_M_1 hx) (kl_M_1 hx) rfl (by decide) (by decide) ?_
    refine z_iconst (n := 1) d_M_orders_19 (by decide) ?_
    exact z_zret d_M_orders_20 rfl (by decide) (by decide) (by decide) ⟨rfl, rfl, h⟩
  · have h := h.1 c1
    refine z_iconst (n := 0) d_M_orders_10 (by decide) ?_
    exact z_zret d_M_orders_11 rfl (by decide) (by decide) (by decide) ⟨rfl, rfl, h⟩
theorem d_M_periodOf_0 : decode (z_c m_M_periodOf) 0 = .ok (.iload_n 1, 1) := by decide +kernel
theorem d_M_periodOf_1 : decode (z_c m_M_periodOf) 1 = .ok (.iconst 1, 1) := by decide +kernel
theorem d_M_periodOf_2 : decode (z_c m_M_periodOf) 2 = .ok (.if_icmp .ne 5, 3) := by decide +kernel
theorem d_M_periodOf_5 : decode (z_c m_M_periodOf) 5 = .ok (.iconst 0, 1) := by decide +kernel
theorem d_M_periodOf_6 : decode (z_c m_M_periodOf) 6 = .ok (.ireturn, 1) := by decide +kernel
theorem d_M_periodOf_7 : decode (z_c m_M_periodOf) 7 = .ok (.iconst 1, 1) := by decide +kernel
theorem d_M_periodOf_8 : decode (z_c m_M_periodOf) 8 = .ok (.istore_n 2, 1) := by decide +kernel
theorem d_M_periodOf_9 : decode (z_c m_M_periodOf) 9 = .ok (.bipush 10, 2) := by decide +kernel
theorem d_M_periodOf_11 : decode (z_c m_M_periodOf) 11 = .ok (.iload_n 1, 1) := by decide +kernel
theorem d_M_periodOf_12 : decode (z_c m_M_periodOf) 12 = .ok (.irem, 1) := by decide +kernel
theorem d_M_periodOf_13 : decode (z_c m_M_periodOf) 13 = .ok (.istore_n 3, 1) := by decide +kernel
theorem d_M_periodOf_14 : decode (z_c m_M_periodOf) 14 = .ok (.iload_n 3, 1) := by decide +kernel
theorem d_M_periodOf_15 : decode (z_c m_M_periodOf) 15 = .ok (.iconst 1, 1) := by decide +kernel
theorem d_M_periodOf_16 : decode (z_c m_M_periodOf) 16 = .ok (.if_icmp .eq 16, 3) := by decide +kernel
theorem d_M_periodOf_19 : decode (z_c m_M_periodOf) 19 = .ok (.bipush 10, 2) := by decide +kernel
theorem d_M_periodOf_21 : decode (z_c m_M_periodOf) 21 = .ok (.iload_n 3, 1) := by decide +kernel
theorem d_M_periodOf_22 : decode (z_c m_M_periodOf) 22 = .ok (.imul, 1) := by decide +kernel
theorem d_M_periodOf_23 : decode (z_c m_M_periodOf) 23 = .ok (.iload_n 1, 1) := by decide +kernel
theorem d_M_periodOf_24 : decode (z_c m_M_periodOf) 24 = .ok (.irem, 1) := by decide +kernel
theorem d_M_periodOf_25 : decode (z_c m_M_periodOf) 25 = .ok (.istore_n 3, 1) := by decide +kernel
theorem d_M_periodOf_26 : decode (z_c m_M_periodOf) 26 = .ok (.iinc 2 1, 3) := by decide +kernel
theorem d_M_periodOf_29 : decode (z_c m_M_periodOf) 29 = .ok (.goto (-15), 3) := by decide +kernel
theorem d_M_periodOf_32 : decode (z_c m_M_periodOf) 32 = .ok (.iload_n 2, 1) := by decide +kernel
theorem d_M_periodOf_33 : decode (z_c m_M_periodOf) 33 = .ok (.ireturn, 1) := by decide +kernel
abbrev L_M_periodOf_14 (X : z_X) (N : Nat) (σ : z_G) (x1 x2 x3 : Int) (g : z_G) (Q : z_P) : Prop := z_U X 1 m_M_periodOf 14 [(1, (0, x1)), (2, (0, x2)), (3, (0, x3))] [] N σ g Q
set_option maxRecDepth 8000 in
theorem b_M_periodOf_0 {X : z_X} {N : Nat} {σ g : z_G} {Q : z_P} {a1 : Int} (hx : z_lay X N σ 0 z_SM z_RM) (h : ((a1 = 1) → Q 0 g) ∧ (¬ (a1 = 1) → ((0 < a1) ∧ L_M_periodOf_14 X N σ a1 1 (Int.tmod 10 a1) g Q))) : z_O X 1 m_M_periodOf [(2, 0), (0, a1)] N σ g Q := by
  refine z_Oenter mi_M_periodOf rfl (fun _ => ?_)
  show z_U X 1 m_M_periodOf 0 [(0, (2, 0)), (1, (0, a1))] [] N σ g Q
  refine z_iload_n (i := 1) 1 d_M_periodOf_0 rfl rfl ?_
  refine z_iconst (n := 1) d_M_periodOf_1 (by decide) ?_
  refine z_icmp_ne (tgt := 7) d_M_periodOf_2 (by decide) (fun c1 => ?_) (fun c1 => ?_)
  · have h := h.2 c1
    refine z_iconst (n := 1) d_M_periodOf_7 (by decide) ?_
    refine z_istore_n (i := 2) (ls' := [(2, (0, 1)), (0, (2, 0)), (1, (0, a1))]) d_M_periodOf_8 rfl rfl rfl ?_
    refine z_bipush (n := 10) d_M_periodOf_9 (by decide) (by decide) ?_
    refine z_iload_n (i := 1) 2 d_M_periodOf_11 rfl rfl ?_
    obtain ⟨c2, h⟩ := h
    refine z_irem d_M_periodOf_12 c2 ?_
    refine z_istore_n (i := 3) (ls' := [(3, (0, Int.tmod 10 a1)), (2, (0, 1)), (0, (2, 0)), (1, (0, a1))]) d_M_periodOf_13 rfl rfl rfl ?_
    refine z_sub (ls' := [(1, (0, a1)), (2, (0, 1)), (3, (0, Int.tmod 10 a1))]) [3, 1, 0] rfl ?_
    exact h
  · have h := h.1 c1
    refine z_iconst (n := 0) d_M_periodOf_5 (by decide) ?_
    exact z_iret d_M_periodOf_6 rfl (by decide) (by decide) ⟨rfl, rfl, h⟩
set_option maxRecDepth 8000 in
theorem b_M_periodOf_14 {X : z_X} {N : Nat} {σ g : z_G} {Q : z_P} {x1 x2 x3 : Int} (hx : z_lay X N σ 0 z_SM z_RM) (h : ((x3 = 1) → Q x2 g) ∧ (¬ (x3 = 1) → ((-2147483648 ≤ (10 * x3) ∧ (10 * x3) ≤ 2147483647) ∧ ((0 < x1) ∧ ((-2147483648 ≤ (x2 + 1) ∧ (x2 + 1) ≤ 2147483647) ∧ L_M_periodOf_14 X N σ x1 (x2 + 1) (Int.tmod (10 * x3) x1) g Q))))) : L_M_periodOf_14 X N σ x1 x2 x3 g Q := by
  refine z_iload_n (i := 3) 2 d_M_periodOf_14 rfl rfl ?_
  refine z_iconst (n := 1) d_M_periodOf_15 (by decide) ?_
  refine z_icmp_eq (tgt := 32) d_M_periodOf_16 (by decide) (fun c1 => ?_) (fun c1 => ?_)
  · have h := h.1 c1
    refine z_iload_n (i := 2) 1 d_M_periodOf_32 rfl rfl ?_
    exact z_iret d_M_periodOf_33 rfl (by decide) (by decide) ⟨rfl, rfl, h⟩
  · have h := h.2 c1
    refine z_bipush (n := 10) d_M_periodOf_19 (by decide) (by decide) ?_
    refine z_iload_n (i := 3) 2 d_M_periodOf_21 rfl rfl ?_
    obtain ⟨c2, h⟩ := h
    refine z_imul d_M_periodOf_22 c2 ?_
    refine z_iload_n (i := 1) 0 d_M_periodOf_23 rfl rfl ?_
    obtain ⟨c3, h⟩ := h
    refine z_irem d_M_periodOf_24 c3 ?_
    refine z_istore_n (i := 3) (ls' := [(3, (0, Int.tmod (10 * x3) x1)), (1, (0, x1)), (2, (0, x2))]) d_M_periodOf_25 rfl rfl rfl ?_
    obtain ⟨c4, h⟩ := h
    refine z_iinc (n := 1) (ls' := [(2, (0, x2 + 1)), (3, (0, Int.tmod (10 * x3) x1)), (1, (0, x1))]) 2 d_M_periodOf_26 rfl c4 rfl rfl ?_
    refine z_goto (tgt := 14) d_M_periodOf_29 (by decide) ?_
    refine z_sub (ls' := [(1, (0, x1)), (2, (0, x2 + 1)), (3, (0, Int.tmod (10 * x3) x1))]) [2, 0, 1] rfl ?_
    exact h
theorem d_M_plain_0 : decode (z_c m_M_plain) 0 = .ok (.iconst 0, 1) := by decide +kernel
theorem d_M_plain_1 : decode (z_c m_M_plain) 1 = .ok (.istore_n 2, 1) := by decide +kernel
theorem d_M_plain_2 : decode (z_c m_M_plain) 2 = .ok (.iload_n 2, 1) := by decide +kernel
theorem d_M_plain_3 : decode (z_c m_M_plain) 3 = .ok (.sipush 610, 3) := by decide +kernel
theorem d_M_plain_6 : decode (z_c m_M_plain) 6 = .ok (.if_icmp .ge 18, 3) := by decide +kernel
theorem d_M_plain_9 : decode (z_c m_M_plain) 9 = .ok (.aload_n 0, 1) := by decide +kernel
theorem d_M_plain_10 : decode (z_c m_M_plain) 10 = .ok (.getfield 7, 3) := by decide +kernel
theorem d_M_plain_13 : decode (z_c m_M_plain) 13 = .ok (.iload_n 1, 1) := by decide +kernel
theorem d_M_plain_14 : decode (z_c m_M_plain) 14 = .ok (.iload_n 2, 1) := by decide +kernel
theorem d_M_plain_15 : decode (z_c m_M_plain) 15 = .ok (.iadd, 1) := by decide +kernel
theorem d_M_plain_16 : decode (z_c m_M_plain) 16 = .ok (.iconst 0, 1) := by decide +kernel
theorem d_M_plain_17 : decode (z_c m_M_plain) 17 = .ok (.iastore, 1) := by decide +kernel
theorem d_M_plain_18 : decode (z_c m_M_plain) 18 = .ok (.iinc 2 1, 3) := by decide +kernel
theorem d_M_plain_21 : decode (z_c m_M_plain) 21 = .ok (.goto (-19), 3) := by decide +kernel
theorem d_M_plain_24 : decode (z_c m_M_plain) 24 = .ok (.aload_n 0, 1) := by decide +kernel
theorem d_M_plain_25 : decode (z_c m_M_plain) 25 = .ok (.getfield 7, 3) := by decide +kernel
theorem d_M_plain_28 : decode (z_c m_M_plain) 28 = .ok (.iload_n 1, 1) := by decide +kernel
theorem d_M_plain_29 : decode (z_c m_M_plain) 29 = .ok (.iconst 0, 1) := by decide +kernel
theorem d_M_plain_30 : decode (z_c m_M_plain) 30 = .ok (.iadd, 1) := by decide +kernel
theorem d_M_plain_31 : decode (z_c m_M_plain) 31 = .ok (.iconst 4, 1) := by decide +kernel
theorem d_M_plain_32 : decode (z_c m_M_plain) 32 = .ok (.iastore, 1) := by decide +kernel
theorem d_M_plain_33 : decode (z_c m_M_plain) 33 = .ok (.aload_n 0, 1) := by decide +kernel
theorem d_M_plain_34 : decode (z_c m_M_plain) 34 = .ok (.getfield 7, 3) := by decide +kernel
theorem d_M_plain_37 : decode (z_c m_M_plain) 37 = .ok (.iload_n 1, 1) := by decide +kernel
theorem d_M_plain_38 : decode (z_c m_M_plain) 38 = .ok (.iconst 1, 1) := by decide +kernel
theorem d_M_plain_39 : decode (z_c m_M_plain) 39 = .ok (.iadd, 1) := by decide +kernel
theorem d_M_plain_40 : decode (z_c m_M_plain) 40 = .ok (.iconst 5, 1) := by decide +kernel
theorem d_M_plain_41 : decode (z_c m_M_plain) 41 = .ok (.iastore, 1) := by decide +kernel
theorem d_M_plain_42 : decode (z_c m_M_plain) 42 = .ok (.aload_n 0, 1) := by decide +kernel
theorem d_M_plain_43 : decode (z_c m_M_plain) 43 = .ok (.getfield 7, 3) := by decide +kernel
theorem d_M_plain_46 : decode (z_c m_M_plain) 46 = .ok (.iload_n 1, 1) := by decide +kernel
theorem d_M_plain_47 : decode (z_c m_M_plain) 47 = .ok (.iconst 2, 1) := by decide +kernel
theorem d_M_plain_48 : decode (z_c m_M_plain) 48 = .ok (.iadd, 1) := by decide +kernel
theorem d_M_plain_49 : decode (z_c m_M_plain) 49 = .ok (.iconst 1, 1) := by decide +kernel
theorem d_M_plain_50 : decode (z_c m_M_plain) 50 = .ok (.iastore, 1) := by decide +kernel
theorem d_M_plain_51 : decode (z_c m_M_plain) 51 = .ok (.aload_n 0, 1) := by decide +kernel
theorem d_M_plain_52 : decode (z_c m_M_plain) 52 = .ok (.getfield 7, 3) := by decide +kernel
theorem d_M_plain_55 : decode (z_c m_M_plain) 55 = .ok (.iload_n 1, 1) := by decide +kernel
theorem d_M_plain_56 : decode (z_c m_M_plain) 56 = .ok (.iconst 3, 1) := by decide +kernel
theorem d_M_plain_57 : decode (z_c m_M_plain) 57 = .ok (.iadd, 1) := by decide +kernel
theorem d_M_plain_58 : decode (z_c m_M_plain) 58 = .ok (.iconst 2, 1) := by decide +kernel
theorem d_M_plain_59 : decode (z_c m_M_plain) 59 = .ok (.iastore, 1) := by decide +kernel
theorem d_M_plain_60 : decode (z_c m_M_plain) 60 = .ok (.aload_n 0, 1) := by decide +kernel
theorem d_M_plain_61 : decode (z_c m_M_plain) 61 = .ok (.getfield 7, 3) := by decide +kernel
theorem d_M_plain_64 : decode (z_c m_M_plain) 64 = .ok (.iload_n 1, 1) := by decide +kernel
theorem d_M_plain_65 : decode (z_c m_M_plain) 65 = .ok (.bipush 6, 2) := by decide +kernel
theorem d_M_plain_67 : decode (z_c m_M_plain) 67 = .ok (.iadd, 1) := by decide +kernel
theorem d_M_plain_68 : decode (z_c m_M_plain) 68 = .ok (.iconst (-1), 1) := by decide +kernel
theorem d_M_plain_69 : decode (z_c m_M_plain) 69 = .ok (.iastore, 1) := by decide +kernel
theorem d_M_plain_70 : decode (z_c m_M_plain) 70 = .ok (.return_, 1) := by decide +kernel
abbrev L_M_plain_2 (X : z_X) (N : Nat) (σ : z_G) (x1 x2 : Int) (g : z_G) (Q : z_P) : Prop := z_U X 1 m_M_plain 2 [(0, (2, 0)), (1, (0, x1)), (2, (0, x2))] [] N σ g Q
set_option maxRecDepth 8000 in
theorem b_M_plain_0 {X : z_X} {N : Nat} {σ g : z_G} {Q : z_P} {a1 : Int} (hx : z_lay X N σ 0 z_SM z_RM) (h : L_M_plain_2 X N σ a1 0 g Q) : z_O X 1 m_M_plain [(2, 0), (0, a1)] N σ g Q := by
  refine z_Oenter mi_M_plain rfl (fun _ => ?_)
  show z_U X 1 m_M_plain 0 [(0, (2, 0)), (1, (0, a1))] [] N σ g Q
  refine z_iconst (n := 0) d_M_plain_0 (by decide) ?_
  refine z_istore_n (i := 2) (ls' := [(2, (0, 0)), (0, (2, 0)), (1, (0, a1))]) d_M_plain_1 rfl rfl rfl ?_
  refine z_sub (ls' := [(0, (2, 0)), (1, (0, a1)), (2, (0, 0))]) [1, 2, 0] rfl ?_
  exact h
set_option maxRecDepth 8000 in
theorem b_M_plain_2 {X : z_X} {N : Nat} {σ g : z_G} {Q : z_P} {x1 x2 : Int} (hx : z_lay X N σ 0 z_SM z_RM) (h : ((610 ≤ x2) → ((-2147483648 ≤ (x1 + 0) ∧ (x1 + 0) ≤ 2147483647) ∧ ((0 ≤ (x1 + 0) ∧ (x1 + 0) < 3296) ∧ ((-2147483648 ≤ (x1 + 1) ∧ (x1 + 1) ≤ 2147483647) ∧ ((0 ≤ (x1 + 1) ∧ (x1 + 1) < 3296) ∧ ((-2147483648 ≤ (x1 + 2) ∧ (x1 + 2) ≤ 2147483647) ∧ ((0 ≤ (x1 + 2) ∧ (x1 + 2) < 3296) ∧ ((-2147483648 ≤ (x1 + 3) ∧ (x1 + 3) ≤ 2147483647) ∧ ((0 ≤ (x1 + 3) ∧ (x1 + 3) < 3296) ∧ ((-2147483648 ≤ (x1 + 6) ∧ (x1 + 6) ≤ 2147483647) ∧ ((0 ≤ (x1 + 6) ∧ (x1 + 6) < 3296) ∧ Q 0 (z_up (z_up (z_up (z_up (z_up g 1 (x1 + 0) 4) 1 (x1 + 1) 5) 1 (x1 + 2) 1) 1 (x1 + 3) 2) 1 (x1 + 6) (-1))))))))))))) ∧ (¬ (610 ≤ x2) → ((-2147483648 ≤ (x1 + x2) ∧ (x1 + x2) ≤ 2147483647) ∧ ((0 ≤ (x1 + x2) ∧ (x1 + x2) < 3296) ∧ ((-2147483648 ≤ (x2 + 1) ∧ (x2 + 1) ≤ 2147483647) ∧ L_M_plain_2 X N σ x1 (x2 + 1) (z_up g 1 (x1 + x2) 0) Q))))) : L_M_plain_2 X N σ x1 x2 g Q := by
  refine z_iload_n (i := 2) 2 d_M_plain_2 rfl rfl ?_
  refine z_sipush (n := 610) d_M_plain_3 (by decide) (by decide) ?_
  refine z_icmp_ge (tgt := 24) d_M_plain_6 (by decide) (fun c1 => ?_) (fun c1 => ?_)
  · have h := h.1 c1
    refine z_aload_n (i := 0) (c := 0) 0 d_M_plain_24 rfl rfl rfl ?_
    refine z_getr (c := 0) (kI := 0) (r2 := 1) d_M_plain_25 fd_M_at fl_M_7 rfl rfl rfl (ks_M_0 hx) (kl_M_0 hx) (kr_M_0_0 hx) ?_
    refine z_iload_n (i := 1) 1 d_M_plain_28 rfl rfl ?_
    refine z_iconst (n := 0) d_M_plain_29 (by decide) ?_
    obtain ⟨c2, h⟩ := h
    refine z_iadd d_M_plain_30 c2 ?_
    refine z_iconst (n := 4) d_M_plain_31 (by decide) ?_
    obtain ⟨c3, h⟩ := h
    refine z_iast (c := 1) (m := 3296) d_M_plain_32 rfl (ks_M_1 hx) (kl_M_1 hx) rfl (by decide) c3 ?_
    refine z_aload_n (i := 0) (c := 0) 0 d_M_plain_33 rfl rfl rfl ?_
    refine z_getr (c := 0) (kI := 0) (r2 := 1) d_M_plain_34 fd_M_at fl_M_7 rfl rfl rfl (ks_M_0 hx) (kl_M_0 hx) (kr_M_0_0 hx) ?_
    refine z_iload_n (i := 1) 1 d_M_plain_37 rfl rfl ?_
    refine z_iconst (n := 1) d_M_plain_38 (by decide) ?_
    obtain ⟨c4, h⟩ := h
    refine z_iadd d_M_plain_39 c4 ?_
    refine z_iconst (n := 5) d_M_plain_40 (by decide) ?_
    obtain ⟨c5, h⟩ := h
    refine z_iast (c := 1) (m := 3296) d_M_plain_41 rfl (ks_M_1 hx) (kl_M_1 hx) rfl (by decide) c5 ?_
    refine z_aload_n (i := 0) (c := 0) 0 d_M_plain_42 rfl rfl rfl ?_
    refine z_getr (c := 0) (kI := 0) (r2 := 1) d_M_plain_43 fd_M_at fl_M_7 rfl rfl rfl (ks_M_0 hx) (kl_M_0 hx) (kr_M_0_0 hx) ?_
    refine z_iload_n (i := 1) 1 d_M_plain_46 rfl rfl ?_
    refine z_iconst (n := 2) d_M_plain_47 (by decide) ?_
    obtain ⟨c6, h⟩ := h
    refine z_iadd d_M_plain_48 c6 ?_
    refine z_iconst (n := 1) d_M_plain_49 (by decide) ?_
    obtain ⟨c7, h⟩ := h
    refine z_iast (c := 1) (m := 3296) d_M_plain_50 rfl (ks_M_1 hx) (kl_M_1 hx) rfl (by decide) c7 ?_
    refine z_aload_n (i := 0) (c := 0) 0 d_M_plain_51 rfl rfl rfl ?_
    refine z_getr (c := 0) (kI := 0) (r2 := 1) d_M_plain_52 fd_M_at fl_M_7 rfl rfl rfl (ks_M_0 hx) (kl_M_0 hx) (kr_M_0_0 hx) ?_
    refine z_iload_n (i := 1) 1 d_M_plain_55 rfl rfl ?_
    refine z_iconst (n := 3) d_M_plain_56 (by decide) ?_
    obtain ⟨c8, h⟩ := h
    refine z_iadd d_M_plain_57 c8 ?_
    refine z_iconst (n := 2) d_M_plain_58 (by decide) ?_
    obtain ⟨c9, h⟩ := h
    refine z_iast (c := 1) (m := 3296) d_M_plain_59 rfl (ks_M_1 hx) (kl_M_1 hx) rfl (by decide) c9 ?_
    refine z_aload_n (i := 0) (c := 0) 0 d_M_plain_60 rfl rfl rfl ?_
    refine z_getr (c := 0) (kI := 0) (r2 := 1) d_M_plain_61 fd_M_at fl_M_7 rfl rfl rfl (ks_M_0 hx) (kl_M_0 hx) (kr_M_0_0 hx) ?_
    refine z_iload_n (i := 1) 1 d_M_plain_64 rfl rfl ?_
    refine z_bipush (n := 6) d_M_plain_65 (by decide) (by decide) ?_
    obtain ⟨c10, h⟩ := h
    refine z_iadd d_M_plain_67 c10 ?_
    refine z_iconst (n := (-1)) d_M_plain_68 (by decide) ?_
    obtain ⟨c11, h⟩ := h
    refine z_iast (c := 1) (m := 3296) d_M_plain_69 rfl (ks_M_1 hx) (kl_M_1 hx) rfl (by decide) c11 ?_
    exact z_vret d_M_plain_70 rfl (by decide) (by decide) ⟨rfl, rfl, h⟩
  · have h := h.2 c1
    refine z_aload_n (i := 0) (c := 0) 0 d_M_plain_9 rfl rfl rfl ?_
    refine z_getr (c := 0) (kI := 0) (r2 := 1) d_M_plain_10 fd_M_at fl_M_7 rfl rfl rfl (ks_M_0 hx) (kl_M_0 hx) (kr_M_0_0 hx) ?_
    refine z_iload_n (i := 1) 1 d_M_plain_13 rfl rfl ?_
    refine z_iload_n (i := 2) 2 d_M_plain_14 rfl rfl ?_
    obtain ⟨c12, h⟩ := h
    refine z_iadd d_M_plain_15 c12 ?_
    refine z_iconst (n := 0) d_M_plain_16 (by decide) ?_
    obtain ⟨c13, h⟩ := h
    refine z_iast (c := 1) (m := 3296) d_M_plain_17 rfl (ks_M_1 hx) (kl_M_1 hx) rfl (by decide) c13 ?_
    obtain ⟨c14, h⟩ := h
    refine z_iinc (n := 1) (ls' := [(2, (0, x2 + 1)), (0, (2, 0)), (1, (0, x1))]) 2 d_M_plain_18 rfl c14 rfl rfl ?_
    refine z_goto (tgt := 2) d_M_plain_21 (by decide) ?_
    refine z_sub (ls' := [(0, (2, 0)), (1, (0, x1)), (2, (0, x2 + 1))]) [1, 2, 0] rfl ?_
    exact h
theorem d_M_puts_0 : decode (z_c m_M_puts) 0 = .ok (.aload_n 0, 1) := by decide +kernel
theorem d_M_puts_1 : decode (z_c m_M_puts) 1 = .ok (.getfield 44, 3) := by decide +kernel
theorem d_M_puts_4 : decode (z_c m_M_puts) 4 = .ok (.aload_n 0, 1) := by decide +kernel
theorem d_M_puts_5 : decode (z_c m_M_puts) 5 = .ok (.getfield 237, 3) := by decide +kernel
theorem d_M_puts_8 : decode (z_c m_M_puts) 8 = .ok (.iload_n 1, 1) := by decide +kernel
theorem d_M_puts_9 : decode (z_c m_M_puts) 9 = .ok (.iastore, 1) := by decide +kernel
theorem d_M_puts_10 : decode (z_c m_M_puts) 10 = .ok (.aload_n 0, 1) := by decide +kernel
theorem d_M_puts_11 : decode (z_c m_M_puts) 11 = .ok (.getfield 47, 3) := by decide +kernel
theorem d_M_puts_14 : decode (z_c m_M_puts) 14 = .ok (.aload_n 0, 1) := by decide +kernel
theorem d_M_puts_15 : decode (z_c m_M_puts) 15 = .ok (.getfield 237, 3) := by decide +kernel
theorem d_M_puts_18 : decode (z_c m_M_puts) 18 = .ok (.iload_n 2, 1) := by decide +kernel
theorem d_M_puts_19 : decode (z_c m_M_puts) 19 = .ok (.iastore, 1) := by decide +kernel
theorem d_M_puts_20 : decode (z_c m_M_puts) 20 = .ok (.aload_n 0, 1) := by decide +kernel
theorem d_M_puts_21 : decode (z_c m_M_puts) 21 = .ok (.dup, 1) := by decide +kernel
theorem d_M_puts_22 : decode (z_c m_M_puts) 22 = .ok (.getfield 237, 3) := by decide +kernel
theorem d_M_puts_25 : decode (z_c m_M_puts) 25 = .ok (.iconst 1, 1) := by decide +kernel
theorem d_M_puts_26 : decode (z_c m_M_puts) 26 = .ok (.iadd, 1) := by decide +kernel
theorem d_M_puts_27 : decode (z_c m_M_puts) 27 = .ok (.putfield 237, 3) := by decide +kernel
theorem d_M_puts_30 : decode (z_c m_M_puts) 30 = .ok (.return_, 1) := by decide +kernel
set_option maxRecDepth 8000 in
theorem b_M_puts_0 {X : z_X} {N : Nat} {σ g : z_G} {Q : z_P} {a1 a2 : Int} (hx : z_lay X N σ 0 z_SM z_RM) (h : (0 ≤ (g 0 24) ∧ (g 0 24) < 12233) ∧ ((-2147483648 ≤ ((g 0 24) + 1) ∧ ((g 0 24) + 1) ≤ 2147483647) ∧ Q 0 (z_up (z_up (z_up g 8 (g 0 24) a1) 9 (g 0 24) a2) 0 24 ((g 0 24) + 1)))) : z_O X 1 m_M_puts [(2, 0), (0, a1), (0, a2)] N σ g Q := by
  refine z_Oenter mi_M_puts rfl (fun _ => ?_)
  show z_U X 1 m_M_puts 0 [(0, (2, 0)), (1, (0, a1)), (2, (0, a2))] [] N σ g Q
  refine z_aload_n (i := 0) (c := 0) 0 d_M_puts_0 rfl rfl rfl ?_
  refine z_getr (c := 0) (kI := 22) (r2 := 8) d_M_puts_1 fd_M_topBy fl_M_44 rfl rfl rfl (ks_M_0 hx) (kl_M_0 hx) (kr_M_0_22 hx) ?_
  refine z_aload_n (i := 0) (c := 0) 0 d_M_puts_4 rfl rfl rfl ?_
  refine z_geti (c := 0) (kI := 24) d_M_puts_5 fd_M_many fl_M_237 (Or.inl rfl) rfl rfl (ks_M_0 hx) (kl_M_0 hx) ?_
  refine z_iload_n (i := 1) 1 d_M_puts_8 rfl rfl ?_
  obtain ⟨c1, h⟩ := h
  refine z_iast (c := 8) (m := 12233) d_M_puts_9 rfl (ks_M_8 hx) (kl_M_8 hx) rfl (by decide) c1 ?_
  refine z_aload_n (i := 0) (c := 0) 0 d_M_puts_10 rfl rfl rfl ?_
  refine z_getr (c := 0) (kI := 23) (r2 := 9) d_M_puts_11 fd_M_bottomBy fl_M_47 rfl rfl rfl (ks_M_0 hx) (kl_M_0 hx) (kr_M_0_23 hx) ?_
  refine z_aload_n (i := 0) (c := 0) 0 d_M_puts_14 rfl rfl rfl ?_
  refine z_geti (c := 0) (kI := 24) d_M_puts_15 fd_M_many fl_M_237 (Or.inl rfl) rfl rfl (ks_M_0 hx) (kl_M_0 hx) ?_
  refine z_ti (b := g 0 24) (by simp [z_up]) ?_
  refine z_iload_n (i := 2) 2 d_M_puts_18 rfl rfl ?_
  refine z_iast (c := 9) (m := 12233) d_M_puts_19 rfl (ks_M_9 hx) (kl_M_9 hx) rfl (by decide) c1 ?_
  refine z_aload_n (i := 0) (c := 0) 0 d_M_puts_20 rfl rfl rfl ?_
  refine z_dup d_M_puts_21 rfl ?_
  refine z_geti (c := 0) (kI := 24) d_M_puts_22 fd_M_many fl_M_237 (Or.inl rfl) rfl rfl (ks_M_0 hx) (kl_M_0 hx) ?_
  refine z_ti (b := g 0 24) (by simp [z_up]) ?_
  refine z_iconst (n := 1) d_M_puts_25 (by decide) ?_
  obtain ⟨c2, h⟩ := h
  refine z_iadd d_M_puts_26 c2 ?_
  refine z_puti (c := 0) (kI := 24) d_M_puts_27 fd_M_many fl_M_237 pf_M_many rfl rfl rfl rfl (ks_M_0 hx) (kl_M_0 hx) ?_
  exact z_vret d_M_puts_30 rfl (by decide) (by decide) ⟨rfl, rfl, h⟩
theorem d_M_ranIf_0 : decode (z_c m_M_ranIf) 0 = .ok (.iload_n 2, 1) := by decide +kernel
theorem d_M_ranIf_1 : decode (z_c m_M_ranIf) 1 = .ok (.ifCond .eq 13, 3) := by decide +kernel
theorem d_M_ranIf_4 : decode (z_c m_M_ranIf) 4 = .ok (.aload_n 0, 1) := by decide +kernel
theorem d_M_ranIf_5 : decode (z_c m_M_ranIf) 5 = .ok (.getfield 68, 3) := by decide +kernel
theorem d_M_ranIf_8 : decode (z_c m_M_ranIf) 8 = .ok (.iload_n 1, 1) := by decide +kernel
theorem d_M_ranIf_9 : decode (z_c m_M_ranIf) 9 = .ok (.dup2, 1) := by decide +kernel
theorem d_M_ranIf_10 : decode (z_c m_M_ranIf) 10 = .ok (.iaload, 1) := by decide +kernel
theorem d_M_ranIf_11 : decode (z_c m_M_ranIf) 11 = .ok (.iconst 1, 1) := by decide +kernel
theorem d_M_ranIf_12 : decode (z_c m_M_ranIf) 12 = .ok (.iadd, 1) := by decide +kernel
theorem d_M_ranIf_13 : decode (z_c m_M_ranIf) 13 = .ok (.iastore, 1) := by decide +kernel
theorem d_M_ranIf_14 : decode (z_c m_M_ranIf) 14 = .ok (.iload_n 2, 1) := by decide +kernel
theorem d_M_ranIf_15 : decode (z_c m_M_ranIf) 15 = .ok (.ireturn, 1) := by decide +kernel
set_option maxRecDepth 8000 in
theorem b_M_ranIf_0 {X : z_X} {N : Nat} {σ g : z_G} {Q : z_P} {a1 a2 : Int} (hx : z_lay X N σ 0 z_SM z_RM) (h : ((a2 = 0) → ((a2 = 0 ∨ a2 = 1) ∧ Q a2 g)) ∧ (¬ (a2 = 0) → ((0 ≤ a1 ∧ a1 < 5) ∧ ((-2147483648 ≤ ((g 16 a1) + 1) ∧ ((g 16 a1) + 1) ≤ 2147483647) ∧ ((a2 = 0 ∨ a2 = 1) ∧ Q a2 (z_up g 16 a1 ((g 16 a1) + 1))))))) : z_O X 1 m_M_ranIf [(2, 0), (0, a1), (0, a2)] N σ g Q := by
  refine z_Oenter mi_M_ranIf rfl (fun _ => ?_)
  show z_U X 1 m_M_ranIf 0 [(0, (2, 0)), (1, (0, a1)), (2, (0, a2))] [] N σ g Q
  refine z_iload_n (i := 2) 2 d_M_ranIf_0 rfl rfl ?_
  refine z_if_eq (tgt := 14) d_M_ranIf_1 (by decide) (fun c1 => ?_) (fun c1 => ?_)
  · have h := h.1 c1
    refine z_iload_n (i := 2) 2 d_M_ranIf_14 rfl rfl ?_
    obtain ⟨c2, h⟩ := h
    exact z_zret d_M_ranIf_15 rfl (by decide) (by decide) c2 ⟨rfl, rfl, h⟩
  · have h := h.2 c1
    refine z_aload_n (i := 0) (c := 0) 0 d_M_ranIf_4 rfl rfl rfl ?_
    refine z_getr (c := 0) (kI := 38) (r2 := 16) d_M_ranIf_5 fd_M_ran fl_M_68 rfl rfl rfl (ks_M_0 hx) (kl_M_0 hx) (kr_M_0_38 hx) ?_
    refine z_iload_n (i := 1) 1 d_M_ranIf_8 rfl rfl ?_
    refine z_dup2 d_M_ranIf_9 rfl rfl ?_
    obtain ⟨c3, h⟩ := h
    refine z_iald (c := 16) (m := 5) d_M_ranIf_10 rfl (ks_M_16 hx) (kl_M_16 hx) rfl (by decide) c3 ?_
    refine z_iconst (n := 1) d_M_ranIf_11 (by decide) ?_
    obtain ⟨c4, h⟩ := h
    refine z_iadd d_M_ranIf_12 c4 ?_
    refine z_iast (c := 16) (m := 5) d_M_ranIf_13 rfl (ks_M_16 hx) (kl_M_16 hx) rfl (by decide) c3 ?_
    refine z_iload_n (i := 2) 2 d_M_ranIf_14 rfl rfl ?_
    obtain ⟨c5, h⟩ := h
    exact z_zret d_M_ranIf_15 rfl (by decide) (by decide) c5 ⟨rfl, rfl, h⟩
theorem d_M_refuse_0 : decode (z_c m_M_refuse) 0 = .ok (.aload_n 0, 1) := by decide +kernel
theorem d_M_refuse_1 : decode (z_c m_M_refuse) 1 = .ok (.iload_n 1, 1) := by decide +kernel
theorem d_M_refuse_2 : decode (z_c m_M_refuse) 2 = .ok (.putfield 81, 3) := by decide +kernel
theorem d_M_refuse_5 : decode (z_c m_M_refuse) 5 = .ok (.iconst (-1), 1) := by decide +kernel
theorem d_M_refuse_6 : decode (z_c m_M_refuse) 6 = .ok (.ireturn, 1) := by decide +kernel
set_option maxRecDepth 8000 in
theorem b_M_refuse_0 {X : z_X} {N : Nat} {σ g : z_G} {Q : z_P} {a1 : Int} (hx : z_lay X N σ 0 z_SM z_RM) (h : Q (-1) (z_up g 0 1 a1)) : z_O X 1 m_M_refuse [(2, 0), (0, a1)] N σ g Q := by
  refine z_Oenter mi_M_refuse rfl (fun _ => ?_)
  show z_U X 1 m_M_refuse 0 [(0, (2, 0)), (1, (0, a1))] [] N σ g Q
  refine z_aload_n (i := 0) (c := 0) 0 d_M_refuse_0 rfl rfl rfl ?_
  refine z_iload_n (i := 1) 1 d_M_refuse_1 rfl rfl ?_
  refine z_puti (c := 0) (kI := 1) d_M_refuse_2 fd_M_status fl_M_81 pf_M_status rfl rfl rfl rfl (ks_M_0 hx) (kl_M_0 hx) ?_
  refine z_iconst (n := (-1)) d_M_refuse_5 (by decide) ?_
  exact z_iret d_M_refuse_6 rfl (by decide) (by decide) ⟨rfl, rfl, h⟩
theorem d_M_rowOf_0 : decode (z_c m_M_rowOf) 0 = .ok (.bipush 10, 2) := by decide +kernel
theorem d_M_rowOf_2 : decode (z_c m_M_rowOf) 2 = .ok (.iconst 3, 1) := by decide +kernel
theorem d_M_rowOf_3 : decode (z_c m_M_rowOf) 3 = .ok (.iload_n 0, 1) := by decide +kernel
theorem d_M_rowOf_4 : decode (z_c m_M_rowOf) 4 = .ok (.imul, 1) := by decide +kernel
theorem d_M_rowOf_5 : decode (z_c m_M_rowOf) 5 = .ok (.iadd, 1) := by decide +kernel
theorem d_M_rowOf_6 : decode (z_c m_M_rowOf) 6 = .ok (.ireturn, 1) := by decide +kernel
set_option maxRecDepth 8000 in
theorem b_M_rowOf_0 {X : z_X} {N : Nat} {σ g : z_G} {Q : z_P} {a0 : Int} (h : (-2147483648 ≤ (3 * a0) ∧ (3 * a0) ≤ 2147483647) ∧ ((-2147483648 ≤ (10 + (3 * a0)) ∧ (10 + (3 * a0)) ≤ 2147483647) ∧ Q (10 + (3 * a0)) g)) : z_O X 1 m_M_rowOf [(0, a0)] N σ g Q := by
  refine z_Oenter mi_M_rowOf rfl (fun _ => ?_)
  show z_U X 1 m_M_rowOf 0 [(0, (0, a0))] [] N σ g Q
  refine z_bipush (n := 10) d_M_rowOf_0 (by decide) (by decide) ?_
  refine z_iconst (n := 3) d_M_rowOf_2 (by decide) ?_
  refine z_iload_n (i := 0) 0 d_M_rowOf_3 rfl rfl ?_
  obtain ⟨c1, h⟩ := h
  refine z_imul d_M_rowOf_4 c1 ?_
  obtain ⟨c2, h⟩ := h
  refine z_iadd d_M_rowOf_5 c2 ?_
  exact z_iret d_M_rowOf_6 rfl (by decide) (by decide) ⟨rfl, rfl, h⟩
theorem d_M_sees_0 : decode (z_c m_M_sees) 0 = .ok (.sipush 10000, 3) := by decide +kernel
theorem d_M_sees_3 : decode (z_c m_M_sees) 3 = .ok (.aload_n 0, 1) := by decide +kernel
theorem d_M_sees_4 : decode (z_c m_M_sees) 4 = .ok (.getfield 7, 3) := by decide +kernel
theorem d_M_sees_7 : decode (z_c m_M_sees) 7 = .ok (.iload_n 1, 1) := by decide +kernel
theorem d_M_sees_8 : decode (z_c m_M_sees) 8 = .ok (.iconst 2, 1) := by decide +kernel
theorem d_M_sees_9 : decode (z_c m_M_sees) 9 = .ok (.iadd, 1) := by decide +kernel
theorem d_M_sees_10 : decode (z_c m_M_sees) 10 = .ok (.iaload, 1) := by decide +kernel
theorem d_M_sees_11 : decode (z_c m_M_sees) 11 = .ok (.imul, 1) := by decide +kernel
theorem d_M_sees_12 : decode (z_c m_M_sees) 12 = .ok (.aload_n 0, 1) := by decide +kernel
theorem d_M_sees_13 : decode (z_c m_M_sees) 13 = .ok (.getfield 7, 3) := by decide +kernel
theorem d_M_sees_16 : decode (z_c m_M_sees) 16 = .ok (.iload_n 1, 1) := by decide +kernel
theorem d_M_sees_17 : decode (z_c m_M_sees) 17 = .ok (.iconst 3, 1) := by decide +kernel
theorem d_M_sees_18 : decode (z_c m_M_sees) 18 = .ok (.iadd, 1) := by decide +kernel
theorem d_M_sees_19 : decode (z_c m_M_sees) 19 = .ok (.iaload, 1) := by decide +kernel
theorem d_M_sees_20 : decode (z_c m_M_sees) 20 = .ok (.iadd, 1) := by decide +kernel
theorem d_M_sees_21 : decode (z_c m_M_sees) 21 = .ok (.istore_n 2, 1) := by decide +kernel
theorem d_M_sees_22 : decode (z_c m_M_sees) 22 = .ok (.iconst 0, 1) := by decide +kernel
theorem d_M_sees_23 : decode (z_c m_M_sees) 23 = .ok (.istore_n 3, 1) := by decide +kernel
theorem d_M_sees_24 : decode (z_c m_M_sees) 24 = .ok (.iload_n 3, 1) := by decide +kernel
theorem d_M_sees_25 : decode (z_c m_M_sees) 25 = .ok (.aload_n 0, 1) := by decide +kernel
theorem d_M_sees_26 : decode (z_c m_M_sees) 26 = .ok (.getfield 7, 3) := by decide +kernel
theorem d_M_sees_29 : decode (z_c m_M_sees) 29 = .ok (.iload_n 1, 1) := by decide +kernel
theorem d_M_sees_30 : decode (z_c m_M_sees) 30 = .ok (.iconst 5, 1) := by decide +kernel
theorem d_M_sees_31 : decode (z_c m_M_sees) 31 = .ok (.iadd, 1) := by decide +kernel
theorem d_M_sees_32 : decode (z_c m_M_sees) 32 = .ok (.iaload, 1) := by decide +kernel
theorem d_M_sees_33 : decode (z_c m_M_sees) 33 = .ok (.if_icmp .ge 25, 3) := by decide +kernel
theorem d_M_sees_36 : decode (z_c m_M_sees) 36 = .ok (.aload_n 0, 1) := by decide +kernel
theorem d_M_sees_37 : decode (z_c m_M_sees) 37 = .ok (.getfield 7, 3) := by decide +kernel
theorem d_M_sees_40 : decode (z_c m_M_sees) 40 = .ok (.iload_n 1, 1) := by decide +kernel
theorem d_M_sees_41 : decode (z_c m_M_sees) 41 = .ok (.bipush 46, 2) := by decide +kernel
theorem d_M_sees_43 : decode (z_c m_M_sees) 43 = .ok (.iadd, 1) := by decide +kernel
theorem d_M_sees_44 : decode (z_c m_M_sees) 44 = .ok (.iload_n 3, 1) := by decide +kernel
theorem d_M_sees_45 : decode (z_c m_M_sees) 45 = .ok (.iadd, 1) := by decide +kernel
theorem d_M_sees_46 : decode (z_c m_M_sees) 46 = .ok (.iaload, 1) := by decide +kernel
theorem d_M_sees_47 : decode (z_c m_M_sees) 47 = .ok (.iload_n 2, 1) := by decide +kernel
theorem d_M_sees_48 : decode (z_c m_M_sees) 48 = .ok (.if_icmp .ne 4, 3) := by decide +kernel
theorem d_M_sees_51 : decode (z_c m_M_sees) 51 = .ok (.return_, 1) := by decide +kernel
theorem d_M_sees_52 : decode (z_c m_M_sees) 52 = .ok (.iinc 3 1, 3) := by decide +kernel
theorem d_M_sees_55 : decode (z_c m_M_sees) 55 = .ok (.goto (-31), 3) := by decide +kernel
theorem d_M_sees_58 : decode (z_c m_M_sees) 58 = .ok (.aload_n 0, 1) := by decide +kernel
theorem d_M_sees_59 : decode (z_c m_M_sees) 59 = .ok (.getfield 7, 3) := by decide +kernel
theorem d_M_sees_62 : decode (z_c m_M_sees) 62 = .ok (.iload_n 1, 1) := by decide +kernel
theorem d_M_sees_63 : decode (z_c m_M_sees) 63 = .ok (.iconst 5, 1) := by decide +kernel
theorem d_M_sees_64 : decode (z_c m_M_sees) 64 = .ok (.iadd, 1) := by decide +kernel
theorem d_M_sees_65 : decode (z_c m_M_sees) 65 = .ok (.iaload, 1) := by decide +kernel
theorem d_M_sees_66 : decode (z_c m_M_sees) 66 = .ok (.sipush 200, 3) := by decide +kernel
theorem d_M_sees_69 : decode (z_c m_M_sees) 69 = .ok (.if_icmp .ne 4, 3) := by decide +kernel
theorem d_M_sees_72 : decode (z_c m_M_sees) 72 = .ok (.return_, 1) := by decide +kernel
theorem d_M_sees_73 : decode (z_c m_M_sees) 73 = .ok (.aload_n 0, 1) := by decide +kernel
theorem d_M_sees_74 : decode (z_c m_M_sees) 74 = .ok (.getfield 7, 3) := by decide +kernel
theorem d_M_sees_77 : decode (z_c m_M_sees) 77 = .ok (.iload_n 1, 1) := by decide +kernel
theorem d_M_sees_78 : decode (z_c m_M_sees) 78 = .ok (.bipush 46, 2) := by decide +kernel
theorem d_M_sees_80 : decode (z_c m_M_sees) 80 = .ok (.iadd, 1) := by decide +kernel
theorem d_M_sees_81 : decode (z_c m_M_sees) 81 = .ok (.aload_n 0, 1) := by decide +kernel
theorem d_M_sees_82 : decode (z_c m_M_sees) 82 = .ok (.getfield 7, 3) := by decide +kernel
theorem d_M_sees_85 : decode (z_c m_M_sees) 85 = .ok (.iload_n 1, 1) := by decide +kernel
theorem d_M_sees_86 : decode (z_c m_M_sees) 86 = .ok (.iconst 5, 1) := by decide +kernel
theorem d_M_sees_87 : decode (z_c m_M_sees) 87 = .ok (.iadd, 1) := by decide +kernel
theorem d_M_sees_88 : decode (z_c m_M_sees) 88 = .ok (.iaload, 1) := by decide +kernel
theorem d_M_sees_89 : decode (z_c m_M_sees) 89 = .ok (.iadd, 1) := by decide +kernel
theorem d_M_sees_90 : decode (z_c m_M_sees) 90 = .ok (.iload_n 2, 1) := by decide +kernel
theorem d_M_sees_91 : decode (z_c m_M_sees) 91 = .ok (.iastore, 1) := by decide +kernel
theorem d_M_sees_92 : decode (z_c m_M_sees) 92 = .ok (.aload_n 0, 1) := by decide +kernel
theorem d_M_sees_93 : decode (z_c m_M_sees) 93 = .ok (.getfield 7, 3) := by decide +kernel
theorem d_M_sees_96 : decode (z_c m_M_sees) 96 = .ok (.iload_n 1, 1) := by decide +kernel
theorem d_M_sees_97 : decode (z_c m_M_sees) 97 = .ok (.iconst 5, 1) := by decide +kernel
theorem d_M_sees_98 : decode (z_c m_M_sees) 98 = .ok (.iadd, 1) := by decide +kernel
theorem d_M_sees_99 : decode (z_c m_M_sees) 99 = .ok (.dup2, 1) := by decide +kernel
theorem d_M_sees_100 : decode (z_c m_M_sees) 100 = .ok (.iaload, 1) := by decide +kernel
theorem d_M_sees_101 : decode (z_c m_M_sees) 101 = .ok (.iconst 1, 1) := by decide +kernel
theorem d_M_sees_102 : decode (z_c m_M_sees) 102 = .ok (.iadd, 1) := by decide +kernel
theorem d_M_sees_103 : decode (z_c m_M_sees) 103 = .ok (.iastore, 1) := by decide +kernel
theorem d_M_sees_104 : decode (z_c m_M_sees) 104 = .ok (.return_, 1) := by decide +kernel
abbrev L_M_sees_24 (X : z_X) (N : Nat) (σ : z_G) (x1 x2 x3 : Int) (g : z_G) (Q : z_P) : Prop := z_U X 1 m_M_sees 24 [(0, (2, 0)), (1, (0, x1)), (2, (0, x2)), (3, (0, x3))] [] N σ g Q
set_option maxRecDepth 8000 in
theorem b_M_sees_0 {X : z_X} {N : Nat} {σ g : z_G} {Q : z_P} {a1 : Int} (hx : z_lay X N σ 0 z_SM z_RM) (h : (-2147483648 ≤ (a1 + 2) ∧ (a1 + 2) ≤ 2147483647) ∧ ((0 ≤ (a1 + 2) ∧ (a1 + 2) < 3296) ∧ ((-2147483648 ≤ (10000 * (g 1 (a1 + 2))) ∧ (10000 * (g 1 (a1 + 2))) ≤ 2147483647) ∧ ((-2147483648 ≤ (a1 + 3) ∧ (a1 + 3) ≤ 2147483647) ∧ ((0 ≤ (a1 + 3) ∧ (a1 + 3) < 3296) ∧ ((-2147483648 ≤ ((10000 * (g 1 (a1 + 2))) + (g 1 (a1 + 3))) ∧ ((10000 * (g 1 (a1 + 2))) + (g 1 (a1 + 3))) ≤ 2147483647) ∧ L_M_sees_24 X N σ a1 ((10000 * (g 1 (a1 + 2))) + (g 1 (a1 + 3))) 0 g Q)))))) : z_O X 1 m_M_sees [(2, 0), (0, a1)] N σ g Q := by
  refine z_Oenter mi_M_sees rfl (fun _ => ?_)
  show z_U X 1 m_M_sees 0 [(0, (2, 0)), (1, (0, a1))] [] N σ g Q
  refine z_sipush (n := 10000) d_M_sees_0 (by decide) (by decide) ?_
  refine z_aload_n (i := 0) (c := 0) 0 d_M_sees_3 rfl rfl rfl ?_
  refine z_getr (c := 0) (kI := 0) (r2 := 1) d_M_sees_4 fd_M_at fl_M_7 rfl rfl rfl (ks_M_0 hx) (kl_M_0 hx) (kr_M_0_0 hx) ?_
  refine z_iload_n (i := 1) 1 d_M_sees_7 rfl rfl ?_
  refine z_iconst (n := 2) d_M_sees_8 (by decide) ?_
  obtain ⟨c1, h⟩ := h
  refine z_iadd d_M_sees_9 c1 ?_
  obtain ⟨c2, h⟩ := h
  refine z_iald (c := 1) (m := 3296) d_M_sees_10 rfl (ks_M_1 hx) (kl_M_1 hx) rfl (by decide) c2 ?_
  obtain ⟨c3, h⟩ := h
  refine z_imul d_M_sees_11 c3 ?_
  refine z_aload_n (i := 0) (c := 0) 0 d_M_sees_12 rfl rfl rfl ?_
  refine z_getr (c := 0) (kI := 0) (r2 := 1) d_M_sees_13 fd_M_at fl_M_7 rfl rfl rfl (ks_M_0 hx) (kl_M_0 hx) (kr_M_0_0 hx) ?_
  refine z_iload_n (i := 1) 1 d_M_sees_16 rfl rfl ?_
  refine z_iconst (n := 3) d_M_sees_17 (by decide) ?_
  obtain ⟨c4, h⟩ := h
  refine z_iadd d_M_sees_18 c4 ?_
  obtain ⟨c5, h⟩ := h
  refine z_iald (c := 1) (m := 3296) d_M_sees_19 rfl (ks_M_1 hx) (kl_M_1 hx) rfl (by decide) c5 ?_
  obtain ⟨c6, h⟩ := h
  refine z_iadd d_M_sees_20 c6 ?_
  refine z_istore_n (i := 2) (ls' := [(2, (0, (10000 * (g 1 (a1 + 2))) + (g 1 (a1 + 3)))), (0, (2, 0)), (1, (0, a1))]) d_M_sees_21 rfl rfl rfl ?_
  refine z_iconst (n := 0) d_M_sees_22 (by decide) ?_
  refine z_istore_n (i := 3) (ls' := [(3, (0, 0)), (2, (0, (10000 * (g 1 (a1 + 2))) + (g 1 (a1 + 3)))), (0, (2, 0)), (1, (0, a1))]) d_M_sees_23 rfl rfl rfl ?_
  refine z_sub (ls' := [(0, (2, 0)), (1, (0, a1)), (2, (0, (10000 * (g 1 (a1 + 2))) + (g 1 (a1 + 3)))), (3, (0, 0))]) [2, 3, 1, 0] rfl ?_
  exact h
set_option maxRecDepth 8000 in
theorem b_M_sees_24 {X : z_X} {N : Nat} {σ g : z_G} {Q : z_P} {x1 x2 x3 : Int} (hx : z_lay X N σ 0 z_SM z_RM) (h : (-2147483648 ≤ (x1 + 5) ∧ (x1 + 5) ≤ 2147483647) ∧ ((0 ≤ (x1 + 5) ∧ (x1 + 5) < 3296) ∧ ((((g 1 (x1 + 5)) ≤ x3) → ((((g 1 (x1 + 5)) = 200) → Q 0 g) ∧ (¬ ((g 1 (x1 + 5)) = 200) → ((-2147483648 ≤ (x1 + 46) ∧ (x1 + 46) ≤ 2147483647) ∧ ((-2147483648 ≤ ((x1 + 46) + (g 1 (x1 + 5))) ∧ ((x1 + 46) + (g 1 (x1 + 5))) ≤ 2147483647) ∧ ((0 ≤ ((x1 + 46) + (g 1 (x1 + 5))) ∧ ((x1 + 46) + (g 1 (x1 + 5))) < 3296) ∧ ((-2147483648 ≤ (((z_up g 1 ((x1 + 46) + (g 1 (x1 + 5))) x2) 1 (x1 + 5)) + 1) ∧ (((z_up g 1 ((x1 + 46) + (g 1 (x1 + 5))) x2) 1 (x1 + 5)) + 1) ≤ 2147483647) ∧ Q 0 (z_up (z_up g 1 ((x1 + 46) + (g 1 (x1 + 5))) x2) 1 (x1 + 5) (((z_up g 1 ((x1 + 46) + (g 1 (x1 + 5))) x2) 1 (x1 + 5)) + 1))))))))) ∧ (¬ ((g 1 (x1 + 5)) ≤ x3) → ((-2147483648 ≤ (x1 + 46) ∧ (x1 + 46) ≤ 2147483647) ∧ ((-2147483648 ≤ ((x1 + 46) + x3) ∧ ((x1 + 46) + x3) ≤ 2147483647) ∧ ((0 ≤ ((x1 + 46) + x3) ∧ ((x1 + 46) + x3) < 3296) ∧ ((((g 1 ((x1 + 46) + x3)) = x2) → Q 0 g) ∧ (¬ ((g 1 ((x1 + 46) + x3)) = x2) → ((-2147483648 ≤ (x3 + 1) ∧ (x3 + 1) ≤ 2147483647) ∧ L_M_sees_24 X N σ x1 x2 (x3 + 1) g Q)))))))))) : L_M_sees_24 X N σ x1 x2 x3 g Q := by
  refine z_iload_n (i := 3) 3 d_M_sees_24 rfl rfl ?_
  refine z_aload_n (i := 0) (c := 0) 0 d_M_sees_25 rfl rfl rfl ?_
  refine z_getr (c := 0) (kI := 0) (r2 := 1) d_M_sees_26 fd_M_at fl_M_7 rfl rfl rfl (ks_M_0 hx) (kl_M_0 hx) (kr_M_0_0 hx) ?_
  refine z_iload_n (i := 1) 1 d_M_sees_29 rfl rfl ?_
  refine z_iconst (n := 5) d_M_sees_30 (by decide) ?_
  obtain ⟨c1, h⟩ := h
  refine z_iadd d_M_sees_31 c1 ?_
  obtain ⟨c2, h⟩ := h
  refine z_iald (c := 1) (m := 3296) d_M_sees_32 rfl (ks_M_1 hx) (kl_M_1 hx) rfl (by decide) c2 ?_
  refine z_icmp_ge (tgt := 58) d_M_sees_33 (by decide) (fun c3 => ?_) (fun c3 => ?_)
  · have h := h.1 c3
    refine z_aload_n (i := 0) (c := 0) 0 d_M_sees_58 rfl rfl rfl ?_
    refine z_getr (c := 0) (kI := 0) (r2 := 1) d_M_sees_59 fd_M_at fl_M_7 rfl rfl rfl (ks_M_0 hx) (kl_M_0 hx) (kr_M_0_0 hx) ?_
    refine z_iload_n (i := 1) 1 d_M_sees_62 rfl rfl ?_
    refine z_iconst (n := 5) d_M_sees_63 (by decide) ?_
    refine z_iadd d_M_sees_64 c1 ?_
    refine z_iald (c := 1) (m := 3296) d_M_sees_65 rfl (ks_M_1 hx) (kl_M_1 hx) rfl (by decide) c2 ?_
    refine z_sipush (n := 200) d_M_sees_66 (by decide) (by decide) ?_
    refine z_icmp_ne (tgt := 73) d_M_sees_69 (by decide) (fun c4 => ?_) (fun c4 => ?_)
    · have h := h.2 c4
      refine z_aload_n (i := 0) (c := 0) 0 d_M_sees_73 rfl rfl rfl ?_
      refine z_getr (c := 0) (kI := 0) (r2 := 1) d_M_sees_74 fd_M_at fl_M_7 rfl rfl rfl (ks_M_0 hx) (kl_M_0 hx) (kr_M_0_0 hx) ?_
      refine z_iload_n (i := 1) 1 d_M_sees_77 rfl rfl ?_
      refine z_bipush (n := 46) d_M_sees_78 (by decide) (by decide) ?_
      obtain ⟨c5, h⟩ := h
      refine z_iadd d_M_sees_80 c5 ?_
      refine z_aload_n (i := 0) (c := 0) 0 d_M_sees_81 rfl rfl rfl ?_
      refine z_getr (c := 0) (kI := 0) (r2 := 1) d_M_sees_82 fd_M_at fl_M_7 rfl rfl rfl (ks_M_0 hx) (kl_M_0 hx) (kr_M_0_0 hx) ?_
      refine z_iload_n (i := 1) 1 d_M_sees_85 rfl rfl ?_
      refine z_iconst (n := 5) d_M_sees_86 (by decide) ?_
      refine z_iadd d_M_sees_87 c1 ?_
      refine z_iald (c := 1) (m := 3296) d_M_sees_88 rfl (ks_M_1 hx) (kl_M_1 hx) rfl (by decide) c2 ?_
      obtain ⟨c6, h⟩ := h
      refine z_iadd d_M_sees_89 c6 ?_
      refine z_iload_n (i := 2) 2 d_M_sees_90 rfl rfl ?_
      obtain ⟨c7, h⟩ := h
      refine z_iast (c := 1) (m := 3296) d_M_sees_91 rfl (ks_M_1 hx) (kl_M_1 hx) rfl (by decide) c7 ?_
      refine z_aload_n (i := 0) (c := 0) 0 d_M_sees_92 rfl rfl rfl ?_
      refine z_getr (c := 0) (kI := 0) (r2 := 1) d_M_sees_93 fd_M_at fl_M_7 rfl rfl rfl (ks_M_0 hx) (kl_M_0 hx) (kr_M_0_0 hx) ?_
      refine z_iload_n (i := 1) 1 d_M_sees_96 rfl rfl ?_
      refine z_iconst (n := 5) d_M_sees_97 (by decide) ?_
      refine z_iadd d_M_sees_98 c1 ?_
      refine z_dup2 d_M_sees_99 rfl rfl ?_
      refine z_iald (c := 1) (m := 3296) d_M_sees_100 rfl (ks_M_1 hx) (kl_M_1 hx) rfl (by decide) c2 ?_
      refine z_iconst (n := 1) d_M_sees_101 (by decide) ?_
      obtain ⟨c8, h⟩ := h
      refine z_iadd d_M_sees_102 c8 ?_
      refine z_iast (c := 1) (m := 3296) d_M_sees_103 rfl (ks_M_1 hx) (kl_M_1 hx) rfl (by decide) c2 ?_
      exact z_vret d_M_sees_104 rfl (by decide) (by decide) ⟨rfl, rfl, h⟩
    · have h := h.1 c4
      exact z_vret d_M_sees_72 rfl (by decide) (by decide) ⟨rfl, rfl, h⟩
  · have h := h.2 c3
    refine z_aload_n (i := 0) (c := 0) 0 d_M_sees_36 rfl rfl rfl ?_
    refine z_getr (c := 0) (kI := 0) (r2 := 1) d_M_sees_37 fd_M_at fl_M_7 rfl rfl rfl (ks_M_0 hx) (kl_M_0 hx) (kr_M_0_0 hx) ?_
    refine z_iload_n (i := 1) 1 d_M_sees_40 rfl rfl ?_
    refine z_bipush (n := 46) d_M_sees_41 (by decide) (by decide) ?_
    obtain ⟨c9, h⟩ := h
    refine z_iadd d_M_sees_43 c9 ?_
    refine z_iload_n (i := 3) 3 d_M_sees_44 rfl rfl ?_
    obtain ⟨c10, h⟩ := h
    refine z_iadd d_M_sees_45 c10 ?_
    obtain ⟨c11, h⟩ := h
    refine z_iald (c := 1) (m := 3296) d_M_sees_46 rfl (ks_M_1 hx) (kl_M_1 hx) rfl (by decide) c11 ?_
    refine z_iload_n (i := 2) 2 d_M_sees_47 rfl rfl ?_
    refine z_icmp_ne (tgt := 52) d_M_sees_48 (by decide) (fun c12 => ?_) (fun c12 => ?_)
    · have h := h.2 c12
      obtain ⟨c13, h⟩ := h
      refine z_iinc (n := 1) (ls' := [(3, (0, x3 + 1)), (0, (2, 0)), (1, (0, x1)), (2, (0, x2))]) 3 d_M_sees_52 rfl c13 rfl rfl ?_
      refine z_goto (tgt := 24) d_M_sees_55 (by decide) ?_
      refine z_sub (ls' := [(0, (2, 0)), (1, (0, x1)), (2, (0, x2)), (3, (0, x3 + 1))]) [1, 2, 3, 0] rfl ?_
      exact h
    · have h := h.1 c12
      exact z_vret d_M_sees_51 rfl (by decide) (by decide) ⟨rfl, rfl, h⟩
theorem d_M_status_0 : decode (z_c m_M_status) 0 = .ok (.aload_n 0, 1) := by decide +kernel
theorem d_M_status_1 : decode (z_c m_M_status) 1 = .ok (.getfield 81, 3) := by decide +kernel
theorem d_M_status_4 : decode (z_c m_M_status) 4 = .ok (.ireturn, 1) := by decide +kernel
set_option maxRecDepth 8000 in
theorem b_M_status_0 {X : z_X} {N : Nat} {σ g : z_G} {Q : z_P} (hx : z_lay X N σ 0 z_SM z_RM) (h : Q (g 0 1) g) : z_O X 1 m_M_status [(2, 0)] N σ g Q := by
  refine z_Oenter mi_M_status rfl (fun _ => ?_)
  show z_U X 1 m_M_status 0 [(0, (2, 0))] [] N σ g Q
  refine z_aload_n (i := 0) (c := 0) 0 d_M_status_0 rfl rfl rfl ?_
  refine z_geti (c := 0) (kI := 1) d_M_status_1 fd_M_status fl_M_81 (Or.inl rfl) rfl rfl (ks_M_0 hx) (kl_M_0 hx) ?_
  exact z_iret d_M_status_4 rfl (by decide) (by decide) ⟨rfl, rfl, h⟩
theorem d_M_times_0 : decode (z_c m_M_times) 0 = .ok (.iconst 0, 1) := by decide +kernel
theorem d_M_times_1 : decode (z_c m_M_times) 1 = .ok (.istore_n 2, 1) := by decide +kernel
theorem d_M_times_2 : decode (z_c m_M_times) 2 = .ok (.aload_n 0, 1) := by decide +kernel
theorem d_M_times_3 : decode (z_c m_M_times) 3 = .ok (.getfield 311, 3) := by decide +kernel
theorem d_M_times_6 : decode (z_c m_M_times) 6 = .ok (.iload_n 1, 1) := by decide +kernel
theorem d_M_times_7 : decode (z_c m_M_times) 7 = .ok (.irem, 1) := by decide +kernel
theorem d_M_times_8 : decode (z_c m_M_times) 8 = .ok (.ifCond .ne 19, 3) := by decide +kernel
theorem d_M_times_11 : decode (z_c m_M_times) 11 = .ok (.aload_n 0, 1) := by decide +kernel
theorem d_M_times_12 : decode (z_c m_M_times) 12 = .ok (.dup, 1) := by decide +kernel
theorem d_M_times_13 : decode (z_c m_M_times) 13 = .ok (.getfield 311, 3) := by decide +kernel
theorem d_M_times_16 : decode (z_c m_M_times) 16 = .ok (.iload_n 1, 1) := by decide +kernel
theorem d_M_times_17 : decode (z_c m_M_times) 17 = .ok (.idiv, 1) := by decide +kernel
theorem d_M_times_18 : decode (z_c m_M_times) 18 = .ok (.putfield 311, 3) := by decide +kernel
theorem d_M_times_21 : decode (z_c m_M_times) 21 = .ok (.iinc 2 1, 3) := by decide +kernel
theorem d_M_times_24 : decode (z_c m_M_times) 24 = .ok (.goto (-22), 3) := by decide +kernel
theorem d_M_times_27 : decode (z_c m_M_times) 27 = .ok (.iload_n 2, 1) := by decide +kernel
theorem d_M_times_28 : decode (z_c m_M_times) 28 = .ok (.ireturn, 1) := by decide +kernel
abbrev L_M_times_2 (X : z_X) (N : Nat) (σ : z_G) (x1 x2 : Int) (g : z_G) (Q : z_P) : Prop := z_U X 1 m_M_times 2 [(0, (2, 0)), (1, (0, x1)), (2, (0, x2))] [] N σ g Q
set_option maxRecDepth 8000 in
theorem b_M_times_0 {X : z_X} {N : Nat} {σ g : z_G} {Q : z_P} {a1 : Int} (hx : z_lay X N σ 0 z_SM z_RM) (h : L_M_times_2 X N σ a1 0 g Q) : z_O X 1 m_M_times [(2, 0), (0, a1)] N σ g Q := by
  refine z_Oenter mi_M_times rfl (fun _ => ?_)
  show z_U X 1 m_M_times 0 [(0, (2, 0)), (1, (0, a1))] [] N σ g Q
  refine z_iconst (n := 0) d_M_times_0 (by decide) ?_
  refine z_istore_n (i := 2) (ls' := [(2, (0, 0)), (0, (2, 0)), (1, (0, a1))]) d_M_times_1 rfl rfl rfl ?_
  refine z_sub (ls' := [(0, (2, 0)), (1, (0, a1)), (2, (0, 0))]) [1, 2, 0] rfl ?_
  exact h
set_option maxRecDepth 8000 in
theorem b_M_times_2 {X : z_X} {N : Nat} {σ g : z_G} {Q : z_P} {x1 x2 : Int} (hx : z_lay X N σ 0 z_SM z_RM) (h : (0 < x1) ∧ ((((Int.tmod (g 0 30) x1) = 0) → ((-2147483648 ≤ (x2 + 1) ∧ (x2 + 1) ≤ 2147483647) ∧ L_M_times_2 X N σ x1 (x2 + 1) (z_up g 0 30 (Int.tdiv (g 0 30) x1)) Q)) ∧ (¬ ((Int.tmod (g 0 30) x1) = 0) → Q x2 g))) : L_M_times_2 X N σ x1 x2 g Q := by
  refine z_aload_n (i := 0) (c := 0) 0 d_M_times_2 rfl rfl rfl ?_
  refine z_geti (c := 0) (kI := 30) d_M_times_3 fd_M_left1 fl_M_311 (Or.inl rfl) rfl rfl (ks_M_0 hx) (kl_M_0 hx) ?_
  refine z_iload_n (i := 1) 1 d_M_times_6 rfl rfl ?_
  obtain ⟨c1, h⟩ := h
  refine z_irem d_M_times_7 c1 ?_
  refine z_if_ne (tgt := 27) d_M_times_8 (by decide) (fun c2 => ?_) (fun c2 => ?_)
  · have h := h.2 c2
    refine z_iload_n (i := 2) 2 d_M_times_27 rfl rfl ?_
    exact z_iret d_M_times_28 rfl (by decide) (by decide) ⟨rfl, rfl, h⟩
  · have h := h.1 c2
    refine z_aload_n (i := 0) (c := 0) 0 d_M_times_11 rfl rfl rfl ?_
    refine z_dup d_M_times_12 rfl ?_
    refine z_geti (c := 0) (kI := 30) d_M_times_13 fd_M_left1 fl_M_311 (Or.inl rfl) rfl rfl (ks_M_0 hx) (kl_M_0 hx) ?_
    refine z_iload_n (i := 1) 1 d_M_times_16 rfl rfl ?_
    refine z_idiv d_M_times_17 c1 ?_
    refine z_puti (c := 0) (kI := 30) d_M_times_18 fd_M_left1 fl_M_311 pf_M_left1 rfl rfl rfl rfl (ks_M_0 hx) (kl_M_0 hx) ?_
    obtain ⟨c3, h⟩ := h
    refine z_iinc (n := 1) (ls' := [(2, (0, x2 + 1)), (0, (2, 0)), (1, (0, x1))]) 2 d_M_times_21 rfl c3 rfl rfl ?_
    refine z_goto (tgt := 2) d_M_times_24 (by decide) ?_
    refine z_sub (ls' := [(0, (2, 0)), (1, (0, x1)), (2, (0, x2 + 1))]) [1, 2, 0] rfl ?_
    exact h
theorem d_M_top_0 : decode (z_c m_M_top) 0 = .ok (.aload_n 0, 1) := by decide +kernel
theorem d_M_top_1 : decode (z_c m_M_top) 1 = .ok (.getfield 84, 3) := by decide +kernel
theorem d_M_top_4 : decode (z_c m_M_top) 4 = .ok (.lreturn, 1) := by decide +kernel
set_option maxRecDepth 8000 in
theorem b_M_top_0 {X : z_X} {N : Nat} {σ g : z_G} {Q : z_P} (hx : z_lay X N σ 0 z_SM z_RM) (h : Q (g 0 2) g) : z_O X 1 m_M_top [(2, 0)] N σ g Q := by
  refine z_Oenter mi_M_top rfl (fun _ => ?_)
  show z_U X 1 m_M_top 0 [(0, (2, 0))] [] N σ g Q
  refine z_aload_n (i := 0) (c := 0) 0 d_M_top_0 rfl rfl rfl ?_
  refine z_getl (c := 0) (kI := 2) d_M_top_1 fd_M_top fl_M_84 rfl rfl rfl (ks_M_0 hx) (kl_M_0 hx) ?_
  exact z_lret d_M_top_4 rfl (by decide) (by decide) ⟨rfl, rfl, h⟩
theorem d_M_turnsOf_0 : decode (z_c m_M_turnsOf) 0 = .ok (.aload_n 0, 1) := by decide +kernel
theorem d_M_turnsOf_1 : decode (z_c m_M_turnsOf) 1 = .ok (.getfield 50, 3) := by decide +kernel
theorem d_M_turnsOf_4 : decode (z_c m_M_turnsOf) 4 = .ok (.iload_n 1, 1) := by decide +kernel
theorem d_M_turnsOf_5 : decode (z_c m_M_turnsOf) 5 = .ok (.iaload, 1) := by decide +kernel
theorem d_M_turnsOf_6 : decode (z_c m_M_turnsOf) 6 = .ok (.iload_n 1, 1) := by decide +kernel
theorem d_M_turnsOf_7 : decode (z_c m_M_turnsOf) 7 = .ok (.iconst 1, 1) := by decide +kernel
theorem d_M_turnsOf_8 : decode (z_c m_M_turnsOf) 8 = .ok (.if_icmp .ne 7, 3) := by decide +kernel
theorem d_M_turnsOf_11 : decode (z_c m_M_turnsOf) 11 = .ok (.iconst 1, 1) := by decide +kernel
theorem d_M_turnsOf_12 : decode (z_c m_M_turnsOf) 12 = .ok (.goto 4, 3) := by decide +kernel
theorem d_M_turnsOf_15 : decode (z_c m_M_turnsOf) 15 = .ok (.iconst 0, 1) := by decide +kernel
theorem d_M_turnsOf_16 : decode (z_c m_M_turnsOf) 16 = .ok (.isub, 1) := by decide +kernel
theorem d_M_turnsOf_17 : decode (z_c m_M_turnsOf) 17 = .ok (.iload_n 1, 1) := by decide +kernel
theorem d_M_turnsOf_18 : decode (z_c m_M_turnsOf) 18 = .ok (.aload_n 0, 1) := by decide +kernel
theorem d_M_turnsOf_19 : decode (z_c m_M_turnsOf) 19 = .ok (.getfield 288, 3) := by decide +kernel
theorem d_M_turnsOf_22 : decode (z_c m_M_turnsOf) 22 = .ok (.iconst 1, 1) := by decide +kernel
theorem d_M_turnsOf_23 : decode (z_c m_M_turnsOf) 23 = .ok (.isub, 1) := by decide +kernel
theorem d_M_turnsOf_24 : decode (z_c m_M_turnsOf) 24 = .ok (.if_icmp .ne 7, 3) := by decide +kernel
theorem d_M_turnsOf_27 : decode (z_c m_M_turnsOf) 27 = .ok (.iconst 1, 1) := by decide +kernel
theorem d_M_turnsOf_28 : decode (z_c m_M_turnsOf) 28 = .ok (.goto 4, 3) := by decide +kernel
theorem d_M_turnsOf_31 : decode (z_c m_M_turnsOf) 31 = .ok (.iconst 0, 1) := by decide +kernel
theorem d_M_turnsOf_32 : decode (z_c m_M_turnsOf) 32 = .ok (.isub, 1) := by decide +kernel
theorem d_M_turnsOf_33 : decode (z_c m_M_turnsOf) 33 = .ok (.ireturn, 1) := by decide +kernel
set_option maxRecDepth 8000 in
theorem b_M_turnsOf_0 {X : z_X} {N : Nat} {σ g : z_G} {Q : z_P} {a1 : Int} (hx : z_lay X N σ 0 z_SM z_RM) (h : (0 ≤ a1 ∧ a1 < 40) ∧ (((a1 = 1) → ((-2147483648 ≤ ((g 10 a1) - 1) ∧ ((g 10 a1) - 1) ≤ 2147483647) ∧ ((-2147483648 ≤ ((g 0 27) - 1) ∧ ((g 0 27) - 1) ≤ 2147483647) ∧ (((a1 = ((g 0 27) - 1)) → ((-2147483648 ≤ (((g 10 a1) - 1) - 1) ∧ (((g 10 a1) - 1) - 1) ≤ 2147483647) ∧ Q (((g 10 a1) - 1) - 1) g)) ∧ (¬ (a1 = ((g 0 27) - 1)) → ((-2147483648 ≤ (((g 10 a1) - 1) - 0) ∧ (((g 10 a1) - 1) - 0) ≤ 2147483647) ∧ Q (((g 10 a1) - 1) - 0) g)))))) ∧ (¬ (a1 = 1) → ((-2147483648 ≤ ((g 10 a1) - 0) ∧ ((g 10 a1) - 0) ≤ 2147483647) ∧ ((-2147483648 ≤ ((g 0 27) - 1) ∧ ((g 0 27) - 1) ≤ 2147483647) ∧ (((a1 = ((g 0 27) - 1)) → ((-2147483648 ≤ (((g 10 a1) - 0) - 1) ∧ (((g 10 a1) - 0) - 1) ≤ 2147483647) ∧ Q (((g 10 a1) - 0) - 1) g)) ∧ (¬ (a1 = ((g 0 27) - 1)) → ((-2147483648 ≤ (((g 10 a1) - 0) - 0) ∧ (((g 10 a1) - 0) - 0) ≤ 2147483647) ∧ Q (((g 10 a1) - 0) - 0) g)))))))) : z_O X 1 m_M_turnsOf [(2, 0), (0, a1)] N σ g Q := by
  refine z_Oenter mi_M_turnsOf rfl (fun _ => ?_)
  show z_U X 1 m_M_turnsOf 0 [(0, (2, 0)), (1, (0, a1))] [] N σ g Q
  refine z_aload_n (i := 0) (c := 0) 0 d_M_turnsOf_0 rfl rfl rfl ?_
  refine z_getr (c := 0) (kI := 26) (r2 := 10) d_M_turnsOf_1 fd_M_termBy fl_M_50 rfl rfl rfl (ks_M_0 hx) (kl_M_0 hx) (kr_M_0_26 hx) ?_
  refine z_iload_n (i := 1) 1 d_M_turnsOf_4 rfl rfl ?_
  obtain ⟨c1, h⟩ := h
  refine z_iald (c := 10) (m := 40) d_M_turnsOf_5 rfl (ks_M_10 hx) (kl_M_10 hx) rfl (by decide) c1 ?_
  refine z_iload_n (i := 1) 1 d_M_turnsOf_6 rfl rfl ?_
  refine z_iconst (n := 1) d_M_turnsOf_7 (by decide) ?_
  refine z_icmp_ne (tgt := 15) d_M_turnsOf_8 (by decide) (fun c2 => ?_) (fun c2 => ?_)
  · have h := h.2 c2
    refine z_iconst (n := 0) d_M_turnsOf_15 (by decide) ?_
    obtain ⟨c3, h⟩ := h
    refine z_isub d_M_turnsOf_16 c3 ?_
    refine z_iload_n (i := 1) 1 d_M_turnsOf_17 rfl rfl ?_
    refine z_aload_n (i := 0) (c := 0) 0 d_M_turnsOf_18 rfl rfl rfl ?_
    refine z_geti (c := 0) (kI := 27) d_M_turnsOf_19 fd_M_termMany fl_M_288 (Or.inl rfl) rfl rfl (ks_M_0 hx) (kl_M_0 hx) ?_
    refine z_iconst (n := 1) d_M_turnsOf_22 (by decide) ?_
    obtain ⟨c4, h⟩ := h
    refine z_isub d_M_turnsOf_23 c4 ?_
    refine z_icmp_ne (tgt := 31) d_M_turnsOf_24 (by decide) (fun c5 => ?_) (fun c5 => ?_)
    · have h := h.2 c5
      refine z_iconst (n := 0) d_M_turnsOf_31 (by decide) ?_
      obtain ⟨c6, h⟩ := h
      refine z_isub d_M_turnsOf_32 c6 ?_
      exact z_iret d_M_turnsOf_33 rfl (by decide) (by decide) ⟨rfl, rfl, h⟩
    · have h := h.1 c5
      refine z_iconst (n := 1) d_M_turnsOf_27 (by decide) ?_
      refine z_goto (tgt := 32) d_M_turnsOf_28 (by decide) ?_
      obtain ⟨c7, h⟩ := h
      refine z_isub d_M_turnsOf_32 c7 ?_
      exact z_iret d_M_turnsOf_33 rfl (by decide) (by decide) ⟨rfl, rfl, h⟩
  · have h := h.1 c2
    refine z_iconst (n := 1) d_M_turnsOf_11 (by decide) ?_
    refine z_goto (tgt := 16) d_M_turnsOf_12 (by decide) ?_
    obtain ⟨c8, h⟩ := h
    refine z_isub d_M_turnsOf_16 c8 ?_
    refine z_iload_n (i := 1) 1 d_M_turnsOf_17 rfl rfl ?_
    refine z_aload_n (i := 0) (c := 0) 0 d_M_turnsOf_18 rfl rfl rfl ?_
    refine z_geti (c := 0) (kI := 27) d_M_turnsOf_19 fd_M_termMany fl_M_288 (Or.inl rfl) rfl rfl (ks_M_0 hx) (kl_M_0 hx) ?_
    refine z_iconst (n := 1) d_M_turnsOf_22 (by decide) ?_
    obtain ⟨c9, h⟩ := h
    refine z_isub d_M_turnsOf_23 c9 ?_
    refine z_icmp_ne (tgt := 31) d_M_turnsOf_24 (by decide) (fun c10 => ?_) (fun c10 => ?_)
    · have h := h.2 c10
      refine z_iconst (n := 0) d_M_turnsOf_31 (by decide) ?_
      obtain ⟨c11, h⟩ := h
      refine z_isub d_M_turnsOf_32 c11 ?_
      exact z_iret d_M_turnsOf_33 rfl (by decide) (by decide) ⟨rfl, rfl, h⟩
    · have h := h.1 c10
      refine z_iconst (n := 1) d_M_turnsOf_27 (by decide) ?_
      refine z_goto (tgt := 32) d_M_turnsOf_28 (by decide) ?_
      obtain ⟨c12, h⟩ := h
      refine z_isub d_M_turnsOf_32 c12 ?_
      exact z_iret d_M_turnsOf_33 rfl (by decide) (by decide) ⟨rfl, rfl, h⟩
theorem d_M_bottomOf_0 : decode (z_c m_M_bottomOf) 0 = .ok (.aload_n 0, 1) := by decide +kernel
theorem d_M_bottomOf_1 : decode (z_c m_M_bottomOf) 1 = .ok (.getfield 7, 3) := by decide +kernel
theorem d_M_bottomOf_4 : decode (z_c m_M_bottomOf) 4 = .ok (.iload_n 1, 1) := by decide +kernel
theorem d_M_bottomOf_5 : decode (z_c m_M_bottomOf) 5 = .ok (.invokestatic 346, 3) := by decide +kernel
theorem d_M_bottomOf_8 : decode (z_c m_M_bottomOf) 8 = .ok (.iconst 1, 1) := by decide +kernel
theorem d_M_bottomOf_9 : decode (z_c m_M_bottomOf) 9 = .ok (.iadd, 1) := by decide +kernel
theorem d_M_bottomOf_10 : decode (z_c m_M_bottomOf) 10 = .ok (.iaload, 1) := by decide +kernel
theorem d_M_bottomOf_11 : decode (z_c m_M_bottomOf) 11 = .ok (.ireturn, 1) := by decide +kernel
set_option maxRecDepth 8000 in
theorem b_M_bottomOf_0 {X : z_X} {N : Nat} {σ g : z_G} {Q : z_P} {a1 : Int} (hx : z_lay X N σ 0 z_SM z_RM) (h : (-2147483648 ≤ (3 * a1) ∧ (3 * a1) ≤ 2147483647) ∧ ((-2147483648 ≤ (10 + (3 * a1)) ∧ (10 + (3 * a1)) ≤ 2147483647) ∧ ((-2147483648 ≤ ((10 + (3 * a1)) + 1) ∧ ((10 + (3 * a1)) + 1) ≤ 2147483647) ∧ ((0 ≤ ((10 + (3 * a1)) + 1) ∧ ((10 + (3 * a1)) + 1) < 3296) ∧ Q (g 1 ((10 + (3 * a1)) + 1)) g)))) : z_O X 2 m_M_bottomOf [(2, 0), (0, a1)] N σ g Q := by
  refine z_Oenter mi_M_bottomOf rfl (fun _ => ?_)
  show z_U X 2 m_M_bottomOf 0 [(0, (2, 0)), (1, (0, a1))] [] N σ g Q
  refine z_aload_n (i := 0) (c := 0) 0 d_M_bottomOf_0 rfl rfl rfl ?_
  refine z_getr (c := 0) (kI := 0) (r2 := 1) d_M_bottomOf_1 fd_M_at fl_M_7 rfl rfl rfl (ks_M_0 hx) (kl_M_0 hx) (kr_M_0_0 hx) ?_
  refine z_iload_n (i := 1) 1 d_M_bottomOf_4 rfl rfl ?_
  refine z_cS (as := [(0, a1)]) (d' := 1) (st := [(2, 1)]) d_M_bottomOf_5 mi_M_rowOf ml_M_346 ms_M_rowOf rfl rfl rfl rfl rfl (b_M_rowOf_0  ?_)
  obtain ⟨c1, h⟩ := h
  refine ⟨c1, ?_⟩
  obtain ⟨c2, h⟩ := h
  refine ⟨c2, ?_⟩
  intro _
  show z_U X 2 m_M_bottomOf 8 [(0, (2, 0)), (1, (0, a1))] [(0, 10 + (3 * a1)), (2, 1)] N σ g Q
  refine z_iconst (n := 1) d_M_bottomOf_8 (by decide) ?_
  obtain ⟨c3, h⟩ := h
  refine z_iadd d_M_bottomOf_9 c3 ?_
  obtain ⟨c4, h⟩ := h
  refine z_iald (c := 1) (m := 3296) d_M_bottomOf_10 rfl (ks_M_1 hx) (kl_M_1 hx) rfl (by decide) c4 ?_
  exact z_iret d_M_bottomOf_11 rfl (by decide) (by decide) ⟨rfl, rfl, h⟩
theorem d_M_comes_0 : decode (z_c m_M_comes) 0 = .ok (.aload_n 0, 1) := by decide +kernel
theorem d_M_comes_1 : decode (z_c m_M_comes) 1 = .ok (.getfield 7, 3) := by decide +kernel
theorem d_M_comes_4 : decode (z_c m_M_comes) 4 = .ok (.iconst 2, 1) := by decide +kernel
theorem d_M_comes_5 : decode (z_c m_M_comes) 5 = .ok (.iload_n 1, 1) := by decide +kernel
theorem d_M_comes_6 : decode (z_c m_M_comes) 6 = .ok (.iastore, 1) := by decide +kernel
theorem d_M_comes_7 : decode (z_c m_M_comes) 7 = .ok (.aload_n 0, 1) := by decide +kernel
theorem d_M_comes_8 : decode (z_c m_M_comes) 8 = .ok (.getfield 7, 3) := by decide +kernel
theorem d_M_comes_11 : decode (z_c m_M_comes) 11 = .ok (.iconst 3, 1) := by decide +kernel
theorem d_M_comes_12 : decode (z_c m_M_comes) 12 = .ok (.iload_n 2, 1) := by decide +kernel
theorem d_M_comes_13 : decode (z_c m_M_comes) 13 = .ok (.iastore, 1) := by decide +kernel
theorem d_M_comes_14 : decode (z_c m_M_comes) 14 = .ok (.aload_n 0, 1) := by decide +kernel
theorem d_M_comes_15 : decode (z_c m_M_comes) 15 = .ok (.iconst 0, 1) := by decide +kernel
theorem d_M_comes_16 : decode (z_c m_M_comes) 16 = .ok (.invokevirtual 78, 3) := by decide +kernel
theorem d_M_comes_19 : decode (z_c m_M_comes) 19 = .ok (.return_, 1) := by decide +kernel
set_option maxRecDepth 8000 in
theorem b_M_comes_0 {X : z_X} {N : Nat} {σ g : z_G} {Q : z_P} {a1 a2 : Int} (hx : z_lay X N σ 0 z_SM z_RM) (h : z_O X 1 m_M_sees [(2, 0), (0, 0)] N σ (z_up (z_up g 1 2 a1) 1 3 a2) (fun r0 g0 => Q 0 g0)) : z_O X 2 m_M_comes [(2, 0), (0, a1), (0, a2)] N σ g Q := by
  refine z_Oenter mi_M_comes rfl (fun _ => ?_)
  show z_U X 2 m_M_comes 0 [(0, (2, 0)), (1, (0, a1)), (2, (0, a2))] [] N σ g Q
  refine z_aload_n (i := 0) (c := 0) 0 d_M_comes_0 rfl rfl rfl ?_
  refine z_getr (c := 0) (kI := 0) (r2 := 1) d_M_comes_1 fd_M_at fl_M_7 rfl rfl rfl (ks_M_0 hx) (kl_M_0 hx) (kr_M_0_0 hx) ?_
  refine z_iconst (n := 2) d_M_comes_4 (by decide) ?_
  refine z_iload_n (i := 1) 1 d_M_comes_5 rfl rfl ?_
  refine z_iast (c := 1) (m := 3296) d_M_comes_6 rfl (ks_M_1 hx) (kl_M_1 hx) rfl (by decide) (by decide) ?_
  refine z_aload_n (i := 0) (c := 0) 0 d_M_comes_7 rfl rfl rfl ?_
  refine z_getr (c := 0) (kI := 0) (r2 := 1) d_M_comes_8 fd_M_at fl_M_7 rfl rfl rfl (ks_M_0 hx) (kl_M_0 hx) (kr_M_0_0 hx) ?_
  refine z_iconst (n := 3) d_M_comes_11 (by decide) ?_
  refine z_iload_n (i := 2) 2 d_M_comes_12 rfl rfl ?_
  refine z_iast (c := 1) (m := 3296) d_M_comes_13 rfl (ks_M_1 hx) (kl_M_1 hx) rfl (by decide) (by decide) ?_
  refine z_aload_n (i := 0) (c := 0) 0 d_M_comes_14 rfl rfl rfl ?_
  refine z_iconst (n := 0) d_M_comes_15 (by decide) ?_
  refine z_cV (c := 0) (as := [(0, 0)]) (d' := 1) (st := []) d_M_comes_16 mi_M_sees ml_M_78 mv_M_sees se_M_sees rfl rfl rfl rfl (ks_M_0 hx) rfl rfl (kl_M_0 hx) rfl rfl (z_Omono h (fun r0 g0 _ h hro => ?_))
  show z_U X 2 m_M_comes 19 [(0, (2, 0)), (1, (0, a1)), (2, (0, a2))] [] N σ g0 Q
  exact z_vret d_M_comes_19 rfl (by decide) (by decide) ⟨rfl, rfl, h⟩
theorem d_M_coprimes_0 : decode (z_c m_M_coprimes) 0 = .ok (.iload_n 1, 1) := by decide +kernel
theorem d_M_coprimes_1 : decode (z_c m_M_coprimes) 1 = .ok (.i2l, 1) := by decide +kernel
theorem d_M_coprimes_2 : decode (z_c m_M_coprimes) 2 = .ok (.lconst 0, 1) := by decide +kernel
theorem d_M_coprimes_3 : decode (z_c m_M_coprimes) 3 = .ok (.ldc2_w 263, 3) := by decide +kernel
theorem d_M_coprimes_6 : decode (z_c m_M_coprimes) 6 = .ok (.invokestatic 265, 3) := by decide +kernel
theorem d_M_coprimes_9 : decode (z_c m_M_coprimes) 9 = .ok (.ifCond .eq 15, 3) := by decide +kernel
theorem d_M_coprimes_12 : decode (z_c m_M_coprimes) 12 = .ok (.iload_n 2, 1) := by decide +kernel
theorem d_M_coprimes_13 : decode (z_c m_M_coprimes) 13 = .ok (.i2l, 1) := by decide +kernel
theorem d_M_coprimes_14 : decode (z_c m_M_coprimes) 14 = .ok (.lconst 0, 1) := by decide +kernel
theorem d_M_coprimes_15 : decode (z_c m_M_coprimes) 15 = .ok (.ldc2_w 263, 3) := by decide +kernel
theorem d_M_coprimes_18 : decode (z_c m_M_coprimes) 18 = .ok (.invokestatic 265, 3) := by decide +kernel
theorem d_M_coprimes_21 : decode (z_c m_M_coprimes) 21 = .ok (.ifCond .ne 9, 3) := by decide +kernel
theorem d_M_coprimes_24 : decode (z_c m_M_coprimes) 24 = .ok (.aload_n 0, 1) := by decide +kernel
theorem d_M_coprimes_25 : decode (z_c m_M_coprimes) 25 = .ok (.iconst 1, 1) := by decide +kernel
theorem d_M_coprimes_26 : decode (z_c m_M_coprimes) 26 = .ok (.invokevirtual 87, 3) := by decide +kernel
theorem d_M_coprimes_29 : decode (z_c m_M_coprimes) 29 = .ok (.ireturn, 1) := by decide +kernel
theorem d_M_coprimes_30 : decode (z_c m_M_coprimes) 30 = .ok (.iconst 0, 1) := by decide +kernel
theorem d_M_coprimes_31 : decode (z_c m_M_coprimes) 31 = .ok (.istore_n 3, 1) := by decide +kernel
theorem d_M_coprimes_32 : decode (z_c m_M_coprimes) 32 = .ok (.iconst 1, 1) := by decide +kernel
theorem d_M_coprimes_33 : decode (z_c m_M_coprimes) 33 = .ok (.istore 4, 2) := by decide +kernel
theorem d_M_coprimes_35 : decode (z_c m_M_coprimes) 35 = .ok (.iload 4, 2) := by decide +kernel
theorem d_M_coprimes_37 : decode (z_c m_M_coprimes) 37 = .ok (.iload_n 1, 1) := by decide +kernel
theorem d_M_coprimes_38 : decode (z_c m_M_coprimes) 38 = .ok (.if_icmp .gt 43, 3) := by decide +kernel
theorem d_M_coprimes_41 : decode (z_c m_M_coprimes) 41 = .ok (.iconst 1, 1) := by decide +kernel
theorem d_M_coprimes_42 : decode (z_c m_M_coprimes) 42 = .ok (.istore 5, 2) := by decide +kernel
theorem d_M_coprimes_44 : decode (z_c m_M_coprimes) 44 = .ok (.iload 5, 2) := by decide +kernel
theorem d_M_coprimes_46 : decode (z_c m_M_coprimes) 46 = .ok (.iload_n 2, 1) := by decide +kernel
theorem d_M_coprimes_47 : decode (z_c m_M_coprimes) 47 = .ok (.if_icmp .gt 28, 3) := by decide +kernel
theorem d_M_coprimes_50 : decode (z_c m_M_coprimes) 50 = .ok (.iload_n 3, 1) := by decide +kernel
theorem d_M_coprimes_51 : decode (z_c m_M_coprimes) 51 = .ok (.iload 4, 2) := by decide +kernel
theorem d_M_coprimes_53 : decode (z_c m_M_coprimes) 53 = .ok (.iload 5, 2) := by decide +kernel
theorem d_M_coprimes_55 : decode (z_c m_M_coprimes) 55 = .ok (.invokestatic 182, 3) := by decide +kernel
theorem d_M_coprimes_58 : decode (z_c m_M_coprimes) 58 = .ok (.iconst 1, 1) := by decide +kernel
theorem d_M_coprimes_59 : decode (z_c m_M_coprimes) 59 = .ok (.if_icmp .ne 7, 3) := by decide +kernel
theorem d_M_coprimes_62 : decode (z_c m_M_coprimes) 62 = .ok (.iconst 1, 1) := by decide +kernel
theorem d_M_coprimes_63 : decode (z_c m_M_coprimes) 63 = .ok (.goto 4, 3) := by decide +kernel
theorem d_M_coprimes_66 : decode (z_c m_M_coprimes) 66 = .ok (.iconst 0, 1) := by decide +kernel
theorem d_M_coprimes_67 : decode (z_c m_M_coprimes) 67 = .ok (.iadd, 1) := by decide +kernel
theorem d_M_coprimes_68 : decode (z_c m_M_coprimes) 68 = .ok (.istore_n 3, 1) := by decide +kernel
theorem d_M_coprimes_69 : decode (z_c m_M_coprimes) 69 = .ok (.iinc 5 1, 3) := by decide +kernel
theorem d_M_coprimes_72 : decode (z_c m_M_coprimes) 72 = .ok (.goto (-28), 3) := by decide +kernel
theorem d_M_coprimes_75 : decode (z_c m_M_coprimes) 75 = .ok (.iinc 4 1, 3) := by decide +kernel
theorem d_M_coprimes_78 : decode (z_c m_M_coprimes) 78 = .ok (.goto (-43), 3) := by decide +kernel
theorem d_M_coprimes_81 : decode (z_c m_M_coprimes) 81 = .ok (.aload_n 0, 1) := by decide +kernel
theorem d_M_coprimes_82 : decode (z_c m_M_coprimes) 82 = .ok (.iload_n 3, 1) := by decide +kernel
theorem d_M_coprimes_83 : decode (z_c m_M_coprimes) 83 = .ok (.invokevirtual 91, 3) := by decide +kernel
theorem d_M_coprimes_86 : decode (z_c m_M_coprimes) 86 = .ok (.ireturn, 1) := by decide +kernel
abbrev L_M_coprimes_35 (X : z_X) (N : Nat) (σ : z_G) (x1 x2 x3 x4 : Int) (g : z_G) (Q : z_P) : Prop := z_U X 2 m_M_coprimes 35 [(0, (2, 0)), (1, (0, x1)), (2, (0, x2)), (3, (0, x3)), (4, (0, x4))] [] N σ g Q
abbrev L_M_coprimes_44 (X : z_X) (N : Nat) (σ : z_G) (x1 x2 x3 x4 x5 : Int) (g : z_G) (Q : z_P) : Prop := z_U X 2 m_M_coprimes 44 [(0, (2, 0)), (1, (0, x1)), (2, (0, x2)), (3, (0, x3)), (4, (0, x4)), (5, (0, x5))] [] N σ g Q
set_option maxRecDepth 8000 in
theorem b_M_coprimes_0 {X : z_X} {N : Nat} {σ g : z_G} {Q : z_P} {a1 a2 : Int} (hx : z_lay X N σ 0 z_SM z_RM) (h : ((a1 < 0) → Q (-1) (z_up g 0 1 1)) ∧ (¬ (a1 < 0) → (((200 < a1) → Q (-1) (z_up g 0 1 1)) ∧ (¬ (200 < a1) → (((a2 < 0) → Q (-1) (z_up g 0 1 1)) ∧ (¬ (a2 < 0) → (((200 < a2) → Q (-1) (z_up g 0 1 1)) ∧ (¬ (200 < a2) → L_M_coprimes_35 X N σ a1 a2 0 1 g Q)))))))) : z_O X 2 m_M_coprimes [(2, 0), (0, a1), (0, a2)] N σ g Q := by
  refine z_Oenter mi_M_coprimes rfl (fun _ => ?_)
  show z_U X 2 m_M_coprimes 0 [(0, (2, 0)), (1, (0, a1)), (2, (0, a2))] [] N σ g Q
  refine z_iload_n (i := 1) 1 d_M_coprimes_0 rfl rfl ?_
  refine z_i2l d_M_coprimes_1 ?_
  refine z_lconst (v := 0) d_M_coprimes_2 (by decide) (by decide) ?_
  refine z_ldc2 (v := 200) d_M_coprimes_3 kc_M_263 (by decide) ?_
  refine z_cS (as := [(1, a1), (1, 0), (1, 200)]) (d' := 1) (st := []) d_M_coprimes_6 mi_M_isFrom ml_M_265 ms_M_isFrom rfl rfl rfl rfl rfl (b_M_isFrom_0  ?_)
  refine ⟨fun c1 => ?_, fun c1 => ?_⟩
  · have h := h.1 c1
    intro _
    show z_U X 2 m_M_coprimes 9 [(0, (2, 0)), (1, (0, a1)), (2, (0, a2))] [(0, 0)] N σ g Q
    refine z_if_eq (tgt := 24) d_M_coprimes_9 (by decide) (fun _ => ?_) (fun c => absurd (by decide) c)
    refine z_aload_n (i := 0) (c := 0) 0 d_M_coprimes_24 rfl rfl rfl ?_
    refine z_iconst (n := 1) d_M_coprimes_25 (by decide) ?_
    refine z_cV (c := 0) (as := [(0, 1)]) (d' := 1) (st := []) d_M_coprimes_26 mi_M_refuse ml_M_87 mv_M_refuse se_M_refuse rfl rfl rfl rfl (ks_M_0 hx) rfl rfl (kl_M_0 hx) rfl rfl (b_M_refuse_0 hx ?_)
    intro _
    show z_U X 2 m_M_coprimes 29 [(0, (2, 0)), (1, (0, a1)), (2, (0, a2))] [(0, (-1))] N σ (z_up g 0 1 1) Q
    exact z_iret d_M_coprimes_29 rfl (by decide) (by decide) ⟨rfl, rfl, h⟩
  · have h := h.2 c1
    refine ⟨fun c2 => ?_, fun c2 => ?_⟩
    · have h := h.1 c2
      intro _
      show z_U X 2 m_M_coprimes 9 [(0, (2, 0)), (1, (0, a1)), (2, (0, a2))] [(0, 0)] N σ g Q
      refine z_if_eq (tgt := 24) d_M_coprimes_9 (by decide) (fun _ => ?_) (fun c => absurd (by decide) c)
      refine z_aload_n (i := 0) (c := 0) 0 d_M_coprimes_24 rfl rfl rfl ?_
      refine z_iconst (n := 1) d_M_coprimes_25 (by decide) ?_
      refine z_cV (c := 0) (as := [(0, 1)]) (d' := 1) (st := []) d_M_coprimes_26 mi_M_refuse ml_M_87 mv_M_refuse se_M_refuse rfl rfl rfl rfl (ks_M_0 hx) rfl rfl (kl_M_0 hx) rfl rfl (b_M_refuse_0 hx ?_)
      intro _
      show z_U X 2 m_M_coprimes 29 [(0, (2, 0)), (1, (0, a1)), (2, (0, a2))] [(0, (-1))] N σ (z_up g 0 1 1) Q
      exact z_iret d_M_coprimes_29 rfl (by decide) (by decide) ⟨rfl, rfl, h⟩
    · have h := h.2 c2
      intro _
      show z_U X 2 m_M_coprimes 9 [(0, (2, 0)), (1, (0, a1)), (2, (0, a2))] [(0, 1)] N σ g Q
      refine z_if_eq (tgt := 24) d_M_coprimes_9 (by decide) (fun c => absurd c (by decide)) (fun _ => ?_)
      refine z_iload_n (i := 2) 2 d_M_coprimes_12 rfl rfl ?_
      refine z_i2l d_M_coprimes_13 ?_
      refine z_lconst (v := 0) d_M_coprimes_14 (by decide) (by decide) ?_
      refine z_ldc2 (v := 200) d_M_coprimes_15 kc_M_263 (by decide) ?_
      refine z_cS (as := [(1, a2), (1, 0), (1, 200)]) (d' := 1) (st := []) d_M_coprimes_18 mi_M_isFrom ml_M_265 ms_M_isFrom rfl rfl rfl rfl rfl (b_M_isFrom_0  ?_)
      refine ⟨fun c3 => ?_, fun c3 => ?_⟩
      · have h := h.1 c3
        intro _
        show z_U X 2 m_M_coprimes 21 [(0, (2, 0)), (1, (0, a1)), (2, (0, a2))] [(0, 0)] N σ g Q
        refine z_if_ne (tgt := 30) d_M_coprimes_21 (by decide) (fun c => absurd (by decide) c) (fun _ => ?_)
        refine z_aload_n (i := 0) (c := 0) 0 d_M_coprimes_24 rfl rfl rfl ?_
        refine z_iconst (n := 1) d_M_coprimes_25 (by decide) ?_
        refine z_cV (c := 0) (as := [(0, 1)]) (d' := 1) (st := []) d_M_coprimes_26 mi_M_refuse ml_M_87 mv_M_refuse se_M_refuse rfl rfl rfl rfl (ks_M_0 hx) rfl rfl (kl_M_0 hx) rfl rfl (b_M_refuse_0 hx ?_)
        intro _
        show z_U X 2 m_M_coprimes 29 [(0, (2, 0)), (1, (0, a1)), (2, (0, a2))] [(0, (-1))] N σ (z_up g 0 1 1) Q
        exact z_iret d_M_coprimes_29 rfl (by decide) (by decide) ⟨rfl, rfl, h⟩
      · have h := h.2 c3
        refine ⟨fun c4 => ?_, fun c4 => ?_⟩
        · have h := h.1 c4
          intro _
          show z_U X 2 m_M_coprimes 21 [(0, (2, 0)), (1, (0, a1)), (2, (0, a2))] [(0, 0)] N σ g Q
          refine z_if_ne (tgt := 30) d_M_coprimes_21 (by decide) (fun c => absurd (by decide) c) (fun _ => ?_)
          refine z_aload_n (i := 0) (c := 0) 0 d_M_coprimes_24 rfl rfl rfl ?_
          refine z_iconst (n := 1) d_M_coprimes_25 (by decide) ?_
          refine z_cV (c := 0) (as := [(0, 1)]) (d' := 1) (st := []) d_M_coprimes_26 mi_M_refuse ml_M_87 mv_M_refuse se_M_refuse rfl rfl rfl rfl (ks_M_0 hx) rfl rfl (kl_M_0 hx) rfl rfl (b_M_refuse_0 hx ?_)
          intro _
          show z_U X 2 m_M_coprimes 29 [(0, (2, 0)), (1, (0, a1)), (2, (0, a2))] [(0, (-1))] N σ (z_up g 0 1 1) Q
          exact z_iret d_M_coprimes_29 rfl (by decide) (by decide) ⟨rfl, rfl, h⟩
        · have h := h.2 c4
          intro _
          show z_U X 2 m_M_coprimes 21 [(0, (2, 0)), (1, (0, a1)), (2, (0, a2))] [(0, 1)] N σ g Q
          refine z_if_ne (tgt := 30) d_M_coprimes_21 (by decide) (fun _ => ?_) (fun c => absurd c (by decide))
          refine z_iconst (n := 0) d_M_coprimes_30 (by decide) ?_
          refine z_istore_n (i := 3) (ls' := [(3, (0, 0)), (0, (2, 0)), (1, (0, a1)), (2, (0, a2))]) d_M_coprimes_31 rfl rfl rfl ?_
          refine z_iconst (n := 1) d_M_coprimes_32 (by decide) ?_
          refine z_istore (ls' := [(4, (0, 1)), (3, (0, 0)), (0, (2, 0)), (1, (0, a1)), (2, (0, a2))]) d_M_coprimes_33 rfl rfl ?_
          refine z_sub (ls' := [(0, (2, 0)), (1, (0, a1)), (2, (0, a2)), (3, (0, 0)), (4, (0, 1))]) [2, 3, 4, 1, 0] rfl ?_
          exact h
set_option maxRecDepth 8000 in
theorem b_M_coprimes_35 {X : z_X} {N : Nat} {σ g : z_G} {Q : z_P} {x1 x2 x3 x4 : Int} (hx : z_lay X N σ 0 z_SM z_RM) (h : ((x1 < x4) → Q x3 (z_up g 0 1 0)) ∧ (¬ (x1 < x4) → L_M_coprimes_44 X N σ x1 x2 x3 x4 1 g Q)) : L_M_coprimes_35 X N σ x1 x2 x3 x4 g Q := by
  refine z_iload 4 d_M_coprimes_35 rfl ?_
  refine z_iload_n (i := 1) 1 d_M_coprimes_37 rfl rfl ?_
  refine z_icmp_gt (tgt := 81) d_M_coprimes_38 (by decide) (fun c1 => ?_) (fun c1 => ?_)
  · have h := h.1 c1
    refine z_aload_n (i := 0) (c := 0) 0 d_M_coprimes_81 rfl rfl rfl ?_
    refine z_iload_n (i := 3) 3 d_M_coprimes_82 rfl rfl ?_
    refine z_cV (c := 0) (as := [(0, x3)]) (d' := 1) (st := []) d_M_coprimes_83 mi_M_gives ml_M_91 mv_M_gives se_M_gives rfl rfl rfl rfl (ks_M_0 hx) rfl rfl (kl_M_0 hx) rfl rfl (b_M_gives_0 hx ?_)
    intro _
    show z_U X 2 m_M_coprimes 86 [(0, (2, 0)), (1, (0, x1)), (2, (0, x2)), (3, (0, x3)), (4, (0, x4))] [(0, x3)] N σ (z_up g 0 1 0) Q
    exact z_iret d_M_coprimes_86 rfl (by decide) (by decide) ⟨rfl, rfl, h⟩
  · have h := h.2 c1
    refine z_iconst (n := 1) d_M_coprimes_41 (by decide) ?_
    refine z_istore (ls' := [(5, (0, 1)), (0, (2, 0)), (1, (0, x1)), (2, (0, x2)), (3, (0, x3)), (4, (0, x4))]) d_M_coprimes_42 rfl rfl ?_
    refine z_sub (ls' := [(0, (2, 0)), (1, (0, x1)), (2, (0, x2)), (3, (0, x3)), (4, (0, x4)), (5, (0, 1))]) [1, 2, 3, 4, 5, 0] rfl ?_
    exact h
set_option maxRecDepth 8000 in
theorem b_M_coprimes_44 {X : z_X} {N : Nat} {σ g : z_G} {Q : z_P} {x1 x2 x3 x4 x5 : Int} (hx : z_lay X N σ 0 z_SM z_RM) (h : ((x2 < x5) → ((-2147483648 ≤ (x4 + 1) ∧ (x4 + 1) ≤ 2147483647) ∧ L_M_coprimes_35 X N σ x1 x2 x3 (x4 + 1) g Q)) ∧ (¬ (x2 < x5) → (z_O X 1 m_M_common [(0, x4), (0, x5)] N σ g (fun r0 g0 => (((r0 = 1) → ((-2147483648 ≤ (x3 + 1) ∧ (x3 + 1) ≤ 2147483647) ∧ ((-2147483648 ≤ (x5 + 1) ∧ (x5 + 1) ≤ 2147483647) ∧ L_M_coprimes_44 X N σ x1 x2 (x3 + 1) x4 (x5 + 1) g0 Q))) ∧ (¬ (r0 = 1) → ((-2147483648 ≤ (x3 + 0) ∧ (x3 + 0) ≤ 2147483647) ∧ ((-2147483648 ≤ (x5 + 1) ∧ (x5 + 1) ≤ 2147483647) ∧ L_M_coprimes_44 X N σ x1 x2 (x3 + 0) x4 (x5 + 1) g0 Q)))))))) : L_M_coprimes_44 X N σ x1 x2 x3 x4 x5 g Q := by
  refine z_iload 5 d_M_coprimes_44 rfl ?_
  refine z_iload_n (i := 2) 2 d_M_coprimes_46 rfl rfl ?_
  refine z_icmp_gt (tgt := 75) d_M_coprimes_47 (by decide) (fun c1 => ?_) (fun c1 => ?_)
  · have h := h.1 c1
    obtain ⟨c2, h⟩ := h
    refine z_iinc (n := 1) (ls' := [(4, (0, x4 + 1)), (0, (2, 0)), (1, (0, x1)), (2, (0, x2)), (3, (0, x3)), (5, (0, x5))]) 4 d_M_coprimes_75 rfl c2 rfl rfl ?_
    refine z_goto (tgt := 35) d_M_coprimes_78 (by decide) ?_
    refine z_sub (ls' := [(0, (2, 0)), (1, (0, x1)), (2, (0, x2)), (3, (0, x3)), (4, (0, x4 + 1))]) [1, 2, 3, 4, 0] rfl ?_
    exact h
  · have h := h.2 c1
    refine z_iload_n (i := 3) 3 d_M_coprimes_50 rfl rfl ?_
    refine z_iload 4 d_M_coprimes_51 rfl ?_
    refine z_iload 5 d_M_coprimes_53 rfl ?_
    refine z_cS (as := [(0, x4), (0, x5)]) (d' := 1) (st := [(0, x3)]) d_M_coprimes_55 mi_M_common ml_M_182 ms_M_common rfl rfl rfl rfl rfl (z_Omono h (fun r0 g0 _ h hro => ?_))
    show z_U X 2 m_M_coprimes 58 [(0, (2, 0)), (1, (0, x1)), (2, (0, x2)), (3, (0, x3)), (4, (0, x4)), (5, (0, x5))] [(0, r0), (0, x3)] N σ g0 Q
    refine z_iconst (n := 1) d_M_coprimes_58 (by decide) ?_
    refine z_icmp_ne (tgt := 66) d_M_coprimes_59 (by decide) (fun c3 => ?_) (fun c3 => ?_)
    · have h := h.2 c3
      refine z_iconst (n := 0) d_M_coprimes_66 (by decide) ?_
      obtain ⟨c4, h⟩ := h
      refine z_iadd d_M_coprimes_67 c4 ?_
      refine z_istore_n (i := 3) (ls' := [(3, (0, x3 + 0)), (0, (2, 0)), (1, (0, x1)), (2, (0, x2)), (4, (0, x4)), (5, (0, x5))]) d_M_coprimes_68 rfl rfl rfl ?_
      obtain ⟨c5, h⟩ := h
      refine z_iinc (n := 1) (ls' := [(5, (0, x5 + 1)), (3, (0, x3 + 0)), (0, (2, 0)), (1, (0, x1)), (2, (0, x2)), (4, (0, x4))]) 5 d_M_coprimes_69 rfl c5 rfl rfl ?_
      refine z_goto (tgt := 44) d_M_coprimes_72 (by decide) ?_
      refine z_sub (ls' := [(0, (2, 0)), (1, (0, x1)), (2, (0, x2)), (3, (0, x3 + 0)), (4, (0, x4)), (5, (0, x5 + 1))]) [2, 3, 4, 1, 5, 0] rfl ?_
      exact h
    · have h := h.1 c3
      refine z_iconst (n := 1) d_M_coprimes_62 (by decide) ?_
      refine z_goto (tgt := 67) d_M_coprimes_63 (by decide) ?_
      obtain ⟨c6, h⟩ := h
      refine z_iadd d_M_coprimes_67 c6 ?_
      refine z_istore_n (i := 3) (ls' := [(3, (0, x3 + 1)), (0, (2, 0)), (1, (0, x1)), (2, (0, x2)), (4, (0, x4)), (5, (0, x5))]) d_M_coprimes_68 rfl rfl rfl ?_
      obtain ⟨c7, h⟩ := h
      refine z_iinc (n := 1) (ls' := [(5, (0, x5 + 1)), (3, (0, x3 + 1)), (0, (2, 0)), (1, (0, x1)), (2, (0, x2)), (4, (0, x4))]) 5 d_M_coprimes_69 rfl c7 rfl rfl ?_
      refine z_goto (tgt := 44) d_M_coprimes_72 (by decide) ?_
      refine z_sub (ls' := [(0, (2, 0)), (1, (0, x1)), (2, (0, x2)), (3, (0, x3 + 1)), (4, (0, x4)), (5, (0, x5 + 1))]) [2, 3, 4, 1, 5, 0] rfl ?_
      exact h
theorem d_M_depthOf_0 : decode (z_c m_M_depthOf) 0 = .ok (.iconst 0, 1) := by decide +kernel
theorem d_M_depthOf_1 : decode (z_c m_M_depthOf) 1 = .ok (.istore_n 3, 1) := by decide +kernel
theorem d_M_depthOf_2 : decode (z_c m_M_depthOf) 2 = .ok (.aload_n 0, 1) := by decide +kernel
theorem d_M_depthOf_3 : decode (z_c m_M_depthOf) 3 = .ok (.iload_n 1, 1) := by decide +kernel
theorem d_M_depthOf_4 : decode (z_c m_M_depthOf) 4 = .ok (.iload_n 2, 1) := by decide +kernel
theorem d_M_depthOf_5 : decode (z_c m_M_depthOf) 5 = .ok (.invokevirtual 291, 3) := by decide +kernel
theorem d_M_depthOf_8 : decode (z_c m_M_depthOf) 8 = .ok (.iconst 1, 1) := by decide +kernel
theorem d_M_depthOf_9 : decode (z_c m_M_depthOf) 9 = .ok (.istore 4, 2) := by decide +kernel
theorem d_M_depthOf_11 : decode (z_c m_M_depthOf) 11 = .ok (.iload 4, 2) := by decide +kernel
theorem d_M_depthOf_13 : decode (z_c m_M_depthOf) 13 = .ok (.aload_n 0, 1) := by decide +kernel
theorem d_M_depthOf_14 : decode (z_c m_M_depthOf) 14 = .ok (.getfield 288, 3) := by decide +kernel
theorem d_M_depthOf_17 : decode (z_c m_M_depthOf) 17 = .ok (.if_icmp .ge 18, 3) := by decide +kernel
theorem d_M_depthOf_20 : decode (z_c m_M_depthOf) 20 = .ok (.iload_n 3, 1) := by decide +kernel
theorem d_M_depthOf_21 : decode (z_c m_M_depthOf) 21 = .ok (.aload_n 0, 1) := by decide +kernel
theorem d_M_depthOf_22 : decode (z_c m_M_depthOf) 22 = .ok (.iload 4, 2) := by decide +kernel
theorem d_M_depthOf_24 : decode (z_c m_M_depthOf) 24 = .ok (.invokevirtual 294, 3) := by decide +kernel
theorem d_M_depthOf_27 : decode (z_c m_M_depthOf) 27 = .ok (.iadd, 1) := by decide +kernel
theorem d_M_depthOf_28 : decode (z_c m_M_depthOf) 28 = .ok (.istore_n 3, 1) := by decide +kernel
theorem d_M_depthOf_29 : decode (z_c m_M_depthOf) 29 = .ok (.iinc 4 1, 3) := by decide +kernel
theorem d_M_depthOf_32 : decode (z_c m_M_depthOf) 32 = .ok (.goto (-21), 3) := by decide +kernel
theorem d_M_depthOf_35 : decode (z_c m_M_depthOf) 35 = .ok (.iload_n 3, 1) := by decide +kernel
theorem d_M_depthOf_36 : decode (z_c m_M_depthOf) 36 = .ok (.ireturn, 1) := by decide +kernel
abbrev L_M_depthOf_11 (X : z_X) (N : Nat) (σ : z_G) (x3 x4 : Int) (g : z_G) (Q : z_P) : Prop := z_U X 2 m_M_depthOf 11 [(0, (2, 0)), (3, (0, x3)), (4, (0, x4))] [] N σ g Q
set_option maxRecDepth 8000 in
theorem b_M_depthOf_0 {X : z_X} {N : Nat} {σ g : z_G} {Q : z_P} {a1 a2 : Int} (hx : z_lay X N σ 0 z_SM z_RM) (h : z_O X 1 m_M_laysTerms [(2, 0), (0, a1), (0, a2)] N σ g (fun r0 g0 => L_M_depthOf_11 X N σ 0 1 g0 Q)) : z_O X 2 m_M_depthOf [(2, 0), (0, a1), (0, a2)] N σ g Q := by
  refine z_Oenter mi_M_depthOf rfl (fun _ => ?_)
  show z_U X 2 m_M_depthOf 0 [(0, (2, 0)), (1, (0, a1)), (2, (0, a2))] [] N σ g Q
  refine z_iconst (n := 0) d_M_depthOf_0 (by decide) ?_
  refine z_istore_n (i := 3) (ls' := [(3, (0, 0)), (0, (2, 0)), (1, (0, a1)), (2, (0, a2))]) d_M_depthOf_1 rfl rfl rfl ?_
  refine z_aload_n (i := 0) (c := 0) 1 d_M_depthOf_2 rfl rfl rfl ?_
  refine z_iload_n (i := 1) 2 d_M_depthOf_3 rfl rfl ?_
  refine z_iload_n (i := 2) 3 d_M_depthOf_4 rfl rfl ?_
  refine z_cV (c := 0) (as := [(0, a1), (0, a2)]) (d' := 1) (st := []) d_M_depthOf_5 mi_M_laysTerms ml_M_291 mv_M_laysTerms se_M_laysTerms rfl rfl rfl rfl (ks_M_0 hx) rfl rfl (kl_M_0 hx) rfl rfl (z_Omono h (fun r0 g0 _ h hro => ?_))
  show z_U X 2 m_M_depthOf 8 [(3, (0, 0)), (0, (2, 0)), (1, (0, a1)), (2, (0, a2))] [] N σ g0 Q
  refine z_iconst (n := 1) d_M_depthOf_8 (by decide) ?_
  refine z_istore (ls' := [(4, (0, 1)), (3, (0, 0)), (0, (2, 0)), (1, (0, a1)), (2, (0, a2))]) d_M_depthOf_9 rfl rfl ?_
  refine z_sub (ls' := [(0, (2, 0)), (3, (0, 0)), (4, (0, 1))]) [2, 1, 0] rfl ?_
  exact h
set_option maxRecDepth 8000 in
theorem b_M_depthOf_11 {X : z_X} {N : Nat} {σ g : z_G} {Q : z_P} {x3 x4 : Int} (hx : z_lay X N σ 0 z_SM z_RM) (h : (((g 0 27) ≤ x4) → Q x3 g) ∧ (¬ ((g 0 27) ≤ x4) → ((0 ≤ x4 ∧ x4 < 40) ∧ (((x4 = 1) → ((-2147483648 ≤ ((g 10 x4) - 1) ∧ ((g 10 x4) - 1) ≤ 2147483647) ∧ ((-2147483648 ≤ ((g 0 27) - 1) ∧ ((g 0 27) - 1) ≤ 2147483647) ∧ (((x4 = ((g 0 27) - 1)) → ((-2147483648 ≤ (((g 10 x4) - 1) - 1) ∧ (((g 10 x4) - 1) - 1) ≤ 2147483647) ∧ ((-2147483648 ≤ (x3 + (((g 10 x4) - 1) - 1)) ∧ (x3 + (((g 10 x4) - 1) - 1)) ≤ 2147483647) ∧ ((-2147483648 ≤ (x4 + 1) ∧ (x4 + 1) ≤ 2147483647) ∧ L_M_depthOf_11 X N σ (x3 + (((g 10 x4) - 1) - 1)) (x4 + 1) g Q)))) ∧ (¬ (x4 = ((g 0 27) - 1)) → ((-2147483648 ≤ (((g 10 x4) - 1) - 0) ∧ (((g 10 x4) - 1) - 0) ≤ 2147483647) ∧ ((-2147483648 ≤ (x3 + (((g 10 x4) - 1) - 0)) ∧ (x3 + (((g 10 x4) - 1) - 0)) ≤ 2147483647) ∧ ((-2147483648 ≤ (x4 + 1) ∧ (x4 + 1) ≤ 2147483647) ∧ L_M_depthOf_11 X N σ (x3 + (((g 10 x4) - 1) - 0)) (x4 + 1) g Q)))))))) ∧ (¬ (x4 = 1) → ((-2147483648 ≤ ((g 10 x4) - 0) ∧ ((g 10 x4) - 0) ≤ 2147483647) ∧ ((-2147483648 ≤ ((g 0 27) - 1) ∧ ((g 0 27) - 1) ≤ 2147483647) ∧ (((x4 = ((g 0 27) - 1)) → ((-2147483648 ≤ (((g 10 x4) - 0) - 1) ∧ (((g 10 x4) - 0) - 1) ≤ 2147483647) ∧ ((-2147483648 ≤ (x3 + (((g 10 x4) - 0) - 1)) ∧ (x3 + (((g 10 x4) - 0) - 1)) ≤ 2147483647) ∧ ((-2147483648 ≤ (x4 + 1) ∧ (x4 + 1) ≤ 2147483647) ∧ L_M_depthOf_11 X N σ (x3 + (((g 10 x4) - 0) - 1)) (x4 + 1) g Q)))) ∧ (¬ (x4 = ((g 0 27) - 1)) → ((-2147483648 ≤ (((g 10 x4) - 0) - 0) ∧ (((g 10 x4) - 0) - 0) ≤ 2147483647) ∧ ((-2147483648 ≤ (x3 + (((g 10 x4) - 0) - 0)) ∧ (x3 + (((g 10 x4) - 0) - 0)) ≤ 2147483647) ∧ ((-2147483648 ≤ (x4 + 1) ∧ (x4 + 1) ≤ 2147483647) ∧ L_M_depthOf_11 X N σ (x3 + (((g 10 x4) - 0) - 0)) (x4 + 1) g Q)))))))))))) : L_M_depthOf_11 X N σ x3 x4 g Q := by
  refine z_iload 2 d_M_depthOf_11 rfl ?_
  refine z_aload_n (i := 0) (c := 0) 0 d_M_depthOf_13 rfl rfl rfl ?_
  refine z_geti (c := 0) (kI := 27) d_M_depthOf_14 fd_M_termMany fl_M_288 (Or.inl rfl) rfl rfl (ks_M_0 hx) (kl_M_0 hx) ?_
  refine z_icmp_ge (tgt := 35) d_M_depthOf_17 (by decide) (fun c1 => ?_) (fun c1 => ?_)
  · have h := h.1 c1
    refine z_iload_n (i := 3) 1 d_M_depthOf_35 rfl rfl ?_
    exact z_iret d_M_depthOf_36 rfl (by decide) (by decide) ⟨rfl, rfl, h⟩
  · have h := h.2 c1
    refine z_iload_n (i := 3) 1 d_M_depthOf_20 rfl rfl ?_
    refine z_aload_n (i := 0) (c := 0) 0 d_M_depthOf_21 rfl rfl rfl ?_
    refine z_iload 2 d_M_depthOf_22 rfl ?_
    refine z_cV (c := 0) (as := [(0, x4)]) (d' := 1) (st := [(0, x3)]) d_M_depthOf_24 mi_M_turnsOf ml_M_294 mv_M_turnsOf se_M_turnsOf rfl rfl rfl rfl (ks_M_0 hx) rfl rfl (kl_M_0 hx) rfl rfl (b_M_turnsOf_0 hx ?_)
    obtain ⟨c2, h⟩ := h
    refine ⟨c2, ?_⟩
    refine ⟨fun c3 => ?_, fun c3 => ?_⟩
    · have h := h.1 c3
      obtain ⟨c4, h⟩ := h
      refine ⟨c4, ?_⟩
      obtain ⟨c5, h⟩ := h
      refine ⟨c5, ?_⟩
      refine ⟨fun c6 => ?_, fun c6 => ?_⟩
      · have h := h.1 c6
        obtain ⟨c7, h⟩ := h
        refine ⟨c7, ?_⟩
        intro _
        show z_U X 2 m_M_depthOf 27 [(0, (2, 0)), (3, (0, x3)), (4, (0, x4))] [(0, ((g 10 x4) - 1) - 1), (0, x3)] N σ g Q
        obtain ⟨c8, h⟩ := h
        refine z_iadd d_M_depthOf_27 c8 ?_
        refine z_istore_n (i := 3) (ls' := [(3, (0, x3 + (((g 10 x4) - 1) - 1))), (0, (2, 0)), (4, (0, x4))]) d_M_depthOf_28 rfl rfl rfl ?_
        obtain ⟨c9, h⟩ := h
        refine z_iinc (n := 1) (ls' := [(4, (0, x4 + 1)), (3, (0, x3 + (((g 10 x4) - 1) - 1))), (0, (2, 0))]) 2 d_M_depthOf_29 rfl c9 rfl rfl ?_
        refine z_goto (tgt := 11) d_M_depthOf_32 (by decide) ?_
        refine z_sub (ls' := [(0, (2, 0)), (3, (0, x3 + (((g 10 x4) - 1) - 1))), (4, (0, x4 + 1))]) [2, 1, 0] rfl ?_
        exact h
      · have h := h.2 c6
        obtain ⟨c10, h⟩ := h
        refine ⟨c10, ?_⟩
        intro _
        show z_U X 2 m_M_depthOf 27 [(0, (2, 0)), (3, (0, x3)), (4, (0, x4))] [(0, ((g 10 x4) - 1) - 0), (0, x3)] N σ g Q
        obtain ⟨c11, h⟩ := h
        refine z_iadd d_M_depthOf_27 c11 ?_
        refine z_istore_n (i := 3) (ls' := [(3, (0, x3 + (((g 10 x4) - 1) - 0))), (0, (2, 0)), (4, (0, x4))]) d_M_depthOf_28 rfl rfl rfl ?_
        obtain ⟨c12, h⟩ := h
        refine z_iinc (n := 1) (ls' := [(4, (0, x4 + 1)), (3, (0, x3 + (((g 10 x4) - 1) - 0))), (0, (2, 0))]) 2 d_M_depthOf_29 rfl c12 rfl rfl ?_
        refine z_goto (tgt := 11) d_M_depthOf_32 (by decide) ?_
        refine z_sub (ls' := [(0, (2, 0)), (3, (0, x3 + (((g 10 x4) - 1) - 0))), (4, (0, x4 + 1))]) [2, 1, 0] rfl ?_
        exact h
    · have h := h.2 c3
      obtain ⟨c13, h⟩ := h
      refine ⟨c13, ?_⟩
      obtain ⟨c14, h⟩ := h
      refine ⟨c14, ?_⟩
      refine ⟨fun c15 => ?_, fun c15 => ?_⟩
      · have h := h.1 c15
        obtain ⟨c16, h⟩ := h
        refine ⟨c16, ?_⟩
        intro _
        show z_U X 2 m_M_depthOf 27 [(0, (2, 0)), (3, (0, x3)), (4, (0, x4))] [(0, ((g 10 x4) - 0) - 1), (0, x3)] N σ g Q
        obtain ⟨c17, h⟩ := h
        refine z_iadd d_M_depthOf_27 c17 ?_
        refine z_istore_n (i := 3) (ls' := [(3, (0, x3 + (((g 10 x4) - 0) - 1))), (0, (2, 0)), (4, (0, x4))]) d_M_depthOf_28 rfl rfl rfl ?_
        obtain ⟨c18, h⟩ := h
        refine z_iinc (n := 1) (ls' := [(4, (0, x4 + 1)), (3, (0, x3 + (((g 10 x4) - 0) - 1))), (0, (2, 0))]) 2 d_M_depthOf_29 rfl c18 rfl rfl ?_
        refine z_goto (tgt := 11) d_M_depthOf_32 (by decide) ?_
        refine z_sub (ls' := [(0, (2, 0)), (3, (0, x3 + (((g 10 x4) - 0) - 1))), (4, (0, x4 + 1))]) [2, 1, 0] rfl ?_
        exact h
      · have h := h.2 c15
        obtain ⟨c19, h⟩ := h
        refine ⟨c19, ?_⟩
        intro _
        show z_U X 2 m_M_depthOf 27 [(0, (2, 0)), (3, (0, x3)), (4, (0, x4))] [(0, ((g 10 x4) - 0) - 0), (0, x3)] N σ g Q
        obtain ⟨c20, h⟩ := h
        refine z_iadd d_M_depthOf_27 c20 ?_
        refine z_istore_n (i := 3) (ls' := [(3, (0, x3 + (((g 10 x4) - 0) - 0))), (0, (2, 0)), (4, (0, x4))]) d_M_depthOf_28 rfl rfl rfl ?_
        obtain ⟨c21, h⟩ := h
        refine z_iinc (n := 1) (ls' := [(4, (0, x4 + 1)), (3, (0, x3 + (((g 10 x4) - 0) - 0))), (0, (2, 0))]) 2 d_M_depthOf_29 rfl c21 rfl rfl ?_
        refine z_goto (tgt := 11) d_M_depthOf_32 (by decide) ?_
        refine z_sub (ls' := [(0, (2, 0)), (3, (0, x3 + (((g 10 x4) - 0) - 0))), (4, (0, x4 + 1))]) [2, 1, 0] rfl ?_
        exact h
theorem d_M_digitAt_0 : decode (z_c m_M_digitAt) 0 = .ok (.iload_n 1, 1) := by decide +kernel
theorem d_M_digitAt_1 : decode (z_c m_M_digitAt) 1 = .ok (.iload_n 2, 1) := by decide +kernel
theorem d_M_digitAt_2 : decode (z_c m_M_digitAt) 2 = .ok (.invokestatic 272, 3) := by decide +kernel
theorem d_M_digitAt_5 : decode (z_c m_M_digitAt) 5 = .ok (.ifCond .eq 15, 3) := by decide +kernel
theorem d_M_digitAt_8 : decode (z_c m_M_digitAt) 8 = .ok (.iload_n 3, 1) := by decide +kernel
theorem d_M_digitAt_9 : decode (z_c m_M_digitAt) 9 = .ok (.i2l, 1) := by decide +kernel
theorem d_M_digitAt_10 : decode (z_c m_M_digitAt) 10 = .ok (.lconst 0, 1) := by decide +kernel
theorem d_M_digitAt_11 : decode (z_c m_M_digitAt) 11 = .ok (.ldc2_w 323, 3) := by decide +kernel
theorem d_M_digitAt_14 : decode (z_c m_M_digitAt) 14 = .ok (.invokestatic 265, 3) := by decide +kernel
theorem d_M_digitAt_17 : decode (z_c m_M_digitAt) 17 = .ok (.ifCond .ne 9, 3) := by decide +kernel
theorem d_M_digitAt_20 : decode (z_c m_M_digitAt) 20 = .ok (.aload_n 0, 1) := by decide +kernel
theorem d_M_digitAt_21 : decode (z_c m_M_digitAt) 21 = .ok (.iconst 1, 1) := by decide +kernel
theorem d_M_digitAt_22 : decode (z_c m_M_digitAt) 22 = .ok (.invokevirtual 87, 3) := by decide +kernel
theorem d_M_digitAt_25 : decode (z_c m_M_digitAt) 25 = .ok (.ireturn, 1) := by decide +kernel
theorem d_M_digitAt_26 : decode (z_c m_M_digitAt) 26 = .ok (.iload_n 1, 1) := by decide +kernel
theorem d_M_digitAt_27 : decode (z_c m_M_digitAt) 27 = .ok (.iload_n 2, 1) := by decide +kernel
theorem d_M_digitAt_28 : decode (z_c m_M_digitAt) 28 = .ok (.irem, 1) := by decide +kernel
theorem d_M_digitAt_29 : decode (z_c m_M_digitAt) 29 = .ok (.istore 4, 2) := by decide +kernel
theorem d_M_digitAt_31 : decode (z_c m_M_digitAt) 31 = .ok (.iconst 0, 1) := by decide +kernel
theorem d_M_digitAt_32 : decode (z_c m_M_digitAt) 32 = .ok (.istore 5, 2) := by decide +kernel
theorem d_M_digitAt_34 : decode (z_c m_M_digitAt) 34 = .ok (.iload 5, 2) := by decide +kernel
theorem d_M_digitAt_36 : decode (z_c m_M_digitAt) 36 = .ok (.iload_n 3, 1) := by decide +kernel
theorem d_M_digitAt_37 : decode (z_c m_M_digitAt) 37 = .ok (.if_icmp .ge 18, 3) := by decide +kernel
theorem d_M_digitAt_40 : decode (z_c m_M_digitAt) 40 = .ok (.bipush 10, 2) := by decide +kernel
theorem d_M_digitAt_42 : decode (z_c m_M_digitAt) 42 = .ok (.iload 4, 2) := by decide +kernel
theorem d_M_digitAt_44 : decode (z_c m_M_digitAt) 44 = .ok (.imul, 1) := by decide +kernel
theorem d_M_digitAt_45 : decode (z_c m_M_digitAt) 45 = .ok (.iload_n 2, 1) := by decide +kernel
theorem d_M_digitAt_46 : decode (z_c m_M_digitAt) 46 = .ok (.irem, 1) := by decide +kernel
theorem d_M_digitAt_47 : decode (z_c m_M_digitAt) 47 = .ok (.istore 4, 2) := by decide +kernel
theorem d_M_digitAt_49 : decode (z_c m_M_digitAt) 49 = .ok (.iinc 5 1, 3) := by decide +kernel
theorem d_M_digitAt_52 : decode (z_c m_M_digitAt) 52 = .ok (.goto (-18), 3) := by decide +kernel
theorem d_M_digitAt_55 : decode (z_c m_M_digitAt) 55 = .ok (.aload_n 0, 1) := by decide +kernel
theorem d_M_digitAt_56 : decode (z_c m_M_digitAt) 56 = .ok (.bipush 10, 2) := by decide +kernel
theorem d_M_digitAt_58 : decode (z_c m_M_digitAt) 58 = .ok (.iload 4, 2) := by decide +kernel
theorem d_M_digitAt_60 : decode (z_c m_M_digitAt) 60 = .ok (.imul, 1) := by decide +kernel
theorem d_M_digitAt_61 : decode (z_c m_M_digitAt) 61 = .ok (.iload_n 2, 1) := by decide +kernel
theorem d_M_digitAt_62 : decode (z_c m_M_digitAt) 62 = .ok (.idiv, 1) := by decide +kernel
theorem d_M_digitAt_63 : decode (z_c m_M_digitAt) 63 = .ok (.invokevirtual 91, 3) := by decide +kernel
theorem d_M_digitAt_66 : decode (z_c m_M_digitAt) 66 = .ok (.ireturn, 1) := by decide +kernel
abbrev L_M_digitAt_34 (X : z_X) (N : Nat) (σ : z_G) (x2 x3 x4 x5 : Int) (g : z_G) (Q : z_P) : Prop := z_U X 2 m_M_digitAt 34 [(0, (2, 0)), (2, (0, x2)), (3, (0, x3)), (4, (0, x4)), (5, (0, x5))] [] N σ g Q
set_option maxRecDepth 8000 in
theorem b_M_digitAt_0 {X : z_X} {N : Nat} {σ g : z_G} {Q : z_P} {a1 a2 a3 : Int} (hx : z_lay X N σ 0 z_SM z_RM) (h : ((a2 < 1) → Q (-1) (z_up g 0 1 1)) ∧ (¬ (a2 < 1) → (((9999 < a2) → Q (-1) (z_up g 0 1 1)) ∧ (¬ (9999 < a2) → (((a1 < 0) → Q (-1) (z_up g 0 1 1)) ∧ (¬ (a1 < 0) → (((a2 < a1) → Q (-1) (z_up g 0 1 1)) ∧ (¬ (a2 < a1) → (((a3 < 0) → Q (-1) (z_up g 0 1 1)) ∧ (¬ (a3 < 0) → (((9999 < a3) → Q (-1) (z_up g 0 1 1)) ∧ (¬ (9999 < a3) → ((0 < a2) ∧ L_M_digitAt_34 X N σ a2 a3 (Int.tmod a1 a2) 0 g Q))))))))))))) : z_O X 2 m_M_digitAt [(2, 0), (0, a1), (0, a2), (0, a3)] N σ g Q := by
  refine z_Oenter mi_M_digitAt rfl (fun _ => ?_)
  show z_U X 2 m_M_digitAt 0 [(0, (2, 0)), (1, (0, a1)), (2, (0, a2)), (3, (0, a3))] [] N σ g Q
  refine z_iload_n (i := 1) 1 d_M_digitAt_0 rfl rfl ?_
  refine z_iload_n (i := 2) 2 d_M_digitAt_1 rfl rfl ?_
  refine z_cS (as := [(0, a1), (0, a2)]) (d' := 1) (st := []) d_M_digitAt_2 mi_M_isValue ml_M_272 ms_M_isValue rfl rfl rfl rfl rfl (b_M_isValue_0  ?_)
  refine ⟨fun c1 => ?_, fun c1 => ?_⟩
  · have h := h.1 c1
    intro _
    show z_U X 2 m_M_digitAt 5 [(0, (2, 0)), (1, (0, a1)), (2, (0, a2)), (3, (0, a3))] [(0, 0)] N σ g Q
    refine z_if_eq (tgt := 20) d_M_digitAt_5 (by decide) (fun _ => ?_) (fun c => absurd (by decide) c)
    refine z_aload_n (i := 0) (c := 0) 0 d_M_digitAt_20 rfl rfl rfl ?_
    refine z_iconst (n := 1) d_M_digitAt_21 (by decide) ?_
    refine z_cV (c := 0) (as := [(0, 1)]) (d' := 1) (st := []) d_M_digitAt_22 mi_M_refuse ml_M_87 mv_M_refuse se_M_refuse rfl rfl rfl rfl (ks_M_0 hx) rfl rfl (kl_M_0 hx) rfl rfl (b_M_refuse_0 hx ?_)
    intro _
    show z_U X 2 m_M_digitAt 25 [(0, (2, 0)), (1, (0, a1)), (2, (0, a2)), (3, (0, a3))] [(0, (-1))] N σ (z_up g 0 1 1) Q
    exact z_iret d_M_digitAt_25 rfl (by decide) (by decide) ⟨rfl, rfl, h⟩
  · have h := h.2 c1
    refine ⟨fun c2 => ?_, fun c2 => ?_⟩
    · have h := h.1 c2
      intro _
      show z_U X 2 m_M_digitAt 5 [(0, (2, 0)), (1, (0, a1)), (2, (0, a2)), (3, (0, a3))] [(0, 0)] N σ g Q
      refine z_if_eq (tgt := 20) d_M_digitAt_5 (by decide) (fun _ => ?_) (fun c => absurd (by decide) c)
      refine z_aload_n (i := 0) (c := 0) 0 d_M_digitAt_20 rfl rfl rfl ?_
      refine z_iconst (n := 1) d_M_digitAt_21 (by decide) ?_
      refine z_cV (c := 0) (as := [(0, 1)]) (d' := 1) (st := []) d_M_digitAt_22 mi_M_refuse ml_M_87 mv_M_refuse se_M_refuse rfl rfl rfl rfl (ks_M_0 hx) rfl rfl (kl_M_0 hx) rfl rfl (b_M_refuse_0 hx ?_)
      intro _
      show z_U X 2 m_M_digitAt 25 [(0, (2, 0)), (1, (0, a1)), (2, (0, a2)), (3, (0, a3))] [(0, (-1))] N σ (z_up g 0 1 1) Q
      exact z_iret d_M_digitAt_25 rfl (by decide) (by decide) ⟨rfl, rfl, h⟩
    · have h := h.2 c2
      refine ⟨fun c3 => ?_, fun c3 => ?_⟩
      · have h := h.1 c3
        intro _
        show z_U X 2 m_M_digitAt 5 [(0, (2, 0)), (1, (0, a1)), (2, (0, a2)), (3, (0, a3))] [(0, 0)] N σ g Q
        refine z_if_eq (tgt := 20) d_M_digitAt_5 (by decide) (fun _ => ?_) (fun c => absurd (by decide) c)
        refine z_aload_n (i := 0) (c := 0) 0 d_M_digitAt_20 rfl rfl rfl ?_
        refine z_iconst (n := 1) d_M_digitAt_21 (by decide) ?_
        refine z_cV (c := 0) (as := [(0, 1)]) (d' := 1) (st := []) d_M_digitAt_22 mi_M_refuse ml_M_87 mv_M_refuse se_M_refuse rfl rfl rfl rfl (ks_M_0 hx) rfl rfl (kl_M_0 hx) rfl rfl (b_M_refuse_0 hx ?_)
        intro _
        show z_U X 2 m_M_digitAt 25 [(0, (2, 0)), (1, (0, a1)), (2, (0, a2)), (3, (0, a3))] [(0, (-1))] N σ (z_up g 0 1 1) Q
        exact z_iret d_M_digitAt_25 rfl (by decide) (by decide) ⟨rfl, rfl, h⟩
      · have h := h.2 c3
        refine ⟨fun c4 => ?_, fun c4 => ?_⟩
        · have h := h.1 c4
          intro _
          show z_U X 2 m_M_digitAt 5 [(0, (2, 0)), (1, (0, a1)), (2, (0, a2)), (3, (0, a3))] [(0, 0)] N σ g Q
          refine z_if_eq (tgt := 20) d_M_digitAt_5 (by decide) (fun _ => ?_) (fun c => absurd (by decide) c)
          refine z_aload_n (i := 0) (c := 0) 0 d_M_digitAt_20 rfl rfl rfl ?_
          refine z_iconst (n := 1) d_M_digitAt_21 (by decide) ?_
          refine z_cV (c := 0) (as := [(0, 1)]) (d' := 1) (st := []) d_M_digitAt_22 mi_M_refuse ml_M_87 mv_M_refuse se_M_refuse rfl rfl rfl rfl (ks_M_0 hx) rfl rfl (kl_M_0 hx) rfl rfl (b_M_refuse_0 hx ?_)
          intro _
          show z_U X 2 m_M_digitAt 25 [(0, (2, 0)), (1, (0, a1)), (2, (0, a2)), (3, (0, a3))] [(0, (-1))] N σ (z_up g 0 1 1) Q
          exact z_iret d_M_digitAt_25 rfl (by decide) (by decide) ⟨rfl, rfl, h⟩
        · have h := h.2 c4
          intro _
          show z_U X 2 m_M_digitAt 5 [(0, (2, 0)), (1, (0, a1)), (2, (0, a2)), (3, (0, a3))] [(0, 1)] N σ g Q
          refine z_if_eq (tgt := 20) d_M_digitAt_5 (by decide) (fun c => absurd c (by decide)) (fun _ => ?_)
          refine z_iload_n (i := 3) 3 d_M_digitAt_8 rfl rfl ?_
          refine z_i2l d_M_digitAt_9 ?_
          refine z_lconst (v := 0) d_M_digitAt_10 (by decide) (by decide) ?_
          refine z_ldc2 (v := 9999) d_M_digitAt_11 kc_M_323 (by decide) ?_
          refine z_cS (as := [(1, a3), (1, 0), (1, 9999)]) (d' := 1) (st := []) d_M_digitAt_14 mi_M_isFrom ml_M_265 ms_M_isFrom rfl rfl rfl rfl rfl (b_M_isFrom_0  ?_)
          refine ⟨fun c5 => ?_, fun c5 => ?_⟩
          · have h := h.1 c5
            intro _
            show z_U X 2 m_M_digitAt 17 [(0, (2, 0)), (1, (0, a1)), (2, (0, a2)), (3, (0, a3))] [(0, 0)] N σ g Q
            refine z_if_ne (tgt := 26) d_M_digitAt_17 (by decide) (fun c => absurd (by decide) c) (fun _ => ?_)
            refine z_aload_n (i := 0) (c := 0) 0 d_M_digitAt_20 rfl rfl rfl ?_
            refine z_iconst (n := 1) d_M_digitAt_21 (by decide) ?_
            refine z_cV (c := 0) (as := [(0, 1)]) (d' := 1) (st := []) d_M_digitAt_22 mi_M_refuse ml_M_87 mv_M_refuse se_M_refuse rfl rfl rfl rfl (ks_M_0 hx) rfl rfl (kl_M_0 hx) rfl rfl (b_M_refuse_0 hx ?_)
            intro _
            show z_U X 2 m_M_digitAt 25 [(0, (2, 0)), (1, (0, a1)), (2, (0, a2)), (3, (0, a3))] [(0, (-1))] N σ (z_up g 0 1 1) Q
            exact z_iret d_M_digitAt_25 rfl (by decide) (by decide) ⟨rfl, rfl, h⟩
          · have h := h.2 c5
            refine ⟨fun c6 => ?_, fun c6 => ?_⟩
            · have h := h.1 c6
              intro _
              show z_U X 2 m_M_digitAt 17 [(0, (2, 0)), (1, (0, a1)), (2, (0, a2)), (3, (0, a3))] [(0, 0)] N σ g Q
              refine z_if_ne (tgt := 26) d_M_digitAt_17 (by decide) (fun c => absurd (by decide) c) (fun _ => ?_)
              refine z_aload_n (i := 0) (c := 0) 0 d_M_digitAt_20 rfl rfl rfl ?_
              refine z_iconst (n := 1) d_M_digitAt_21 (by decide) ?_
              refine z_cV (c := 0) (as := [(0, 1)]) (d' := 1) (st := []) d_M_digitAt_22 mi_M_refuse ml_M_87 mv_M_refuse se_M_refuse rfl rfl rfl rfl (ks_M_0 hx) rfl rfl (kl_M_0 hx) rfl rfl (b_M_refuse_0 hx ?_)
              intro _
              show z_U X 2 m_M_digitAt 25 [(0, (2, 0)), (1, (0, a1)), (2, (0, a2)), (3, (0, a3))] [(0, (-1))] N σ (z_up g 0 1 1) Q
              exact z_iret d_M_digitAt_25 rfl (by decide) (by decide) ⟨rfl, rfl, h⟩
            · have h := h.2 c6
              intro _
              show z_U X 2 m_M_digitAt 17 [(0, (2, 0)), (1, (0, a1)), (2, (0, a2)), (3, (0, a3))] [(0, 1)] N σ g Q
              refine z_if_ne (tgt := 26) d_M_digitAt_17 (by decide) (fun _ => ?_) (fun c => absurd c (by decide))
              refine z_iload_n (i := 1) 1 d_M_digitAt_26 rfl rfl ?_
              refine z_iload_n (i := 2) 2 d_M_digitAt_27 rfl rfl ?_
              obtain ⟨c7, h⟩ := h
              refine z_irem d_M_digitAt_28 c7 ?_
              refine z_istore (ls' := [(4, (0, Int.tmod a1 a2)), (0, (2, 0)), (1, (0, a1)), (2, (0, a2)), (3, (0, a3))]) d_M_digitAt_29 rfl rfl ?_
              refine z_iconst (n := 0) d_M_digitAt_31 (by decide) ?_
              refine z_istore (ls' := [(5, (0, 0)), (4, (0, Int.tmod a1 a2)), (0, (2, 0)), (1, (0, a1)), (2, (0, a2)), (3, (0, a3))]) d_M_digitAt_32 rfl rfl ?_
              refine z_sub (ls' := [(0, (2, 0)), (2, (0, a2)), (3, (0, a3)), (4, (0, Int.tmod a1 a2)), (5, (0, 0))]) [2, 4, 5, 1, 0] rfl ?_
              exact h
set_option maxRecDepth 8000 in
theorem b_M_digitAt_34 {X : z_X} {N : Nat} {σ g : z_G} {Q : z_P} {x2 x3 x4 x5 : Int} (hx : z_lay X N σ 0 z_SM z_RM) (h : ((x3 ≤ x5) → ((-2147483648 ≤ (10 * x4) ∧ (10 * x4) ≤ 2147483647) ∧ ((0 < x2) ∧ Q (Int.tdiv (10 * x4) x2) (z_up g 0 1 0)))) ∧ (¬ (x3 ≤ x5) → ((-2147483648 ≤ (10 * x4) ∧ (10 * x4) ≤ 2147483647) ∧ ((0 < x2) ∧ ((-2147483648 ≤ (x5 + 1) ∧ (x5 + 1) ≤ 2147483647) ∧ L_M_digitAt_34 X N σ x2 x3 (Int.tmod (10 * x4) x2) (x5 + 1) g Q))))) : L_M_digitAt_34 X N σ x2 x3 x4 x5 g Q := by
  refine z_iload 4 d_M_digitAt_34 rfl ?_
  refine z_iload_n (i := 3) 2 d_M_digitAt_36 rfl rfl ?_
  refine z_icmp_ge (tgt := 55) d_M_digitAt_37 (by decide) (fun c1 => ?_) (fun c1 => ?_)
  · have h := h.1 c1
    refine z_aload_n (i := 0) (c := 0) 0 d_M_digitAt_55 rfl rfl rfl ?_
    refine z_bipush (n := 10) d_M_digitAt_56 (by decide) (by decide) ?_
    refine z_iload 3 d_M_digitAt_58 rfl ?_
    obtain ⟨c2, h⟩ := h
    refine z_imul d_M_digitAt_60 c2 ?_
    refine z_iload_n (i := 2) 1 d_M_digitAt_61 rfl rfl ?_
    obtain ⟨c3, h⟩ := h
    refine z_idiv d_M_digitAt_62 c3 ?_
    refine z_cV (c := 0) (as := [(0, Int.tdiv (10 * x4) x2)]) (d' := 1) (st := []) d_M_digitAt_63 mi_M_gives ml_M_91 mv_M_gives se_M_gives rfl rfl rfl rfl (ks_M_0 hx) rfl rfl (kl_M_0 hx) rfl rfl (b_M_gives_0 hx ?_)
    intro _
    show z_U X 2 m_M_digitAt 66 [(0, (2, 0)), (2, (0, x2)), (3, (0, x3)), (4, (0, x4)), (5, (0, x5))] [(0, Int.tdiv (10 * x4) x2)] N σ (z_up g 0 1 0) Q
    exact z_iret d_M_digitAt_66 rfl (by decide) (by decide) ⟨rfl, rfl, h⟩
  · have h := h.2 c1
    refine z_bipush (n := 10) d_M_digitAt_40 (by decide) (by decide) ?_
    refine z_iload 3 d_M_digitAt_42 rfl ?_
    obtain ⟨c4, h⟩ := h
    refine z_imul d_M_digitAt_44 c4 ?_
    refine z_iload_n (i := 2) 1 d_M_digitAt_45 rfl rfl ?_
    obtain ⟨c5, h⟩ := h
    refine z_irem d_M_digitAt_46 c5 ?_
    refine z_istore (ls' := [(4, (0, Int.tmod (10 * x4) x2)), (0, (2, 0)), (2, (0, x2)), (3, (0, x3)), (5, (0, x5))]) d_M_digitAt_47 rfl rfl ?_
    obtain ⟨c6, h⟩ := h
    refine z_iinc (n := 1) (ls' := [(5, (0, x5 + 1)), (4, (0, Int.tmod (10 * x4) x2)), (0, (2, 0)), (2, (0, x2)), (3, (0, x3))]) 4 d_M_digitAt_49 rfl c6 rfl rfl ?_
    refine z_goto (tgt := 34) d_M_digitAt_52 (by decide) ?_
    refine z_sub (ls' := [(0, (2, 0)), (2, (0, x2)), (3, (0, x3)), (4, (0, Int.tmod (10 * x4) x2)), (5, (0, x5 + 1))]) [2, 3, 4, 1, 0] rfl ?_
    exact h
theorem d_M_digits_0 : decode (z_c m_M_digits) 0 = .ok (.iload_n 1, 1) := by decide +kernel
theorem d_M_digits_1 : decode (z_c m_M_digits) 1 = .ok (.iload_n 2, 1) := by decide +kernel
theorem d_M_digits_2 : decode (z_c m_M_digits) 2 = .ok (.invokestatic 272, 3) := by decide +kernel
theorem d_M_digits_5 : decode (z_c m_M_digits) 5 = .ok (.ifCond .eq 12, 3) := by decide +kernel
theorem d_M_digits_8 : decode (z_c m_M_digits) 8 = .ok (.iload_n 3, 1) := by decide +kernel
theorem d_M_digits_9 : decode (z_c m_M_digits) 9 = .ok (.ifCond .lt 8, 3) := by decide +kernel
theorem d_M_digits_12 : decode (z_c m_M_digits) 12 = .ok (.iload_n 3, 1) := by decide +kernel
theorem d_M_digits_13 : decode (z_c m_M_digits) 13 = .ok (.iconst 1, 1) := by decide +kernel
theorem d_M_digits_14 : decode (z_c m_M_digits) 14 = .ok (.if_icmp .le 9, 3) := by decide +kernel
theorem d_M_digits_17 : decode (z_c m_M_digits) 17 = .ok (.aload_n 0, 1) := by decide +kernel
theorem d_M_digits_18 : decode (z_c m_M_digits) 18 = .ok (.iconst 1, 1) := by decide +kernel
theorem d_M_digits_19 : decode (z_c m_M_digits) 19 = .ok (.invokevirtual 87, 3) := by decide +kernel
theorem d_M_digits_22 : decode (z_c m_M_digits) 22 = .ok (.ireturn, 1) := by decide +kernel
theorem d_M_digits_23 : decode (z_c m_M_digits) 23 = .ok (.aload_n 0, 1) := by decide +kernel
theorem d_M_digits_24 : decode (z_c m_M_digits) 24 = .ok (.iload_n 2, 1) := by decide +kernel
theorem d_M_digits_25 : decode (z_c m_M_digits) 25 = .ok (.iload_n 1, 1) := by decide +kernel
theorem d_M_digits_26 : decode (z_c m_M_digits) 26 = .ok (.iload_n 2, 1) := by decide +kernel
theorem d_M_digits_27 : decode (z_c m_M_digits) 27 = .ok (.invokestatic 182, 3) := by decide +kernel
theorem d_M_digits_30 : decode (z_c m_M_digits) 30 = .ok (.idiv, 1) := by decide +kernel
theorem d_M_digits_31 : decode (z_c m_M_digits) 31 = .ok (.putfield 311, 3) := by decide +kernel
theorem d_M_digits_34 : decode (z_c m_M_digits) 34 = .ok (.aload_n 0, 1) := by decide +kernel
theorem d_M_digits_35 : decode (z_c m_M_digits) 35 = .ok (.iconst 2, 1) := by decide +kernel
theorem d_M_digits_36 : decode (z_c m_M_digits) 36 = .ok (.invokevirtual 314, 3) := by decide +kernel
theorem d_M_digits_39 : decode (z_c m_M_digits) 39 = .ok (.istore 4, 2) := by decide +kernel
theorem d_M_digits_41 : decode (z_c m_M_digits) 41 = .ok (.aload_n 0, 1) := by decide +kernel
theorem d_M_digits_42 : decode (z_c m_M_digits) 42 = .ok (.iconst 5, 1) := by decide +kernel
theorem d_M_digits_43 : decode (z_c m_M_digits) 43 = .ok (.invokevirtual 314, 3) := by decide +kernel
theorem d_M_digits_46 : decode (z_c m_M_digits) 46 = .ok (.istore 5, 2) := by decide +kernel
theorem d_M_digits_48 : decode (z_c m_M_digits) 48 = .ok (.aload_n 0, 1) := by decide +kernel
theorem d_M_digits_49 : decode (z_c m_M_digits) 49 = .ok (.iload_n 3, 1) := by decide +kernel
theorem d_M_digits_50 : decode (z_c m_M_digits) 50 = .ok (.ifCond .ne 13, 3) := by decide +kernel
theorem d_M_digits_53 : decode (z_c m_M_digits) 53 = .ok (.iload 4, 2) := by decide +kernel
theorem d_M_digits_55 : decode (z_c m_M_digits) 55 = .ok (.iload 5, 2) := by decide +kernel
theorem d_M_digits_57 : decode (z_c m_M_digits) 57 = .ok (.invokestatic 317, 3) := by decide +kernel
theorem d_M_digits_60 : decode (z_c m_M_digits) 60 = .ok (.goto 11, 3) := by decide +kernel
theorem d_M_digits_63 : decode (z_c m_M_digits) 63 = .ok (.aload_n 0, 1) := by decide +kernel
theorem d_M_digits_64 : decode (z_c m_M_digits) 64 = .ok (.aload_n 0, 1) := by decide +kernel
theorem d_M_digits_65 : decode (z_c m_M_digits) 65 = .ok (.getfield 311, 3) := by decide +kernel
theorem d_M_digits_68 : decode (z_c m_M_digits) 68 = .ok (.invokevirtual 320, 3) := by decide +kernel
theorem d_M_digits_71 : decode (z_c m_M_digits) 71 = .ok (.invokevirtual 91, 3) := by decide +kernel
theorem d_M_digits_74 : decode (z_c m_M_digits) 74 = .ok (.ireturn, 1) := by decide +kernel
set_option maxRecDepth 8000 in
theorem b_M_digits_0 {X : z_X} {N : Nat} {σ g : z_G} {Q : z_P} {a1 a2 a3 : Int} (hx : z_lay X N σ 0 z_SM z_RM) (h : ((a2 < 1) → Q (-1) (z_up g 0 1 1)) ∧ (¬ (a2 < 1) → (((9999 < a2) → Q (-1) (z_up g 0 1 1)) ∧ (¬ (9999 < a2) → (((a1 < 0) → Q (-1) (z_up g 0 1 1)) ∧ (¬ (a1 < 0) → (((a2 < a1) → Q (-1) (z_up g 0 1 1)) ∧ (¬ (a2 < a1) → (((a3 < 0) → Q (-1) (z_up g 0 1 1)) ∧ (¬ (a3 < 0) → (((a3 ≤ 1) → (z_O X 1 m_M_common [(0, a1), (0, a2)] N σ g (fun r0 g0 => ((0 < r0) ∧ (z_O X 1 m_M_times [(2, 0), (0, 2)] N σ (z_up g0 0 30 (Int.tdiv a2 r0)) (fun r1 g1 => (z_O X 1 m_M_times [(2, 0), (0, 5)] N σ g1 (fun r2 g2 => (((a3 = 0) → (((r1 < r2) → Q r2 (z_up g2 0 1 0)) ∧ (¬ (r1 < r2) → Q r1 (z_up g2 0 1 0)))) ∧ (¬ (a3 = 0) → (z_O X 1 m_M_periodOf [(2, 0), (0, g2 0 30)] N σ g2 (fun r3 g3 => Q r3 (z_up g3 0 1 0))))))))))))) ∧ (¬ (a3 ≤ 1) → Q (-1) (z_up g 0 1 1))))))))))))) : z_O X 2 m_M_digits [(2, 0), (0, a1), (0, a2), (0, a3)] N σ g Q := by
  refine z_Oenter mi_M_digits rfl (fun _ => ?_)
  show z_U X 2 m_M_digits 0 [(0, (2, 0)), (1, (0, a1)), (2, (0, a2)), (3, (0, a3))] [] N σ g Q
  refine z_iload_n (i := 1) 1 d_M_digits_0 rfl rfl ?_
  refine z_iload_n (i := 2) 2 d_M_digits_1 rfl rfl ?_
  refine z_cS (as := [(0, a1), (0, a2)]) (d' := 1) (st := []) d_M_digits_2 mi_M_isValue ml_M_272 ms_M_isValue rfl rfl rfl rfl rfl (b_M_isValue_0  ?_)
  refine ⟨fun c1 => ?_, fun c1 => ?_⟩
  · have h := h.1 c1
    intro _
    show z_U X 2 m_M_digits 5 [(0, (2, 0)), (1, (0, a1)), (2, (0, a2)), (3, (0, a3))] [(0, 0)] N σ g Q
    refine z_if_eq (tgt := 17) d_M_digits_5 (by decide) (fun _ => ?_) (fun c => absurd (by decide) c)
    refine z_aload_n (i := 0) (c := 0) 0 d_M_digits_17 rfl rfl rfl ?_
    refine z_iconst (n := 1) d_M_digits_18 (by decide) ?_
    refine z_cV (c := 0) (as := [(0, 1)]) (d' := 1) (st := []) d_M_digits_19 mi_M_refuse ml_M_87 mv_M_refuse se_M_refuse rfl rfl rfl rfl (ks_M_0 hx) rfl rfl (kl_M_0 hx) rfl rfl (b_M_refuse_0 hx ?_)
    intro _
    show z_U X 2 m_M_digits 22 [(0, (2, 0)), (1, (0, a1)), (2, (0, a2)), (3, (0, a3))] [(0, (-1))] N σ (z_up g 0 1 1) Q
    exact z_iret d_M_digits_22 rfl (by decide) (by decide) ⟨rfl, rfl, h⟩
  · have h := h.2 c1
    refine ⟨fun c2 => ?_, fun c2 => ?_⟩
    · have h := h.1 c2
      intro _
      show z_U X 2 m_M_digits 5 [(0, (2, 0)), (1, (0, a1)), (2, (0, a2)), (3, (0, a3))] [(0, 0)] N σ g Q
      refine z_if_eq (tgt := 17) d_M_digits_5 (by decide) (fun _ => ?_) (fun c => absurd (by decide) c)
      refine z_aload_n (i := 0) (c := 0) 0 d_M_digits_17 rfl rfl rfl ?_
      refine z_iconst (n := 1) d_M_digits_18 (by decide) ?_
      refine z_cV (c := 0) (as := [(0, 1)]) (d' := 1) (st := []) d_M_digits_19 mi_M_refuse ml_M_87 mv_M_refuse se_M_refuse rfl rfl rfl rfl (ks_M_0 hx) rfl rfl (kl_M_0 hx) rfl rfl (b_M_refuse_0 hx ?_)
      intro _
      show z_U X 2 m_M_digits 22 [(0, (2, 0)), (1, (0, a1)), (2, (0, a2)), (3, (0, a3))] [(0, (-1))] N σ (z_up g 0 1 1) Q
      exact z_iret d_M_digits_22 rfl (by decide) (by decide) ⟨rfl, rfl, h⟩
    · have h := h.2 c2
      refine ⟨fun c3 => ?_, fun c3 => ?_⟩
      · have h := h.1 c3
        intro _
        show z_U X 2 m_M_digits 5 [(0, (2, 0)), (1, (0, a1)), (2, (0, a2)), (3, (0, a3))] [(0, 0)] N σ g Q
        refine z_if_eq (tgt := 17) d_M_digits_5 (by decide) (fun _ => ?_) (fun c => absurd (by decide) c)
        refine z_aload_n (i := 0) (c := 0) 0 d_M_digits_17 rfl rfl rfl ?_
        refine z_iconst (n := 1) d_M_digits_18 (by decide) ?_
        refine z_cV (c := 0) (as := [(0, 1)]) (d' := 1) (st := []) d_M_digits_19 mi_M_refuse ml_M_87 mv_M_refuse se_M_refuse rfl rfl rfl rfl (ks_M_0 hx) rfl rfl (kl_M_0 hx) rfl rfl (b_M_refuse_0 hx ?_)
        intro _
        show z_U X 2 m_M_digits 22 [(0, (2, 0)), (1, (0, a1)), (2, (0, a2)), (3, (0, a3))] [(0, (-1))] N σ (z_up g 0 1 1) Q
        exact z_iret d_M_digits_22 rfl (by decide) (by decide) ⟨rfl, rfl, h⟩
      · have h := h.2 c3
        refine ⟨fun c4 => ?_, fun c4 => ?_⟩
        · have h := h.1 c4
          intro _
          show z_U X 2 m_M_digits 5 [(0, (2, 0)), (1, (0, a1)), (2, (0, a2)), (3, (0, a3))] [(0, 0)] N σ g Q
          refine z_if_eq (tgt := 17) d_M_digits_5 (by decide) (fun _ => ?_) (fun c => absurd (by decide) c)
          refine z_aload_n (i := 0) (c := 0) 0 d_M_digits_17 rfl rfl rfl ?_
          refine z_iconst (n := 1) d_M_digits_18 (by decide) ?_
          refine z_cV (c := 0) (as := [(0, 1)]) (d' := 1) (st := []) d_M_digits_19 mi_M_refuse ml_M_87 mv_M_refuse se_M_refuse rfl rfl rfl rfl (ks_M_0 hx) rfl rfl (kl_M_0 hx) rfl rfl (b_M_refuse_0 hx ?_)
          intro _
          show z_U X 2 m_M_digits 22 [(0, (2, 0)), (1, (0, a1)), (2, (0, a2)), (3, (0, a3))] [(0, (-1))] N σ (z_up g 0 1 1) Q
          exact z_iret d_M_digits_22 rfl (by decide) (by decide) ⟨rfl, rfl, h⟩
        · have h := h.2 c4
          intro _
          show z_U X 2 m_M_digits 5 [(0, (2, 0)), (1, (0, a1)), (2, (0, a2)), (3, (0, a3))] [(0, 1)] N σ g Q
          refine z_if_eq (tgt := 17) d_M_digits_5 (by decide) (fun c => absurd c (by decide)) (fun _ => ?_)
          refine z_iload_n (i := 3) 3 d_M_digits_8 rfl rfl ?_
          refine z_if_lt (tgt := 17) d_M_digits_9 (by decide) (fun c5 => ?_) (fun c5 => ?_)
          · have h := h.1 c5
            refine z_aload_n (i := 0) (c := 0) 0 d_M_digits_17 rfl rfl rfl ?_
            refine z_iconst (n := 1) d_M_digits_18 (by decide) ?_
            refine z_cV (c := 0) (as := [(0, 1)]) (d' := 1) (st := []) d_M_digits_19 mi_M_refuse ml_M_87 mv_M_refuse se_M_refuse rfl rfl rfl rfl (ks_M_0 hx) rfl rfl (kl_M_0 hx) rfl rfl (b_M_refuse_0 hx ?_)
            intro _
            show z_U X 2 m_M_digits 22 [(0, (2, 0)), (1, (0, a1)), (2, (0, a2)), (3, (0, a3))] [(0, (-1))] N σ (z_up g 0 1 1) Q
            exact z_iret d_M_digits_22 rfl (by decide) (by decide) ⟨rfl, rfl, h⟩
          · have h := h.2 c5
            refine z_iload_n (i := 3) 3 d_M_digits_12 rfl rfl ?_
            refine z_iconst (n := 1) d_M_digits_13 (by decide) ?_
            refine z_icmp_le (tgt := 23) d_M_digits_14 (by decide) (fun c6 => ?_) (fun c6 => ?_)
            · have h := h.1 c6
              refine z_aload_n (i := 0) (c := 0) 0 d_M_digits_23 rfl rfl rfl ?_
              refine z_iload_n (i := 2) 2 d_M_digits_24 rfl rfl ?_
              refine z_iload_n (i := 1) 1 d_M_digits_25 rfl rfl ?_
              refine z_iload_n (i := 2) 2 d_M_digits_26 rfl rfl ?_
              refine z_cS (as := [(0, a1), (0, a2)]) (d' := 1) (st := [(0, a2), (2, 0)]) d_M_digits_27 mi_M_common ml_M_182 ms_M_common rfl rfl rfl rfl rfl (z_Omono h (fun r0 g0 _ h hro => ?_))
              show z_U X 2 m_M_digits 30 [(0, (2, 0)), (1, (0, a1)), (2, (0, a2)), (3, (0, a3))] [(0, r0), (0, a2), (2, 0)] N σ g0 Q
              obtain ⟨c7, h⟩ := h
              refine z_idiv d_M_digits_30 c7 ?_
              refine z_puti (c := 0) (kI := 30) d_M_digits_31 fd_M_left1 fl_M_311 pf_M_left1 rfl rfl rfl rfl (ks_M_0 hx) (kl_M_0 hx) ?_
              refine z_aload_n (i := 0) (c := 0) 0 d_M_digits_34 rfl rfl rfl ?_
              refine z_iconst (n := 2) d_M_digits_35 (by decide) ?_
              refine z_cV (c := 0) (as := [(0, 2)]) (d' := 1) (st := []) d_M_digits_36 mi_M_times ml_M_314 mv_M_times se_M_times rfl rfl rfl rfl (ks_M_0 hx) rfl rfl (kl_M_0 hx) rfl rfl (z_Omono h (fun r1 g1 _ h hro => ?_))
              show z_U X 2 m_M_digits 39 [(0, (2, 0)), (1, (0, a1)), (2, (0, a2)), (3, (0, a3))] [(0, r1)] N σ g1 Q
              refine z_istore (ls' := [(4, (0, r1)), (0, (2, 0)), (1, (0, a1)), (2, (0, a2)), (3, (0, a3))]) d_M_digits_39 rfl rfl ?_
              refine z_aload_n (i := 0) (c := 0) 1 d_M_digits_41 rfl rfl rfl ?_
              refine z_iconst (n := 5) d_M_digits_42 (by decide) ?_
              refine z_cV (c := 0) (as := [(0, 5)]) (d' := 1) (st := []) d_M_digits_43 mi_M_times ml_M_314 mv_M_times se_M_times rfl rfl rfl rfl (ks_M_0 hx) rfl rfl (kl_M_0 hx) rfl rfl (z_Omono h (fun r2 g2 _ h hro => ?_))
              show z_U X 2 m_M_digits 46 [(4, (0, r1)), (0, (2, 0)), (1, (0, a1)), (2, (0, a2)), (3, (0, a3))] [(0, r2)] N σ g2 Q
              refine z_istore (ls' := [(5, (0, r2)), (4, (0, r1)), (0, (2, 0)), (1, (0, a1)), (2, (0, a2)), (3, (0, a3))]) d_M_digits_46 rfl rfl ?_
              refine z_aload_n (i := 0) (c := 0) 2 d_M_digits_48 rfl rfl rfl ?_
              refine z_iload_n (i := 3) 5 d_M_digits_49 rfl rfl ?_
              refine z_if_ne (tgt := 63) d_M_digits_50 (by decide) (fun c8 => ?_) (fun c8 => ?_)
              · have h := h.2 c8
                refine z_aload_n (i := 0) (c := 0) 2 d_M_digits_63 rfl rfl rfl ?_
                refine z_aload_n (i := 0) (c := 0) 2 d_M_digits_64 rfl rfl rfl ?_
                refine z_geti (c := 0) (kI := 30) d_M_digits_65 fd_M_left1 fl_M_311 (Or.inl rfl) rfl rfl (ks_M_0 hx) (kl_M_0 hx) ?_
                refine z_cV (c := 0) (as := [(0, g2 0 30)]) (d' := 1) (st := [(2, 0)]) d_M_digits_68 mi_M_periodOf ml_M_320 mv_M_periodOf se_M_periodOf rfl rfl rfl rfl (ks_M_0 hx) rfl rfl (kl_M_0 hx) rfl rfl (z_Omono h (fun r3 g3 _ h hro => ?_))
                show z_U X 2 m_M_digits 71 [(5, (0, r2)), (4, (0, r1)), (0, (2, 0)), (1, (0, a1)), (2, (0, a2)), (3, (0, a3))] [(0, r3), (2, 0)] N σ g3 Q
                refine z_cV (c := 0) (as := [(0, r3)]) (d' := 1) (st := []) d_M_digits_71 mi_M_gives ml_M_91 mv_M_gives se_M_gives rfl rfl rfl rfl (ks_M_0 hx) rfl rfl (kl_M_0 hx) rfl rfl (b_M_gives_0 hx ?_)
                intro _
                show z_U X 2 m_M_digits 74 [(5, (0, r2)), (4, (0, r1)), (0, (2, 0)), (1, (0, a1)), (2, (0, a2)), (3, (0, a3))] [(0, r3)] N σ (z_up g3 0 1 0) Q
                exact z_iret d_M_digits_74 rfl (by decide) (by decide) ⟨rfl, rfl, h⟩
              · have h := h.1 c8
                refine z_iload 1 d_M_digits_53 rfl ?_
                refine z_iload 0 d_M_digits_55 rfl ?_
                refine z_mmax d_M_digits_57 kmm_max_M_317 kms_max kmi kmc_max (by decide) (Nat.le_of_ble_eq_true rfl) (fun c9 => ?_) (fun c9 => ?_)
                · have h := h.1 c9
                  refine z_goto (tgt := 71) d_M_digits_60 (by decide) ?_
                  refine z_cV (c := 0) (as := [(0, r2)]) (d' := 1) (st := []) d_M_digits_71 mi_M_gives ml_M_91 mv_M_gives se_M_gives rfl rfl rfl rfl (ks_M_0 hx) rfl rfl (kl_M_0 hx) rfl rfl (b_M_gives_0 hx ?_)
                  intro _
                  show z_U X 2 m_M_digits 74 [(5, (0, r2)), (4, (0, r1)), (0, (2, 0)), (1, (0, a1)), (2, (0, a2)), (3, (0, a3))] [(0, r2)] N σ (z_up g2 0 1 0) Q
                  exact z_iret d_M_digits_74 rfl (by decide) (by decide) ⟨rfl, rfl, h⟩
                · have h := h.2 c9
                  refine z_goto (tgt := 71) d_M_digits_60 (by decide) ?_
                  refine z_cV (c := 0) (as := [(0, r1)]) (d' := 1) (st := []) d_M_digits_71 mi_M_gives ml_M_91 mv_M_gives se_M_gives rfl rfl rfl rfl (ks_M_0 hx) rfl rfl (kl_M_0 hx) rfl rfl (b_M_gives_0 hx ?_)
                  intro _
                  show z_U X 2 m_M_digits 74 [(5, (0, r2)), (4, (0, r1)), (0, (2, 0)), (1, (0, a1)), (2, (0, a2)), (3, (0, a3))] [(0, r1)] N σ (z_up g2 0 1 0) Q
                  exact z_iret d_M_digits_74 rfl (by decide) (by decide) ⟨rfl, rfl, h⟩
            · have h := h.2 c6
              refine z_aload_n (i := 0) (c := 0) 0 d_M_digits_17 rfl rfl rfl ?_
              refine z_iconst (n := 1) d_M_digits_18 (by decide) ?_
              refine z_cV (c := 0) (as := [(0, 1)]) (d' := 1) (st := []) d_M_digits_19 mi_M_refuse ml_M_87 mv_M_refuse se_M_refuse rfl rfl rfl rfl (ks_M_0 hx) rfl rfl (kl_M_0 hx) rfl rfl (b_M_refuse_0 hx ?_)
              intro _
              show z_U X 2 m_M_digits 22 [(0, (2, 0)), (1, (0, a1)), (2, (0, a2)), (3, (0, a3))] [(0, (-1))] N σ (z_up g 0 1 1) Q
              exact z_iret d_M_digits_22 rfl (by decide) (by decide) ⟨rfl, rfl, h⟩
theorem d_M_feed_0 : decode (z_c m_M_feed) 0 = .ok (.aload_n 0, 1) := by decide +kernel
theorem d_M_feed_1 : decode (z_c m_M_feed) 1 = .ok (.getfield 111, 3) := by decide +kernel
theorem d_M_feed_4 : decode (z_c m_M_feed) 4 = .ok (.bipush 20, 2) := by decide +kernel
theorem d_M_feed_6 : decode (z_c m_M_feed) 6 = .ok (.iadd, 1) := by decide +kernel
theorem d_M_feed_7 : decode (z_c m_M_feed) 7 = .ok (.sipush 900, 3) := by decide +kernel
theorem d_M_feed_10 : decode (z_c m_M_feed) 10 = .ok (.if_icmp .le 5, 3) := by decide +kernel
theorem d_M_feed_13 : decode (z_c m_M_feed) 13 = .ok (.iconst (-1), 1) := by decide +kernel
theorem d_M_feed_14 : decode (z_c m_M_feed) 14 = .ok (.ireturn, 1) := by decide +kernel
theorem d_M_feed_15 : decode (z_c m_M_feed) 15 = .ok (.aload_n 0, 1) := by decide +kernel
theorem d_M_feed_16 : decode (z_c m_M_feed) 16 = .ok (.iload_n 1, 1) := by decide +kernel
theorem d_M_feed_17 : decode (z_c m_M_feed) 17 = .ok (.invokevirtual 114, 3) := by decide +kernel
theorem d_M_feed_20 : decode (z_c m_M_feed) 20 = .ok (.aload_n 0, 1) := by decide +kernel
theorem d_M_feed_21 : decode (z_c m_M_feed) 21 = .ok (.iload_n 2, 1) := by decide +kernel
theorem d_M_feed_22 : decode (z_c m_M_feed) 22 = .ok (.invokevirtual 114, 3) := by decide +kernel
theorem d_M_feed_25 : decode (z_c m_M_feed) 25 = .ok (.aload_n 0, 1) := by decide +kernel
theorem d_M_feed_26 : decode (z_c m_M_feed) 26 = .ok (.iload_n 3, 1) := by decide +kernel
theorem d_M_feed_27 : decode (z_c m_M_feed) 27 = .ok (.invokevirtual 114, 3) := by decide +kernel
theorem d_M_feed_30 : decode (z_c m_M_feed) 30 = .ok (.aload_n 0, 1) := by decide +kernel
theorem d_M_feed_31 : decode (z_c m_M_feed) 31 = .ok (.iload 4, 2) := by decide +kernel
theorem d_M_feed_33 : decode (z_c m_M_feed) 33 = .ok (.invokevirtual 114, 3) := by decide +kernel
theorem d_M_feed_36 : decode (z_c m_M_feed) 36 = .ok (.aload_n 0, 1) := by decide +kernel
theorem d_M_feed_37 : decode (z_c m_M_feed) 37 = .ok (.iload 5, 2) := by decide +kernel
theorem d_M_feed_39 : decode (z_c m_M_feed) 39 = .ok (.invokevirtual 114, 3) := by decide +kernel
theorem d_M_feed_42 : decode (z_c m_M_feed) 42 = .ok (.aload_n 0, 1) := by decide +kernel
theorem d_M_feed_43 : decode (z_c m_M_feed) 43 = .ok (.getfield 111, 3) := by decide +kernel
theorem d_M_feed_46 : decode (z_c m_M_feed) 46 = .ok (.ireturn, 1) := by decide +kernel
set_option maxRecDepth 8000 in
theorem b_M_feed_0 {X : z_X} {N : Nat} {σ g : z_G} {Q : z_P} {a1 a2 a3 a4 a5 : Int} (hx : z_lay X N σ 0 z_SM z_RM) (h : (-2147483648 ≤ ((g 0 9) + 20) ∧ ((g 0 9) + 20) ≤ 2147483647) ∧ (((((g 0 9) + 20) ≤ 900) → (z_O X 1 m_M_four [(2, 0), (0, a1)] N σ g (fun r0 g0 => (z_O X 1 m_M_four [(2, 0), (0, a2)] N σ g0 (fun r1 g1 => (z_O X 1 m_M_four [(2, 0), (0, a3)] N σ g1 (fun r2 g2 => (z_O X 1 m_M_four [(2, 0), (0, a4)] N σ g2 (fun r3 g3 => (z_O X 1 m_M_four [(2, 0), (0, a5)] N σ g3 (fun r4 g4 => Q (g4 0 9) g4))))))))))) ∧ (¬ (((g 0 9) + 20) ≤ 900) → Q (-1) g))) : z_O X 2 m_M_feed [(2, 0), (0, a1), (0, a2), (0, a3), (0, a4), (0, a5)] N σ g Q := by
  refine z_Oenter mi_M_feed rfl (fun _ => ?_)
  show z_U X 2 m_M_feed 0 [(0, (2, 0)), (1, (0, a1)), (2, (0, a2)), (3, (0, a3)), (4, (0, a4)), (5, (0, a5))] [] N σ g Q
  refine z_aload_n (i := 0) (c := 0) 0 d_M_feed_0 rfl rfl rfl ?_
  refine z_geti (c := 0) (kI := 9) d_M_feed_1 fd_M_taped fl_M_111 (Or.inl rfl) rfl rfl (ks_M_0 hx) (kl_M_0 hx) ?_
  refine z_bipush (n := 20) d_M_feed_4 (by decide) (by decide) ?_
  obtain ⟨c1, h⟩ := h
  refine z_iadd d_M_feed_6 c1 ?_
  refine z_sipush (n := 900) d_M_feed_7 (by decide) (by decide) ?_
  refine z_icmp_le (tgt := 15) d_M_feed_10 (by decide) (fun c2 => ?_) (fun c2 => ?_)
  · have h := h.1 c2
    refine z_aload_n (i := 0) (c := 0) 0 d_M_feed_15 rfl rfl rfl ?_
    refine z_iload_n (i := 1) 1 d_M_feed_16 rfl rfl ?_
    refine z_cV (c := 0) (as := [(0, a1)]) (d' := 1) (st := []) d_M_feed_17 mi_M_four ml_M_114 mv_M_four se_M_four rfl rfl rfl rfl (ks_M_0 hx) rfl rfl (kl_M_0 hx) rfl rfl (z_Omono h (fun r0 g0 _ h hro => ?_))
    show z_U X 2 m_M_feed 20 [(0, (2, 0)), (1, (0, a1)), (2, (0, a2)), (3, (0, a3)), (4, (0, a4)), (5, (0, a5))] [] N σ g0 Q
    refine z_aload_n (i := 0) (c := 0) 0 d_M_feed_20 rfl rfl rfl ?_
    refine z_iload_n (i := 2) 2 d_M_feed_21 rfl rfl ?_
    refine z_cV (c := 0) (as := [(0, a2)]) (d' := 1) (st := []) d_M_feed_22 mi_M_four ml_M_114 mv_M_four se_M_four rfl rfl rfl rfl (ks_M_0 hx) rfl rfl (kl_M_0 hx) rfl rfl (z_Omono h (fun r1 g1 _ h hro => ?_))
    show z_U X 2 m_M_feed 25 [(0, (2, 0)), (1, (0, a1)), (2, (0, a2)), (3, (0, a3)), (4, (0, a4)), (5, (0, a5))] [] N σ g1 Q
    refine z_aload_n (i := 0) (c := 0) 0 d_M_feed_25 rfl rfl rfl ?_
    refine z_iload_n (i := 3) 3 d_M_feed_26 rfl rfl ?_
    refine z_cV (c := 0) (as := [(0, a3)]) (d' := 1) (st := []) d_M_feed_27 mi_M_four ml_M_114 mv_M_four se_M_four rfl rfl rfl rfl (ks_M_0 hx) rfl rfl (kl_M_0 hx) rfl rfl (z_Omono h (fun r2 g2 _ h hro => ?_))
    show z_U X 2 m_M_feed 30 [(0, (2, 0)), (1, (0, a1)), (2, (0, a2)), (3, (0, a3)), (4, (0, a4)), (5, (0, a5))] [] N σ g2 Q
    refine z_aload_n (i := 0) (c := 0) 0 d_M_feed_30 rfl rfl rfl ?_
    refine z_iload 4 d_M_feed_31 rfl ?_
    refine z_cV (c := 0) (as := [(0, a4)]) (d' := 1) (st := []) d_M_feed_33 mi_M_four ml_M_114 mv_M_four se_M_four rfl rfl rfl rfl (ks_M_0 hx) rfl rfl (kl_M_0 hx) rfl rfl (z_Omono h (fun r3 g3 _ h hro => ?_))
    show z_U X 2 m_M_feed 36 [(0, (2, 0)), (1, (0, a1)), (2, (0, a2)), (3, (0, a3)), (4, (0, a4)), (5, (0, a5))] [] N σ g3 Q
    refine z_aload_n (i := 0) (c := 0) 0 d_M_feed_36 rfl rfl rfl ?_
    refine z_iload 5 d_M_feed_37 rfl ?_
    refine z_cV (c := 0) (as := [(0, a5)]) (d' := 1) (st := []) d_M_feed_39 mi_M_four ml_M_114 mv_M_four se_M_four rfl rfl rfl rfl (ks_M_0 hx) rfl rfl (kl_M_0 hx) rfl rfl (z_Omono h (fun r4 g4 _ h hro => ?_))
    show z_U X 2 m_M_feed 42 [(0, (2, 0)), (1, (0, a1)), (2, (0, a2)), (3, (0, a3)), (4, (0, a4)), (5, (0, a5))] [] N σ g4 Q
    refine z_aload_n (i := 0) (c := 0) 0 d_M_feed_42 rfl rfl rfl ?_
    refine z_geti (c := 0) (kI := 9) d_M_feed_43 fd_M_taped fl_M_111 (Or.inl rfl) rfl rfl (ks_M_0 hx) (kl_M_0 hx) ?_
    exact z_iret d_M_feed_46 rfl (by decide) (by decide) ⟨rfl, rfl, h⟩
  · have h := h.2 c2
    refine z_iconst (n := (-1)) d_M_feed_13 (by decide) ?_
    exact z_iret d_M_feed_14 rfl (by decide) (by decide) ⟨rfl, rfl, h⟩
theorem d_M_findsParent_0 : decode (z_c m_M_findsParent) 0 = .ok (.aload_n 0, 1) := by decide +kernel
theorem d_M_findsParent_1 : decode (z_c m_M_findsParent) 1 = .ok (.iload_n 1, 1) := by decide +kernel
theorem d_M_findsParent_2 : decode (z_c m_M_findsParent) 2 = .ok (.iload_n 2, 1) := by decide +kernel
theorem d_M_findsParent_3 : decode (z_c m_M_findsParent) 3 = .ok (.invokevirtual 291, 3) := by decide +kernel
theorem d_M_findsParent_6 : decode (z_c m_M_findsParent) 6 = .ok (.aload_n 0, 1) := by decide +kernel
theorem d_M_findsParent_7 : decode (z_c m_M_findsParent) 7 = .ok (.getfield 50, 3) := by decide +kernel
theorem d_M_findsParent_10 : decode (z_c m_M_findsParent) 10 = .ok (.aload_n 0, 1) := by decide +kernel
theorem d_M_findsParent_11 : decode (z_c m_M_findsParent) 11 = .ok (.getfield 288, 3) := by decide +kernel
theorem d_M_findsParent_14 : decode (z_c m_M_findsParent) 14 = .ok (.iconst 1, 1) := by decide +kernel
theorem d_M_findsParent_15 : decode (z_c m_M_findsParent) 15 = .ok (.isub, 1) := by decide +kernel
theorem d_M_findsParent_16 : decode (z_c m_M_findsParent) 16 = .ok (.iaload, 1) := by decide +kernel
theorem d_M_findsParent_17 : decode (z_c m_M_findsParent) 17 = .ok (.iconst 1, 1) := by decide +kernel
theorem d_M_findsParent_18 : decode (z_c m_M_findsParent) 18 = .ok (.isub, 1) := by decide +kernel
theorem d_M_findsParent_19 : decode (z_c m_M_findsParent) 19 = .ok (.istore_n 3, 1) := by decide +kernel
theorem d_M_findsParent_20 : decode (z_c m_M_findsParent) 20 = .ok (.iconst 1, 1) := by decide +kernel
theorem d_M_findsParent_21 : decode (z_c m_M_findsParent) 21 = .ok (.istore 4, 2) := by decide +kernel
theorem d_M_findsParent_23 : decode (z_c m_M_findsParent) 23 = .ok (.aload_n 0, 1) := by decide +kernel
theorem d_M_findsParent_24 : decode (z_c m_M_findsParent) 24 = .ok (.getfield 288, 3) := by decide +kernel
theorem d_M_findsParent_27 : decode (z_c m_M_findsParent) 27 = .ok (.iconst 2, 1) := by decide +kernel
theorem d_M_findsParent_28 : decode (z_c m_M_findsParent) 28 = .ok (.isub, 1) := by decide +kernel
theorem d_M_findsParent_29 : decode (z_c m_M_findsParent) 29 = .ok (.istore 5, 2) := by decide +kernel
theorem d_M_findsParent_31 : decode (z_c m_M_findsParent) 31 = .ok (.iload 5, 2) := by decide +kernel
theorem d_M_findsParent_33 : decode (z_c m_M_findsParent) 33 = .ok (.ifCond .le 29, 3) := by decide +kernel
theorem d_M_findsParent_36 : decode (z_c m_M_findsParent) 36 = .ok (.aload_n 0, 1) := by decide +kernel
theorem d_M_findsParent_37 : decode (z_c m_M_findsParent) 37 = .ok (.getfield 50, 3) := by decide +kernel
theorem d_M_findsParent_40 : decode (z_c m_M_findsParent) 40 = .ok (.iload 5, 2) := by decide +kernel
theorem d_M_findsParent_42 : decode (z_c m_M_findsParent) 42 = .ok (.iaload, 1) := by decide +kernel
theorem d_M_findsParent_43 : decode (z_c m_M_findsParent) 43 = .ok (.iload_n 3, 1) := by decide +kernel
theorem d_M_findsParent_44 : decode (z_c m_M_findsParent) 44 = .ok (.imul, 1) := by decide +kernel
theorem d_M_findsParent_45 : decode (z_c m_M_findsParent) 45 = .ok (.iload 4, 2) := by decide +kernel
theorem d_M_findsParent_47 : decode (z_c m_M_findsParent) 47 = .ok (.iadd, 1) := by decide +kernel
theorem d_M_findsParent_48 : decode (z_c m_M_findsParent) 48 = .ok (.istore 6, 2) := by decide +kernel
theorem d_M_findsParent_50 : decode (z_c m_M_findsParent) 50 = .ok (.iload_n 3, 1) := by decide +kernel
theorem d_M_findsParent_51 : decode (z_c m_M_findsParent) 51 = .ok (.istore 4, 2) := by decide +kernel
theorem d_M_findsParent_53 : decode (z_c m_M_findsParent) 53 = .ok (.iload 6, 2) := by decide +kernel
theorem d_M_findsParent_55 : decode (z_c m_M_findsParent) 55 = .ok (.istore_n 3, 1) := by decide +kernel
theorem d_M_findsParent_56 : decode (z_c m_M_findsParent) 56 = .ok (.iinc 5 (-1), 3) := by decide +kernel
theorem d_M_findsParent_59 : decode (z_c m_M_findsParent) 59 = .ok (.goto (-28), 3) := by decide +kernel
theorem d_M_findsParent_62 : decode (z_c m_M_findsParent) 62 = .ok (.aload_n 0, 1) := by decide +kernel
theorem d_M_findsParent_63 : decode (z_c m_M_findsParent) 63 = .ok (.iload 4, 2) := by decide +kernel
theorem d_M_findsParent_65 : decode (z_c m_M_findsParent) 65 = .ok (.putfield 300, 3) := by decide +kernel
theorem d_M_findsParent_68 : decode (z_c m_M_findsParent) 68 = .ok (.aload_n 0, 1) := by decide +kernel
theorem d_M_findsParent_69 : decode (z_c m_M_findsParent) 69 = .ok (.iload_n 3, 1) := by decide +kernel
theorem d_M_findsParent_70 : decode (z_c m_M_findsParent) 70 = .ok (.putfield 303, 3) := by decide +kernel
theorem d_M_findsParent_73 : decode (z_c m_M_findsParent) 73 = .ok (.return_, 1) := by decide +kernel
abbrev L_M_findsParent_31 (X : z_X) (N : Nat) (σ : z_G) (x3 x4 x5 : Int) (g : z_G) (Q : z_P) : Prop := z_U X 2 m_M_findsParent 31 [(0, (2, 0)), (3, (0, x3)), (4, (0, x4)), (5, (0, x5))] [] N σ g Q
set_option maxRecDepth 8000 in
theorem b_M_findsParent_0 {X : z_X} {N : Nat} {σ g : z_G} {Q : z_P} {a1 a2 : Int} (hx : z_lay X N σ 0 z_SM z_RM) (h : z_O X 1 m_M_laysTerms [(2, 0), (0, a1), (0, a2)] N σ g (fun r0 g0 => ((-2147483648 ≤ ((g0 0 27) - 1) ∧ ((g0 0 27) - 1) ≤ 2147483647) ∧ ((0 ≤ ((g0 0 27) - 1) ∧ ((g0 0 27) - 1) < 40) ∧ ((-2147483648 ≤ ((g0 10 ((g0 0 27) - 1)) - 1) ∧ ((g0 10 ((g0 0 27) - 1)) - 1) ≤ 2147483647) ∧ ((-2147483648 ≤ ((g0 0 27) - 2) ∧ ((g0 0 27) - 2) ≤ 2147483647) ∧ L_M_findsParent_31 X N σ ((g0 10 ((g0 0 27) - 1)) - 1) 1 ((g0 0 27) - 2) g0 Q)))))) : z_O X 2 m_M_findsParent [(2, 0), (0, a1), (0, a2)] N σ g Q := by
  refine z_Oenter mi_M_findsParent rfl (fun _ => ?_)
  show z_U X 2 m_M_findsParent 0 [(0, (2, 0)), (1, (0, a1)), (2, (0, a2))] [] N σ g Q
  refine z_aload_n (i := 0) (c := 0) 0 d_M_findsParent_0 rfl rfl rfl ?_
  refine z_iload_n (i := 1) 1 d_M_findsParent_1 rfl rfl ?_
  refine z_iload_n (i := 2) 2 d_M_findsParent_2 rfl rfl ?_
  refine z_cV (c := 0) (as := [(0, a1), (0, a2)]) (d' := 1) (st := []) d_M_findsParent_3 mi_M_laysTerms ml_M_291 mv_M_laysTerms se_M_laysTerms rfl rfl rfl rfl (ks_M_0 hx) rfl rfl (kl_M_0 hx) rfl rfl (z_Omono h (fun r0 g0 _ h hro => ?_))
  show z_U X 2 m_M_findsParent 6 [(0, (2, 0)), (1, (0, a1)), (2, (0, a2))] [] N σ g0 Q
  refine z_aload_n (i := 0) (c := 0) 0 d_M_findsParent_6 rfl rfl rfl ?_
  refine z_getr (c := 0) (kI := 26) (r2 := 10) d_M_findsParent_7 fd_M_termBy fl_M_50 rfl rfl rfl (ks_M_0 hx) (kl_M_0 hx) (kr_M_0_26 hx) ?_
  refine z_aload_n (i := 0) (c := 0) 0 d_M_findsParent_10 rfl rfl rfl ?_
  refine z_geti (c := 0) (kI := 27) d_M_findsParent_11 fd_M_termMany fl_M_288 (Or.inl rfl) rfl rfl (ks_M_0 hx) (kl_M_0 hx) ?_
  refine z_iconst (n := 1) d_M_findsParent_14 (by decide) ?_
  obtain ⟨c1, h⟩ := h
  refine z_isub d_M_findsParent_15 c1 ?_
  obtain ⟨c2, h⟩ := h
  refine z_iald (c := 10) (m := 40) d_M_findsParent_16 rfl (ks_M_10 hx) (kl_M_10 hx) rfl (by decide) c2 ?_
  refine z_iconst (n := 1) d_M_findsParent_17 (by decide) ?_
  obtain ⟨c3, h⟩ := h
  refine z_isub d_M_findsParent_18 c3 ?_
  refine z_istore_n (i := 3) (ls' := [(3, (0, (g0 10 ((g0 0 27) - 1)) - 1)), (0, (2, 0)), (1, (0, a1)), (2, (0, a2))]) d_M_findsParent_19 rfl rfl rfl ?_
  refine z_iconst (n := 1) d_M_findsParent_20 (by decide) ?_
  refine z_istore (ls' := [(4, (0, 1)), (3, (0, (g0 10 ((g0 0 27) - 1)) - 1)), (0, (2, 0)), (1, (0, a1)), (2, (0, a2))]) d_M_findsParent_21 rfl rfl ?_
  refine z_aload_n (i := 0) (c := 0) 2 d_M_findsParent_23 rfl rfl rfl ?_
  refine z_geti (c := 0) (kI := 27) d_M_findsParent_24 fd_M_termMany fl_M_288 (Or.inl rfl) rfl rfl (ks_M_0 hx) (kl_M_0 hx) ?_
  refine z_iconst (n := 2) d_M_findsParent_27 (by decide) ?_
  obtain ⟨c4, h⟩ := h
  refine z_isub d_M_findsParent_28 c4 ?_
  refine z_istore (ls' := [(5, (0, (g0 0 27) - 2)), (4, (0, 1)), (3, (0, (g0 10 ((g0 0 27) - 1)) - 1)), (0, (2, 0)), (1, (0, a1)), (2, (0, a2))]) d_M_findsParent_29 rfl rfl ?_
  refine z_sub (ls' := [(0, (2, 0)), (3, (0, (g0 10 ((g0 0 27) - 1)) - 1)), (4, (0, 1)), (5, (0, (g0 0 27) - 2))]) [3, 2, 1, 0] rfl ?_
  exact h
set_option maxRecDepth 8000 in
theorem b_M_findsParent_31 {X : z_X} {N : Nat} {σ g : z_G} {Q : z_P} {x3 x4 x5 : Int} (hx : z_lay X N σ 0 z_SM z_RM) (h : ((x5 ≤ 0) → Q 0 (z_up (z_up g 0 28 x4) 0 29 x3)) ∧ (¬ (x5 ≤ 0) → ((0 ≤ x5 ∧ x5 < 40) ∧ ((-2147483648 ≤ ((g 10 x5) * x3) ∧ ((g 10 x5) * x3) ≤ 2147483647) ∧ ((-2147483648 ≤ (((g 10 x5) * x3) + x4) ∧ (((g 10 x5) * x3) + x4) ≤ 2147483647) ∧ ((-2147483648 ≤ (x5 + (-1)) ∧ (x5 + (-1)) ≤ 2147483647) ∧ L_M_findsParent_31 X N σ (((g 10 x5) * x3) + x4) x3 (x5 + (-1)) g Q)))))) : L_M_findsParent_31 X N σ x3 x4 x5 g Q := by
  refine z_iload 3 d_M_findsParent_31 rfl ?_
  refine z_if_le (tgt := 62) d_M_findsParent_33 (by decide) (fun c1 => ?_) (fun c1 => ?_)
  · have h := h.1 c1
    refine z_aload_n (i := 0) (c := 0) 0 d_M_findsParent_62 rfl rfl rfl ?_
    refine z_iload 2 d_M_findsParent_63 rfl ?_
    refine z_puti (c := 0) (kI := 28) d_M_findsParent_65 fd_M_foundTop fl_M_300 pf_M_foundTop rfl rfl rfl rfl (ks_M_0 hx) (kl_M_0 hx) ?_
    refine z_aload_n (i := 0) (c := 0) 0 d_M_findsParent_68 rfl rfl rfl ?_
    refine z_iload_n (i := 3) 1 d_M_findsParent_69 rfl rfl ?_
    refine z_puti (c := 0) (kI := 29) d_M_findsParent_70 fd_M_foundBottom fl_M_303 pf_M_foundBottom rfl rfl rfl rfl (ks_M_0 hx) (kl_M_0 hx) ?_
    exact z_vret d_M_findsParent_73 rfl (by decide) (by decide) ⟨rfl, rfl, h⟩
  · have h := h.2 c1
    refine z_aload_n (i := 0) (c := 0) 0 d_M_findsParent_36 rfl rfl rfl ?_
    refine z_getr (c := 0) (kI := 26) (r2 := 10) d_M_findsParent_37 fd_M_termBy fl_M_50 rfl rfl rfl (ks_M_0 hx) (kl_M_0 hx) (kr_M_0_26 hx) ?_
    refine z_iload 3 d_M_findsParent_40 rfl ?_
    obtain ⟨c2, h⟩ := h
    refine z_iald (c := 10) (m := 40) d_M_findsParent_42 rfl (ks_M_10 hx) (kl_M_10 hx) rfl (by decide) c2 ?_
    refine z_iload_n (i := 3) 1 d_M_findsParent_43 rfl rfl ?_
    obtain ⟨c3, h⟩ := h
    refine z_imul d_M_findsParent_44 c3 ?_
    refine z_iload 2 d_M_findsParent_45 rfl ?_
    obtain ⟨c4, h⟩ := h
    refine z_iadd d_M_findsParent_47 c4 ?_
    refine z_istore (ls' := [(6, (0, ((g 10 x5) * x3) + x4)), (0, (2, 0)), (3, (0, x3)), (4, (0, x4)), (5, (0, x5))]) d_M_findsParent_48 rfl rfl ?_
    refine z_iload_n (i := 3) 2 d_M_findsParent_50 rfl rfl ?_
    refine z_istore (ls' := [(4, (0, x3)), (6, (0, ((g 10 x5) * x3) + x4)), (0, (2, 0)), (3, (0, x3)), (5, (0, x5))]) d_M_findsParent_51 rfl rfl ?_
    refine z_iload 1 d_M_findsParent_53 rfl ?_
    refine z_istore_n (i := 3) (ls' := [(3, (0, ((g 10 x5) * x3) + x4)), (4, (0, x3)), (6, (0, ((g 10 x5) * x3) + x4)), (0, (2, 0)), (5, (0, x5))]) d_M_findsParent_55 rfl rfl rfl ?_
    obtain ⟨c5, h⟩ := h
    refine z_iinc (n := (-1)) (ls' := [(5, (0, x5 + (-1))), (3, (0, ((g 10 x5) * x3) + x4)), (4, (0, x3)), (6, (0, ((g 10 x5) * x3) + x4)), (0, (2, 0))]) 4 d_M_findsParent_56 rfl c5 rfl rfl ?_
    refine z_goto (tgt := 31) d_M_findsParent_59 (by decide) ?_
    refine z_sub (ls' := [(0, (2, 0)), (3, (0, ((g 10 x5) * x3) + x4)), (4, (0, x3)), (5, (0, x5 + (-1)))]) [4, 1, 2, 0] rfl ?_
    exact h
theorem d_M_lays_0 : decode (z_c m_M_lays) 0 = .ok (.aload_n 0, 1) := by decide +kernel
theorem d_M_lays_1 : decode (z_c m_M_lays) 1 = .ok (.getfield 240, 3) := by decide +kernel
theorem d_M_lays_4 : decode (z_c m_M_lays) 4 = .ok (.iload_n 1, 1) := by decide +kernel
theorem d_M_lays_5 : decode (z_c m_M_lays) 5 = .ok (.if_icmp .ne 4, 3) := by decide +kernel
theorem d_M_lays_8 : decode (z_c m_M_lays) 8 = .ok (.return_, 1) := by decide +kernel
theorem d_M_lays_9 : decode (z_c m_M_lays) 9 = .ok (.aload_n 0, 1) := by decide +kernel
theorem d_M_lays_10 : decode (z_c m_M_lays) 10 = .ok (.iload_n 1, 1) := by decide +kernel
theorem d_M_lays_11 : decode (z_c m_M_lays) 11 = .ok (.putfield 240, 3) := by decide +kernel
theorem d_M_lays_14 : decode (z_c m_M_lays) 14 = .ok (.aload_n 0, 1) := by decide +kernel
theorem d_M_lays_15 : decode (z_c m_M_lays) 15 = .ok (.iconst 0, 1) := by decide +kernel
theorem d_M_lays_16 : decode (z_c m_M_lays) 16 = .ok (.putfield 237, 3) := by decide +kernel
theorem d_M_lays_19 : decode (z_c m_M_lays) 19 = .ok (.aload_n 0, 1) := by decide +kernel
theorem d_M_lays_20 : decode (z_c m_M_lays) 20 = .ok (.iconst 0, 1) := by decide +kernel
theorem d_M_lays_21 : decode (z_c m_M_lays) 21 = .ok (.iconst 1, 1) := by decide +kernel
theorem d_M_lays_22 : decode (z_c m_M_lays) 22 = .ok (.invokevirtual 243, 3) := by decide +kernel
theorem d_M_lays_25 : decode (z_c m_M_lays) 25 = .ok (.iconst 0, 1) := by decide +kernel
theorem d_M_lays_26 : decode (z_c m_M_lays) 26 = .ok (.istore_n 2, 1) := by decide +kernel
theorem d_M_lays_27 : decode (z_c m_M_lays) 27 = .ok (.iconst 1, 1) := by decide +kernel
theorem d_M_lays_28 : decode (z_c m_M_lays) 28 = .ok (.istore_n 3, 1) := by decide +kernel
theorem d_M_lays_29 : decode (z_c m_M_lays) 29 = .ok (.iconst 1, 1) := by decide +kernel
theorem d_M_lays_30 : decode (z_c m_M_lays) 30 = .ok (.istore 4, 2) := by decide +kernel
theorem d_M_lays_32 : decode (z_c m_M_lays) 32 = .ok (.iload_n 1, 1) := by decide +kernel
theorem d_M_lays_33 : decode (z_c m_M_lays) 33 = .ok (.istore 5, 2) := by decide +kernel
theorem d_M_lays_35 : decode (z_c m_M_lays) 35 = .ok (.aload_n 0, 1) := by decide +kernel
theorem d_M_lays_36 : decode (z_c m_M_lays) 36 = .ok (.iload 4, 2) := by decide +kernel
theorem d_M_lays_38 : decode (z_c m_M_lays) 38 = .ok (.iload 5, 2) := by decide +kernel
theorem d_M_lays_40 : decode (z_c m_M_lays) 40 = .ok (.invokevirtual 243, 3) := by decide +kernel
theorem d_M_lays_43 : decode (z_c m_M_lays) 43 = .ok (.iload 4, 2) := by decide +kernel
theorem d_M_lays_45 : decode (z_c m_M_lays) 45 = .ok (.iload 5, 2) := by decide +kernel
theorem d_M_lays_47 : decode (z_c m_M_lays) 47 = .ok (.if_icmp .ge 54, 3) := by decide +kernel
theorem d_M_lays_50 : decode (z_c m_M_lays) 50 = .ok (.iload_n 1, 1) := by decide +kernel
theorem d_M_lays_51 : decode (z_c m_M_lays) 51 = .ok (.iload_n 3, 1) := by decide +kernel
theorem d_M_lays_52 : decode (z_c m_M_lays) 52 = .ok (.iadd, 1) := by decide +kernel
theorem d_M_lays_53 : decode (z_c m_M_lays) 53 = .ok (.iload 5, 2) := by decide +kernel
theorem d_M_lays_55 : decode (z_c m_M_lays) 55 = .ok (.idiv, 1) := by decide +kernel
theorem d_M_lays_56 : decode (z_c m_M_lays) 56 = .ok (.istore 6, 2) := by decide +kernel
theorem d_M_lays_58 : decode (z_c m_M_lays) 58 = .ok (.iload 6, 2) := by decide +kernel
theorem d_M_lays_60 : decode (z_c m_M_lays) 60 = .ok (.iload 4, 2) := by decide +kernel
theorem d_M_lays_62 : decode (z_c m_M_lays) 62 = .ok (.imul, 1) := by decide +kernel
theorem d_M_lays_63 : decode (z_c m_M_lays) 63 = .ok (.iload_n 2, 1) := by decide +kernel
theorem d_M_lays_64 : decode (z_c m_M_lays) 64 = .ok (.isub, 1) := by decide +kernel
theorem d_M_lays_65 : decode (z_c m_M_lays) 65 = .ok (.istore 7, 2) := by decide +kernel
theorem d_M_lays_67 : decode (z_c m_M_lays) 67 = .ok (.iload 6, 2) := by decide +kernel
theorem d_M_lays_69 : decode (z_c m_M_lays) 69 = .ok (.iload 5, 2) := by decide +kernel
theorem d_M_lays_71 : decode (z_c m_M_lays) 71 = .ok (.imul, 1) := by decide +kernel
theorem d_M_lays_72 : decode (z_c m_M_lays) 72 = .ok (.iload_n 3, 1) := by decide +kernel
theorem d_M_lays_73 : decode (z_c m_M_lays) 73 = .ok (.isub, 1) := by decide +kernel
theorem d_M_lays_74 : decode (z_c m_M_lays) 74 = .ok (.istore 8, 2) := by decide +kernel
theorem d_M_lays_76 : decode (z_c m_M_lays) 76 = .ok (.iload 4, 2) := by decide +kernel
theorem d_M_lays_78 : decode (z_c m_M_lays) 78 = .ok (.istore_n 2, 1) := by decide +kernel
theorem d_M_lays_79 : decode (z_c m_M_lays) 79 = .ok (.iload 5, 2) := by decide +kernel
theorem d_M_lays_81 : decode (z_c m_M_lays) 81 = .ok (.istore_n 3, 1) := by decide +kernel
theorem d_M_lays_82 : decode (z_c m_M_lays) 82 = .ok (.iload 7, 2) := by decide +kernel
theorem d_M_lays_84 : decode (z_c m_M_lays) 84 = .ok (.istore 4, 2) := by decide +kernel
theorem d_M_lays_86 : decode (z_c m_M_lays) 86 = .ok (.iload 8, 2) := by decide +kernel
theorem d_M_lays_88 : decode (z_c m_M_lays) 88 = .ok (.istore 5, 2) := by decide +kernel
theorem d_M_lays_90 : decode (z_c m_M_lays) 90 = .ok (.aload_n 0, 1) := by decide +kernel
theorem d_M_lays_91 : decode (z_c m_M_lays) 91 = .ok (.iload 4, 2) := by decide +kernel
theorem d_M_lays_93 : decode (z_c m_M_lays) 93 = .ok (.iload 5, 2) := by decide +kernel
theorem d_M_lays_95 : decode (z_c m_M_lays) 95 = .ok (.invokevirtual 243, 3) := by decide +kernel
theorem d_M_lays_98 : decode (z_c m_M_lays) 98 = .ok (.goto (-55), 3) := by decide +kernel
theorem d_M_lays_101 : decode (z_c m_M_lays) 101 = .ok (.return_, 1) := by decide +kernel
abbrev L_M_lays_43 (X : z_X) (N : Nat) (σ : z_G) (x1 x2 x3 x4 x5 : Int) (g : z_G) (Q : z_P) : Prop := z_U X 2 m_M_lays 43 [(0, (2, 0)), (1, (0, x1)), (2, (0, x2)), (3, (0, x3)), (4, (0, x4)), (5, (0, x5))] [] N σ g Q
set_option maxRecDepth 8000 in
theorem b_M_lays_0 {X : z_X} {N : Nat} {σ g : z_G} {Q : z_P} {a1 : Int} (hx : z_lay X N σ 0 z_SM z_RM) (h : (((g 0 25) = a1) → Q 0 g) ∧ (¬ ((g 0 25) = a1) → (z_O X 1 m_M_puts [(2, 0), (0, 0), (0, 1)] N σ (z_up (z_up g 0 25 a1) 0 24 0) (fun r0 g0 => (z_O X 1 m_M_puts [(2, 0), (0, 1), (0, a1)] N σ g0 (fun r1 g1 => L_M_lays_43 X N σ a1 0 1 1 a1 g1 Q)))))) : z_O X 2 m_M_lays [(2, 0), (0, a1)] N σ g Q := by
  refine z_Oenter mi_M_lays rfl (fun _ => ?_)
  show z_U X 2 m_M_lays 0 [(0, (2, 0)), (1, (0, a1))] [] N σ g Q
  refine z_aload_n (i := 0) (c := 0) 0 d_M_lays_0 rfl rfl rfl ?_
  refine z_geti (c := 0) (kI := 25) d_M_lays_1 fd_M_laidOrder fl_M_240 (Or.inl rfl) rfl rfl (ks_M_0 hx) (kl_M_0 hx) ?_
  refine z_iload_n (i := 1) 1 d_M_lays_4 rfl rfl ?_
  refine z_icmp_ne (tgt := 9) d_M_lays_5 (by decide) (fun c1 => ?_) (fun c1 => ?_)
  · have h := h.2 c1
    refine z_aload_n (i := 0) (c := 0) 0 d_M_lays_9 rfl rfl rfl ?_
    refine z_iload_n (i := 1) 1 d_M_lays_10 rfl rfl ?_
    refine z_puti (c := 0) (kI := 25) d_M_lays_11 fd_M_laidOrder fl_M_240 pf_M_laidOrder rfl rfl rfl rfl (ks_M_0 hx) (kl_M_0 hx) ?_
    refine z_aload_n (i := 0) (c := 0) 0 d_M_lays_14 rfl rfl rfl ?_
    refine z_iconst (n := 0) d_M_lays_15 (by decide) ?_
    refine z_puti (c := 0) (kI := 24) d_M_lays_16 fd_M_many fl_M_237 pf_M_many rfl rfl rfl rfl (ks_M_0 hx) (kl_M_0 hx) ?_
    refine z_aload_n (i := 0) (c := 0) 0 d_M_lays_19 rfl rfl rfl ?_
    refine z_iconst (n := 0) d_M_lays_20 (by decide) ?_
    refine z_iconst (n := 1) d_M_lays_21 (by decide) ?_
    refine z_cV (c := 0) (as := [(0, 0), (0, 1)]) (d' := 1) (st := []) d_M_lays_22 mi_M_puts ml_M_243 mv_M_puts se_M_puts rfl rfl rfl rfl (ks_M_0 hx) rfl rfl (kl_M_0 hx) rfl rfl (z_Omono h (fun r0 g0 _ h hro => ?_))
    show z_U X 2 m_M_lays 25 [(0, (2, 0)), (1, (0, a1))] [] N σ g0 Q
    refine z_iconst (n := 0) d_M_lays_25 (by decide) ?_
    refine z_istore_n (i := 2) (ls' := [(2, (0, 0)), (0, (2, 0)), (1, (0, a1))]) d_M_lays_26 rfl rfl rfl ?_
    refine z_iconst (n := 1) d_M_lays_27 (by decide) ?_
    refine z_istore_n (i := 3) (ls' := [(3, (0, 1)), (2, (0, 0)), (0, (2, 0)), (1, (0, a1))]) d_M_lays_28 rfl rfl rfl ?_
    refine z_iconst (n := 1) d_M_lays_29 (by decide) ?_
    refine z_istore (ls' := [(4, (0, 1)), (3, (0, 1)), (2, (0, 0)), (0, (2, 0)), (1, (0, a1))]) d_M_lays_30 rfl rfl ?_
    refine z_iload_n (i := 1) 4 d_M_lays_32 rfl rfl ?_
    refine z_istore (ls' := [(5, (0, a1)), (4, (0, 1)), (3, (0, 1)), (2, (0, 0)), (0, (2, 0)), (1, (0, a1))]) d_M_lays_33 rfl rfl ?_
    refine z_aload_n (i := 0) (c := 0) 4 d_M_lays_35 rfl rfl rfl ?_
    refine z_iload 1 d_M_lays_36 rfl ?_
    refine z_iload 0 d_M_lays_38 rfl ?_
    refine z_cV (c := 0) (as := [(0, 1), (0, a1)]) (d' := 1) (st := []) d_M_lays_40 mi_M_puts ml_M_243 mv_M_puts se_M_puts rfl rfl rfl rfl (ks_M_0 hx) rfl rfl (kl_M_0 hx) rfl rfl (z_Omono h (fun r1 g1 _ h hro => ?_))
    show z_U X 2 m_M_lays 43 [(5, (0, a1)), (4, (0, 1)), (3, (0, 1)), (2, (0, 0)), (0, (2, 0)), (1, (0, a1))] [] N σ g1 Q
    refine z_sub (ls' := [(0, (2, 0)), (1, (0, a1)), (2, (0, 0)), (3, (0, 1)), (4, (0, 1)), (5, (0, a1))]) [4, 5, 3, 2, 1, 0] rfl ?_
    exact h
  · have h := h.1 c1
    exact z_vret d_M_lays_8 rfl (by decide) (by decide) ⟨rfl, rfl, h⟩
set_option maxRecDepth 8000 in
theorem b_M_lays_43 {X : z_X} {N : Nat} {σ g : z_G} {Q : z_P} {x1 x2 x3 x4 x5 : Int} (hx : z_lay X N σ 0 z_SM z_RM) (h : ((x5 ≤ x4) → Q 0 g) ∧ (¬ (x5 ≤ x4) → ((-2147483648 ≤ (x1 + x3) ∧ (x1 + x3) ≤ 2147483647) ∧ ((0 < x5) ∧ ((-2147483648 ≤ ((Int.tdiv (x1 + x3) x5) * x4) ∧ ((Int.tdiv (x1 + x3) x5) * x4) ≤ 2147483647) ∧ ((-2147483648 ≤ (((Int.tdiv (x1 + x3) x5) * x4) - x2) ∧ (((Int.tdiv (x1 + x3) x5) * x4) - x2) ≤ 2147483647) ∧ ((-2147483648 ≤ ((Int.tdiv (x1 + x3) x5) * x5) ∧ ((Int.tdiv (x1 + x3) x5) * x5) ≤ 2147483647) ∧ ((-2147483648 ≤ (((Int.tdiv (x1 + x3) x5) * x5) - x3) ∧ (((Int.tdiv (x1 + x3) x5) * x5) - x3) ≤ 2147483647) ∧ (z_O X 1 m_M_puts [(2, 0), (0, ((Int.tdiv (x1 + x3) x5) * x4) - x2), (0, ((Int.tdiv (x1 + x3) x5) * x5) - x3)] N σ g (fun r0 g0 => L_M_lays_43 X N σ x1 x4 x5 (((Int.tdiv (x1 + x3) x5) * x4) - x2) (((Int.tdiv (x1 + x3) x5) * x5) - x3) g0 Q)))))))))) : L_M_lays_43 X N σ x1 x2 x3 x4 x5 g Q := by
  refine z_iload 4 d_M_lays_43 rfl ?_
  refine z_iload 5 d_M_lays_45 rfl ?_
  refine z_icmp_ge (tgt := 101) d_M_lays_47 (by decide) (fun c1 => ?_) (fun c1 => ?_)
  · have h := h.1 c1
    exact z_vret d_M_lays_101 rfl (by decide) (by decide) ⟨rfl, rfl, h⟩
  · have h := h.2 c1
    refine z_iload_n (i := 1) 1 d_M_lays_50 rfl rfl ?_
    refine z_iload_n (i := 3) 3 d_M_lays_51 rfl rfl ?_
    obtain ⟨c2, h⟩ := h
    refine z_iadd d_M_lays_52 c2 ?_
    refine z_iload 5 d_M_lays_53 rfl ?_
    obtain ⟨c3, h⟩ := h
    refine z_idiv d_M_lays_55 c3 ?_
    refine z_istore (ls' := [(6, (0, Int.tdiv (x1 + x3) x5)), (0, (2, 0)), (1, (0, x1)), (2, (0, x2)), (3, (0, x3)), (4, (0, x4)), (5, (0, x5))]) d_M_lays_56 rfl rfl ?_
    refine z_iload 0 d_M_lays_58 rfl ?_
    refine z_iload 5 d_M_lays_60 rfl ?_
    obtain ⟨c4, h⟩ := h
    refine z_imul d_M_lays_62 c4 ?_
    refine z_iload_n (i := 2) 3 d_M_lays_63 rfl rfl ?_
    obtain ⟨c5, h⟩ := h
    refine z_isub d_M_lays_64 c5 ?_
    refine z_istore (ls' := [(7, (0, ((Int.tdiv (x1 + x3) x5) * x4) - x2)), (6, (0, Int.tdiv (x1 + x3) x5)), (0, (2, 0)), (1, (0, x1)), (2, (0, x2)), (3, (0, x3)), (4, (0, x4)), (5, (0, x5))]) d_M_lays_65 rfl rfl ?_
    refine z_iload 1 d_M_lays_67 rfl ?_
    refine z_iload 7 d_M_lays_69 rfl ?_
    obtain ⟨c6, h⟩ := h
    refine z_imul d_M_lays_71 c6 ?_
    refine z_iload_n (i := 3) 5 d_M_lays_72 rfl rfl ?_
    obtain ⟨c7, h⟩ := h
    refine z_isub d_M_lays_73 c7 ?_
    refine z_istore (ls' := [(8, (0, ((Int.tdiv (x1 + x3) x5) * x5) - x3)), (7, (0, ((Int.tdiv (x1 + x3) x5) * x4) - x2)), (6, (0, Int.tdiv (x1 + x3) x5)), (0, (2, 0)), (1, (0, x1)), (2, (0, x2)), (3, (0, x3)), (4, (0, x4)), (5, (0, x5))]) d_M_lays_74 rfl rfl ?_
    refine z_iload 7 d_M_lays_76 rfl ?_
    refine z_istore_n (i := 2) (ls' := [(2, (0, x4)), (8, (0, ((Int.tdiv (x1 + x3) x5) * x5) - x3)), (7, (0, ((Int.tdiv (x1 + x3) x5) * x4) - x2)), (6, (0, Int.tdiv (x1 + x3) x5)), (0, (2, 0)), (1, (0, x1)), (3, (0, x3)), (4, (0, x4)), (5, (0, x5))]) d_M_lays_78 rfl rfl rfl ?_
    refine z_iload 8 d_M_lays_79 rfl ?_
    refine z_istore_n (i := 3) (ls' := [(3, (0, x5)), (2, (0, x4)), (8, (0, ((Int.tdiv (x1 + x3) x5) * x5) - x3)), (7, (0, ((Int.tdiv (x1 + x3) x5) * x4) - x2)), (6, (0, Int.tdiv (x1 + x3) x5)), (0, (2, 0)), (1, (0, x1)), (4, (0, x4)), (5, (0, x5))]) d_M_lays_81 rfl rfl rfl ?_
    refine z_iload 3 d_M_lays_82 rfl ?_
    refine z_istore (ls' := [(4, (0, ((Int.tdiv (x1 + x3) x5) * x4) - x2)), (3, (0, x5)), (2, (0, x4)), (8, (0, ((Int.tdiv (x1 + x3) x5) * x5) - x3)), (7, (0, ((Int.tdiv (x1 + x3) x5) * x4) - x2)), (6, (0, Int.tdiv (x1 + x3) x5)), (0, (2, 0)), (1, (0, x1)), (5, (0, x5))]) d_M_lays_84 rfl rfl ?_
    refine z_iload 3 d_M_lays_86 rfl ?_
    refine z_istore (ls' := [(5, (0, ((Int.tdiv (x1 + x3) x5) * x5) - x3)), (4, (0, ((Int.tdiv (x1 + x3) x5) * x4) - x2)), (3, (0, x5)), (2, (0, x4)), (8, (0, ((Int.tdiv (x1 + x3) x5) * x5) - x3)), (7, (0, ((Int.tdiv (x1 + x3) x5) * x4) - x2)), (6, (0, Int.tdiv (x1 + x3) x5)), (0, (2, 0)), (1, (0, x1))]) d_M_lays_88 rfl rfl ?_
    refine z_aload_n (i := 0) (c := 0) 7 d_M_lays_90 rfl rfl rfl ?_
    refine z_iload 1 d_M_lays_91 rfl ?_
    refine z_iload 0 d_M_lays_93 rfl ?_
    refine z_cV (c := 0) (as := [(0, ((Int.tdiv (x1 + x3) x5) * x4) - x2), (0, ((Int.tdiv (x1 + x3) x5) * x5) - x3)]) (d' := 1) (st := []) d_M_lays_95 mi_M_puts ml_M_243 mv_M_puts se_M_puts rfl rfl rfl rfl (ks_M_0 hx) rfl rfl (kl_M_0 hx) rfl rfl (z_Omono h (fun r0 g0 _ h hro => ?_))
    show z_U X 2 m_M_lays 98 [(5, (0, ((Int.tdiv (x1 + x3) x5) * x5) - x3)), (4, (0, ((Int.tdiv (x1 + x3) x5) * x4) - x2)), (3, (0, x5)), (2, (0, x4)), (8, (0, ((Int.tdiv (x1 + x3) x5) * x5) - x3)), (7, (0, ((Int.tdiv (x1 + x3) x5) * x4) - x2)), (6, (0, Int.tdiv (x1 + x3) x5)), (0, (2, 0)), (1, (0, x1))] [] N σ g0 Q
    refine z_goto (tgt := 43) d_M_lays_98 (by decide) ?_
    refine z_sub (ls' := [(0, (2, 0)), (1, (0, x1)), (2, (0, x4)), (3, (0, x5)), (4, (0, ((Int.tdiv (x1 + x3) x5) * x4) - x2)), (5, (0, ((Int.tdiv (x1 + x3) x5) * x5) - x3))]) [7, 8, 3, 2, 1, 0] rfl ?_
    exact h
theorem d_M_lived_0 : decode (z_c m_M_lived) 0 = .ok (.iload_n 1, 1) := by decide +kernel
theorem d_M_lived_1 : decode (z_c m_M_lived) 1 = .ok (.ifCond .lt 8, 3) := by decide +kernel
theorem d_M_lived_4 : decode (z_c m_M_lived) 4 = .ok (.iload_n 1, 1) := by decide +kernel
theorem d_M_lived_5 : decode (z_c m_M_lived) 5 = .ok (.iconst 4, 1) := by decide +kernel
theorem d_M_lived_6 : decode (z_c m_M_lived) 6 = .ok (.if_icmp .le 11, 3) := by decide +kernel
theorem d_M_lived_9 : decode (z_c m_M_lived) 9 = .ok (.aload_n 0, 1) := by decide +kernel
theorem d_M_lived_10 : decode (z_c m_M_lived) 10 = .ok (.iconst 1, 1) := by decide +kernel
theorem d_M_lived_11 : decode (z_c m_M_lived) 11 = .ok (.invokevirtual 87, 3) := by decide +kernel
theorem d_M_lived_14 : decode (z_c m_M_lived) 14 = .ok (.goto 29, 3) := by decide +kernel
theorem d_M_lived_17 : decode (z_c m_M_lived) 17 = .ok (.aload_n 0, 1) := by decide +kernel
theorem d_M_lived_18 : decode (z_c m_M_lived) 18 = .ok (.getfield 423, 3) := by decide +kernel
theorem d_M_lived_21 : decode (z_c m_M_lived) 21 = .ok (.ifCond .eq 16, 3) := by decide +kernel
theorem d_M_lived_24 : decode (z_c m_M_lived) 24 = .ok (.aload_n 0, 1) := by decide +kernel
theorem d_M_lived_25 : decode (z_c m_M_lived) 25 = .ok (.aload_n 0, 1) := by decide +kernel
theorem d_M_lived_26 : decode (z_c m_M_lived) 26 = .ok (.getfield 71, 3) := by decide +kernel
theorem d_M_lived_29 : decode (z_c m_M_lived) 29 = .ok (.iload_n 1, 1) := by decide +kernel
theorem d_M_lived_30 : decode (z_c m_M_lived) 30 = .ok (.iaload, 1) := by decide +kernel
theorem d_M_lived_31 : decode (z_c m_M_lived) 31 = .ok (.invokevirtual 91, 3) := by decide +kernel
theorem d_M_lived_34 : decode (z_c m_M_lived) 34 = .ok (.goto 9, 3) := by decide +kernel
theorem d_M_lived_37 : decode (z_c m_M_lived) 37 = .ok (.aload_n 0, 1) := by decide +kernel
theorem d_M_lived_38 : decode (z_c m_M_lived) 38 = .ok (.bipush 6, 2) := by decide +kernel
theorem d_M_lived_40 : decode (z_c m_M_lived) 40 = .ok (.invokevirtual 87, 3) := by decide +kernel
theorem d_M_lived_43 : decode (z_c m_M_lived) 43 = .ok (.ireturn, 1) := by decide +kernel
set_option maxRecDepth 8000 in
theorem b_M_lived_0 {X : z_X} {N : Nat} {σ g : z_G} {Q : z_P} {a1 : Int} (hx : z_lay X N σ 0 z_SM z_RM) (h : ((a1 < 0) → Q (-1) (z_up g 0 1 1)) ∧ (¬ (a1 < 0) → (((a1 ≤ 4) → ((((g 0 40) = 0) → Q (-1) (z_up g 0 1 6)) ∧ (¬ ((g 0 40) = 0) → ((0 ≤ a1 ∧ a1 < 5) ∧ Q (g 17 a1) (z_up g 0 1 0))))) ∧ (¬ (a1 ≤ 4) → Q (-1) (z_up g 0 1 1))))) : z_O X 2 m_M_lived [(2, 0), (0, a1)] N σ g Q := by
  refine z_Oenter mi_M_lived rfl (fun _ => ?_)
  show z_U X 2 m_M_lived 0 [(0, (2, 0)), (1, (0, a1))] [] N σ g Q
  refine z_iload_n (i := 1) 1 d_M_lived_0 rfl rfl ?_
  refine z_if_lt (tgt := 9) d_M_lived_1 (by decide) (fun c1 => ?_) (fun c1 => ?_)
  · have h := h.1 c1
    refine z_aload_n (i := 0) (c := 0) 0 d_M_lived_9 rfl rfl rfl ?_
    refine z_iconst (n := 1) d_M_lived_10 (by decide) ?_
    refine z_cV (c := 0) (as := [(0, 1)]) (d' := 1) (st := []) d_M_lived_11 mi_M_refuse ml_M_87 mv_M_refuse se_M_refuse rfl rfl rfl rfl (ks_M_0 hx) rfl rfl (kl_M_0 hx) rfl rfl (b_M_refuse_0 hx ?_)
    intro _
    show z_U X 2 m_M_lived 14 [(0, (2, 0)), (1, (0, a1))] [(0, (-1))] N σ (z_up g 0 1 1) Q
    refine z_goto (tgt := 43) d_M_lived_14 (by decide) ?_
    exact z_iret d_M_lived_43 rfl (by decide) (by decide) ⟨rfl, rfl, h⟩
  · have h := h.2 c1
    refine z_iload_n (i := 1) 1 d_M_lived_4 rfl rfl ?_
    refine z_iconst (n := 4) d_M_lived_5 (by decide) ?_
    refine z_icmp_le (tgt := 17) d_M_lived_6 (by decide) (fun c2 => ?_) (fun c2 => ?_)
    · have h := h.1 c2
      refine z_aload_n (i := 0) (c := 0) 0 d_M_lived_17 rfl rfl rfl ?_
      refine z_getz (c := 0) (kI := 40) d_M_lived_18 fd_M_isTold fl_M_423 rfl rfl rfl (ks_M_0 hx) (kl_M_0 hx) (fun z1 => ?_)
      refine z_if_eq (tgt := 37) d_M_lived_21 (by decide) (fun c3 => ?_) (fun c3 => ?_)
      · have h := h.1 c3
        refine z_aload_n (i := 0) (c := 0) 0 d_M_lived_37 rfl rfl rfl ?_
        refine z_bipush (n := 6) d_M_lived_38 (by decide) (by decide) ?_
        refine z_cV (c := 0) (as := [(0, 6)]) (d' := 1) (st := []) d_M_lived_40 mi_M_refuse ml_M_87 mv_M_refuse se_M_refuse rfl rfl rfl rfl (ks_M_0 hx) rfl rfl (kl_M_0 hx) rfl rfl (b_M_refuse_0 hx ?_)
        intro _
        show z_U X 2 m_M_lived 43 [(0, (2, 0)), (1, (0, a1))] [(0, (-1))] N σ (z_up g 0 1 6) Q
        exact z_iret d_M_lived_43 rfl (by decide) (by decide) ⟨rfl, rfl, h⟩
      · have h := h.2 c3
        refine z_aload_n (i := 0) (c := 0) 0 d_M_lived_24 rfl rfl rfl ?_
        refine z_aload_n (i := 0) (c := 0) 0 d_M_lived_25 rfl rfl rfl ?_
        refine z_getr (c := 0) (kI := 39) (r2 := 17) d_M_lived_26 fd_M_told1 fl_M_71 rfl rfl rfl (ks_M_0 hx) (kl_M_0 hx) (kr_M_0_39 hx) ?_
        refine z_iload_n (i := 1) 1 d_M_lived_29 rfl rfl ?_
        obtain ⟨c4, h⟩ := h
        refine z_iald (c := 17) (m := 5) d_M_lived_30 rfl (ks_M_17 hx) (kl_M_17 hx) rfl (by decide) c4 ?_
        refine z_cV (c := 0) (as := [(0, g 17 a1)]) (d' := 1) (st := []) d_M_lived_31 mi_M_gives ml_M_91 mv_M_gives se_M_gives rfl rfl rfl rfl (ks_M_0 hx) rfl rfl (kl_M_0 hx) rfl rfl (b_M_gives_0 hx ?_)
        intro _
        show z_U X 2 m_M_lived 34 [(0, (2, 0)), (1, (0, a1))] [(0, g 17 a1)] N σ (z_up g 0 1 0) Q
        refine z_goto (tgt := 43) d_M_lived_34 (by decide) ?_
        exact z_iret d_M_lived_43 rfl (by decide) (by decide) ⟨rfl, rfl, h⟩
    · have h := h.2 c2
      refine z_aload_n (i := 0) (c := 0) 0 d_M_lived_9 rfl rfl rfl ?_
      refine z_iconst (n := 1) d_M_lived_10 (by decide) ?_
      refine z_cV (c := 0) (as := [(0, 1)]) (d' := 1) (st := []) d_M_lived_11 mi_M_refuse ml_M_87 mv_M_refuse se_M_refuse rfl rfl rfl rfl (ks_M_0 hx) rfl rfl (kl_M_0 hx) rfl rfl (b_M_refuse_0 hx ?_)
      intro _
      show z_U X 2 m_M_lived 14 [(0, (2, 0)), (1, (0, a1))] [(0, (-1))] N σ (z_up g 0 1 1) Q
      refine z_goto (tgt := 43) d_M_lived_14 (by decide) ?_
      exact z_iret d_M_lived_43 rfl (by decide) (by decide) ⟨rfl, rfl, h⟩
theorem d_M_mark_0 : decode (z_c m_M_mark) 0 = .ok (.aload_n 0, 1) := by decide +kernel
theorem d_M_mark_1 : decode (z_c m_M_mark) 1 = .ok (.getfield 427, 3) := by decide +kernel
theorem d_M_mark_4 : decode (z_c m_M_mark) 4 = .ok (.iconst 3, 1) := by decide +kernel
theorem d_M_mark_5 : decode (z_c m_M_mark) 5 = .ok (.if_icmp .ne 9, 3) := by decide +kernel
theorem d_M_mark_8 : decode (z_c m_M_mark) 8 = .ok (.aload_n 0, 1) := by decide +kernel
theorem d_M_mark_9 : decode (z_c m_M_mark) 9 = .ok (.iconst 4, 1) := by decide +kernel
theorem d_M_mark_10 : decode (z_c m_M_mark) 10 = .ok (.invokevirtual 87, 3) := by decide +kernel
theorem d_M_mark_13 : decode (z_c m_M_mark) 13 = .ok (.ireturn, 1) := by decide +kernel
theorem d_M_mark_14 : decode (z_c m_M_mark) 14 = .ok (.aload_n 0, 1) := by decide +kernel
theorem d_M_mark_15 : decode (z_c m_M_mark) 15 = .ok (.dup, 1) := by decide +kernel
theorem d_M_mark_16 : decode (z_c m_M_mark) 16 = .ok (.getfield 427, 3) := by decide +kernel
theorem d_M_mark_19 : decode (z_c m_M_mark) 19 = .ok (.iconst 1, 1) := by decide +kernel
theorem d_M_mark_20 : decode (z_c m_M_mark) 20 = .ok (.iadd, 1) := by decide +kernel
theorem d_M_mark_21 : decode (z_c m_M_mark) 21 = .ok (.putfield 427, 3) := by decide +kernel
theorem d_M_mark_24 : decode (z_c m_M_mark) 24 = .ok (.aload_n 0, 1) := by decide +kernel
theorem d_M_mark_25 : decode (z_c m_M_mark) 25 = .ok (.iconst 0, 1) := by decide +kernel
theorem d_M_mark_26 : decode (z_c m_M_mark) 26 = .ok (.aload_n 0, 1) := by decide +kernel
theorem d_M_mark_27 : decode (z_c m_M_mark) 27 = .ok (.getfield 427, 3) := by decide +kernel
theorem d_M_mark_30 : decode (z_c m_M_mark) 30 = .ok (.invokevirtual 430, 3) := by decide +kernel
theorem d_M_mark_33 : decode (z_c m_M_mark) 33 = .ok (.aload_n 0, 1) := by decide +kernel
theorem d_M_mark_34 : decode (z_c m_M_mark) 34 = .ok (.aload_n 0, 1) := by decide +kernel
theorem d_M_mark_35 : decode (z_c m_M_mark) 35 = .ok (.getfield 427, 3) := by decide +kernel
theorem d_M_mark_38 : decode (z_c m_M_mark) 38 = .ok (.invokevirtual 91, 3) := by decide +kernel
theorem d_M_mark_41 : decode (z_c m_M_mark) 41 = .ok (.ireturn, 1) := by decide +kernel
set_option maxRecDepth 8000 in
theorem b_M_mark_0 {X : z_X} {N : Nat} {σ g : z_G} {Q : z_P} (hx : z_lay X N σ 0 z_SM z_RM) (h : (((g 0 41) = 3) → Q (-1) (z_up g 0 1 4)) ∧ (¬ ((g 0 41) = 3) → ((-2147483648 ≤ ((g 0 41) + 1) ∧ ((g 0 41) + 1) ≤ 2147483647) ∧ (z_O X 1 m_M_copies [(2, 0), (0, 0), (0, (g 0 41) + 1)] N σ (z_up g 0 41 ((g 0 41) + 1)) (fun r0 g0 => Q (g0 0 41) (z_up g0 0 1 0)))))) : z_O X 2 m_M_mark [(2, 0)] N σ g Q := by
  refine z_Oenter mi_M_mark rfl (fun _ => ?_)
  show z_U X 2 m_M_mark 0 [(0, (2, 0))] [] N σ g Q
  refine z_aload_n (i := 0) (c := 0) 0 d_M_mark_0 rfl rfl rfl ?_
  refine z_geti (c := 0) (kI := 41) d_M_mark_1 fd_M_marks fl_M_427 (Or.inl rfl) rfl rfl (ks_M_0 hx) (kl_M_0 hx) ?_
  refine z_iconst (n := 3) d_M_mark_4 (by decide) ?_
  refine z_icmp_ne (tgt := 14) d_M_mark_5 (by decide) (fun c1 => ?_) (fun c1 => ?_)
  · have h := h.2 c1
    refine z_aload_n (i := 0) (c := 0) 0 d_M_mark_14 rfl rfl rfl ?_
    refine z_dup d_M_mark_15 rfl ?_
    refine z_geti (c := 0) (kI := 41) d_M_mark_16 fd_M_marks fl_M_427 (Or.inl rfl) rfl rfl (ks_M_0 hx) (kl_M_0 hx) ?_
    refine z_iconst (n := 1) d_M_mark_19 (by decide) ?_
    obtain ⟨c2, h⟩ := h
    refine z_iadd d_M_mark_20 c2 ?_
    refine z_puti (c := 0) (kI := 41) d_M_mark_21 fd_M_marks fl_M_427 pf_M_marks rfl rfl rfl rfl (ks_M_0 hx) (kl_M_0 hx) ?_
    refine z_aload_n (i := 0) (c := 0) 0 d_M_mark_24 rfl rfl rfl ?_
    refine z_iconst (n := 0) d_M_mark_25 (by decide) ?_
    refine z_aload_n (i := 0) (c := 0) 0 d_M_mark_26 rfl rfl rfl ?_
    refine z_geti (c := 0) (kI := 41) d_M_mark_27 fd_M_marks fl_M_427 (Or.inl rfl) rfl rfl (ks_M_0 hx) (kl_M_0 hx) ?_
    refine z_ti (b := (g 0 41) + 1) (by simp [z_up]) ?_
    refine z_cV (c := 0) (as := [(0, 0), (0, (g 0 41) + 1)]) (d' := 1) (st := []) d_M_mark_30 mi_M_copies ml_M_430 mv_M_copies se_M_copies rfl rfl rfl rfl (ks_M_0 hx) rfl rfl (kl_M_0 hx) rfl rfl (z_Omono h (fun r0 g0 _ h hro => ?_))
    show z_U X 2 m_M_mark 33 [(0, (2, 0))] [] N σ g0 Q
    refine z_aload_n (i := 0) (c := 0) 0 d_M_mark_33 rfl rfl rfl ?_
    refine z_aload_n (i := 0) (c := 0) 0 d_M_mark_34 rfl rfl rfl ?_
    refine z_geti (c := 0) (kI := 41) d_M_mark_35 fd_M_marks fl_M_427 (Or.inl rfl) rfl rfl (ks_M_0 hx) (kl_M_0 hx) ?_
    refine z_cV (c := 0) (as := [(0, g0 0 41)]) (d' := 1) (st := []) d_M_mark_38 mi_M_gives ml_M_91 mv_M_gives se_M_gives rfl rfl rfl rfl (ks_M_0 hx) rfl rfl (kl_M_0 hx) rfl rfl (b_M_gives_0 hx ?_)
    intro _
    show z_U X 2 m_M_mark 41 [(0, (2, 0))] [(0, g0 0 41)] N σ (z_up g0 0 1 0) Q
    exact z_iret d_M_mark_41 rfl (by decide) (by decide) ⟨rfl, rfl, h⟩
  · have h := h.1 c1
    refine z_aload_n (i := 0) (c := 0) 0 d_M_mark_8 rfl rfl rfl ?_
    refine z_iconst (n := 4) d_M_mark_9 (by decide) ?_
    refine z_cV (c := 0) (as := [(0, 4)]) (d' := 1) (st := []) d_M_mark_10 mi_M_refuse ml_M_87 mv_M_refuse se_M_refuse rfl rfl rfl rfl (ks_M_0 hx) rfl rfl (kl_M_0 hx) rfl rfl (b_M_refuse_0 hx ?_)
    intro _
    show z_U X 2 m_M_mark 13 [(0, (2, 0))] [(0, (-1))] N σ (z_up g 0 1 4) Q
    exact z_iret d_M_mark_13 rfl (by decide) (by decide) ⟨rfl, rfl, h⟩
theorem d_M_nextToken_0 : decode (z_c m_M_nextToken) 0 = .ok (.aload_n 0, 1) := by decide +kernel
theorem d_M_nextToken_1 : decode (z_c m_M_nextToken) 1 = .ok (.aload_n 0, 1) := by decide +kernel
theorem d_M_nextToken_2 : decode (z_c m_M_nextToken) 2 = .ok (.getfield 120, 3) := by decide +kernel
theorem d_M_nextToken_5 : decode (z_c m_M_nextToken) 5 = .ok (.invokevirtual 123, 3) := by decide +kernel
theorem d_M_nextToken_8 : decode (z_c m_M_nextToken) 8 = .ok (.bipush 32, 2) := by decide +kernel
theorem d_M_nextToken_10 : decode (z_c m_M_nextToken) 10 = .ok (.if_icmp .eq 16, 3) := by decide +kernel
theorem d_M_nextToken_13 : decode (z_c m_M_nextToken) 13 = .ok (.aload_n 0, 1) := by decide +kernel
theorem d_M_nextToken_14 : decode (z_c m_M_nextToken) 14 = .ok (.aload_n 0, 1) := by decide +kernel
theorem d_M_nextToken_15 : decode (z_c m_M_nextToken) 15 = .ok (.getfield 120, 3) := by decide +kernel
theorem d_M_nextToken_18 : decode (z_c m_M_nextToken) 18 = .ok (.invokevirtual 123, 3) := by decide +kernel
theorem d_M_nextToken_21 : decode (z_c m_M_nextToken) 21 = .ok (.bipush 10, 2) := by decide +kernel
theorem d_M_nextToken_23 : decode (z_c m_M_nextToken) 23 = .ok (.if_icmp .ne 16, 3) := by decide +kernel
theorem d_M_nextToken_26 : decode (z_c m_M_nextToken) 26 = .ok (.aload_n 0, 1) := by decide +kernel
theorem d_M_nextToken_27 : decode (z_c m_M_nextToken) 27 = .ok (.dup, 1) := by decide +kernel
theorem d_M_nextToken_28 : decode (z_c m_M_nextToken) 28 = .ok (.getfield 120, 3) := by decide +kernel
theorem d_M_nextToken_31 : decode (z_c m_M_nextToken) 31 = .ok (.iconst 1, 1) := by decide +kernel
theorem d_M_nextToken_32 : decode (z_c m_M_nextToken) 32 = .ok (.iadd, 1) := by decide +kernel
theorem d_M_nextToken_33 : decode (z_c m_M_nextToken) 33 = .ok (.putfield 120, 3) := by decide +kernel
theorem d_M_nextToken_36 : decode (z_c m_M_nextToken) 36 = .ok (.goto (-36), 3) := by decide +kernel
theorem d_M_nextToken_39 : decode (z_c m_M_nextToken) 39 = .ok (.aload_n 0, 1) := by decide +kernel
theorem d_M_nextToken_40 : decode (z_c m_M_nextToken) 40 = .ok (.aload_n 0, 1) := by decide +kernel
theorem d_M_nextToken_41 : decode (z_c m_M_nextToken) 41 = .ok (.getfield 120, 3) := by decide +kernel
theorem d_M_nextToken_44 : decode (z_c m_M_nextToken) 44 = .ok (.putfield 126, 3) := by decide +kernel
theorem d_M_nextToken_47 : decode (z_c m_M_nextToken) 47 = .ok (.aload_n 0, 1) := by decide +kernel
theorem d_M_nextToken_48 : decode (z_c m_M_nextToken) 48 = .ok (.aload_n 0, 1) := by decide +kernel
theorem d_M_nextToken_49 : decode (z_c m_M_nextToken) 49 = .ok (.getfield 120, 3) := by decide +kernel
theorem d_M_nextToken_52 : decode (z_c m_M_nextToken) 52 = .ok (.invokevirtual 123, 3) := by decide +kernel
theorem d_M_nextToken_55 : decode (z_c m_M_nextToken) 55 = .ok (.istore_n 1, 1) := by decide +kernel
theorem d_M_nextToken_56 : decode (z_c m_M_nextToken) 56 = .ok (.aload_n 0, 1) := by decide +kernel
theorem d_M_nextToken_57 : decode (z_c m_M_nextToken) 57 = .ok (.iload_n 1, 1) := by decide +kernel
theorem d_M_nextToken_58 : decode (z_c m_M_nextToken) 58 = .ok (.putfield 129, 3) := by decide +kernel
theorem d_M_nextToken_61 : decode (z_c m_M_nextToken) 61 = .ok (.iload_n 1, 1) := by decide +kernel
theorem d_M_nextToken_62 : decode (z_c m_M_nextToken) 62 = .ok (.iconst (-1), 1) := by decide +kernel
theorem d_M_nextToken_63 : decode (z_c m_M_nextToken) 63 = .ok (.if_icmp .ne 11, 3) := by decide +kernel
theorem d_M_nextToken_66 : decode (z_c m_M_nextToken) 66 = .ok (.aload_n 0, 1) := by decide +kernel
theorem d_M_nextToken_67 : decode (z_c m_M_nextToken) 67 = .ok (.iconst 0, 1) := by decide +kernel
theorem d_M_nextToken_68 : decode (z_c m_M_nextToken) 68 = .ok (.putfield 132, 3) := by decide +kernel
theorem d_M_nextToken_71 : decode (z_c m_M_nextToken) 71 = .ok (.goto 180, 3) := by decide +kernel
theorem d_M_nextToken_74 : decode (z_c m_M_nextToken) 74 = .ok (.iload_n 1, 1) := by decide +kernel
theorem d_M_nextToken_75 : decode (z_c m_M_nextToken) 75 = .ok (.invokestatic 135, 3) := by decide +kernel
theorem d_M_nextToken_78 : decode (z_c m_M_nextToken) 78 = .ok (.ifCond .eq 38, 3) := by decide +kernel
theorem d_M_nextToken_81 : decode (z_c m_M_nextToken) 81 = .ok (.aload_n 0, 1) := by decide +kernel
theorem d_M_nextToken_82 : decode (z_c m_M_nextToken) 82 = .ok (.aload_n 0, 1) := by decide +kernel
theorem d_M_nextToken_83 : decode (z_c m_M_nextToken) 83 = .ok (.getfield 120, 3) := by decide +kernel
theorem d_M_nextToken_86 : decode (z_c m_M_nextToken) 86 = .ok (.invokevirtual 123, 3) := by decide +kernel
theorem d_M_nextToken_89 : decode (z_c m_M_nextToken) 89 = .ok (.invokestatic 135, 3) := by decide +kernel
theorem d_M_nextToken_92 : decode (z_c m_M_nextToken) 92 = .ok (.ifCond .eq 16, 3) := by decide +kernel
theorem d_M_nextToken_95 : decode (z_c m_M_nextToken) 95 = .ok (.aload_n 0, 1) := by decide +kernel
theorem d_M_nextToken_96 : decode (z_c m_M_nextToken) 96 = .ok (.dup, 1) := by decide +kernel
theorem d_M_nextToken_97 : decode (z_c m_M_nextToken) 97 = .ok (.getfield 120, 3) := by decide +kernel
theorem d_M_nextToken_100 : decode (z_c m_M_nextToken) 100 = .ok (.iconst 1, 1) := by decide +kernel
theorem d_M_nextToken_101 : decode (z_c m_M_nextToken) 101 = .ok (.iadd, 1) := by decide +kernel
theorem d_M_nextToken_102 : decode (z_c m_M_nextToken) 102 = .ok (.putfield 120, 3) := by decide +kernel
theorem d_M_nextToken_105 : decode (z_c m_M_nextToken) 105 = .ok (.goto (-24), 3) := by decide +kernel
theorem d_M_nextToken_108 : decode (z_c m_M_nextToken) 108 = .ok (.aload_n 0, 1) := by decide +kernel
theorem d_M_nextToken_109 : decode (z_c m_M_nextToken) 109 = .ok (.iconst 2, 1) := by decide +kernel
theorem d_M_nextToken_110 : decode (z_c m_M_nextToken) 110 = .ok (.putfield 132, 3) := by decide +kernel
theorem d_M_nextToken_113 : decode (z_c m_M_nextToken) 113 = .ok (.goto 138, 3) := by decide +kernel
theorem d_M_nextToken_116 : decode (z_c m_M_nextToken) 116 = .ok (.iload_n 1, 1) := by decide +kernel
theorem d_M_nextToken_117 : decode (z_c m_M_nextToken) 117 = .ok (.invokestatic 138, 3) := by decide +kernel
theorem d_M_nextToken_120 : decode (z_c m_M_nextToken) 120 = .ok (.ifCond .eq 88, 3) := by decide +kernel
theorem d_M_nextToken_123 : decode (z_c m_M_nextToken) 123 = .ok (.aload_n 0, 1) := by decide +kernel
theorem d_M_nextToken_124 : decode (z_c m_M_nextToken) 124 = .ok (.iconst 0, 1) := by decide +kernel
theorem d_M_nextToken_125 : decode (z_c m_M_nextToken) 125 = .ok (.putfield 129, 3) := by decide +kernel
theorem d_M_nextToken_128 : decode (z_c m_M_nextToken) 128 = .ok (.aload_n 0, 1) := by decide +kernel
theorem d_M_nextToken_129 : decode (z_c m_M_nextToken) 129 = .ok (.aload_n 0, 1) := by decide +kernel
theorem d_M_nextToken_130 : decode (z_c m_M_nextToken) 130 = .ok (.getfield 120, 3) := by decide +kernel
theorem d_M_nextToken_133 : decode (z_c m_M_nextToken) 133 = .ok (.invokevirtual 123, 3) := by decide +kernel
theorem d_M_nextToken_136 : decode (z_c m_M_nextToken) 136 = .ok (.invokestatic 138, 3) := by decide +kernel
theorem d_M_nextToken_139 : decode (z_c m_M_nextToken) 139 = .ok (.ifCond .eq 44, 3) := by decide +kernel
theorem d_M_nextToken_142 : decode (z_c m_M_nextToken) 142 = .ok (.aload_n 0, 1) := by decide +kernel
theorem d_M_nextToken_143 : decode (z_c m_M_nextToken) 143 = .ok (.ldc 141, 2) := by decide +kernel
theorem d_M_nextToken_145 : decode (z_c m_M_nextToken) 145 = .ok (.bipush 10, 2) := by decide +kernel
theorem d_M_nextToken_147 : decode (z_c m_M_nextToken) 147 = .ok (.aload_n 0, 1) := by decide +kernel
theorem d_M_nextToken_148 : decode (z_c m_M_nextToken) 148 = .ok (.getfield 129, 3) := by decide +kernel
theorem d_M_nextToken_151 : decode (z_c m_M_nextToken) 151 = .ok (.imul, 1) := by decide +kernel
theorem d_M_nextToken_152 : decode (z_c m_M_nextToken) 152 = .ok (.aload_n 0, 1) := by decide +kernel
theorem d_M_nextToken_153 : decode (z_c m_M_nextToken) 153 = .ok (.aload_n 0, 1) := by decide +kernel
theorem d_M_nextToken_154 : decode (z_c m_M_nextToken) 154 = .ok (.getfield 120, 3) := by decide +kernel
theorem d_M_nextToken_157 : decode (z_c m_M_nextToken) 157 = .ok (.invokevirtual 123, 3) := by decide +kernel
theorem d_M_nextToken_160 : decode (z_c m_M_nextToken) 160 = .ok (.iadd, 1) := by decide +kernel
theorem d_M_nextToken_161 : decode (z_c m_M_nextToken) 161 = .ok (.bipush 48, 2) := by decide +kernel
theorem d_M_nextToken_163 : decode (z_c m_M_nextToken) 163 = .ok (.isub, 1) := by decide +kernel
theorem d_M_nextToken_164 : decode (z_c m_M_nextToken) 164 = .ok (.invokestatic 142, 3) := by decide +kernel
theorem d_M_nextToken_167 : decode (z_c m_M_nextToken) 167 = .ok (.putfield 129, 3) := by decide +kernel
theorem d_M_nextToken_170 : decode (z_c m_M_nextToken) 170 = .ok (.aload_n 0, 1) := by decide +kernel
theorem d_M_nextToken_171 : decode (z_c m_M_nextToken) 171 = .ok (.dup, 1) := by decide +kernel
theorem d_M_nextToken_172 : decode (z_c m_M_nextToken) 172 = .ok (.getfield 120, 3) := by decide +kernel
theorem d_M_nextToken_175 : decode (z_c m_M_nextToken) 175 = .ok (.iconst 1, 1) := by decide +kernel
theorem d_M_nextToken_176 : decode (z_c m_M_nextToken) 176 = .ok (.iadd, 1) := by decide +kernel
theorem d_M_nextToken_177 : decode (z_c m_M_nextToken) 177 = .ok (.putfield 120, 3) := by decide +kernel
theorem d_M_nextToken_180 : decode (z_c m_M_nextToken) 180 = .ok (.goto (-52), 3) := by decide +kernel
theorem d_M_nextToken_183 : decode (z_c m_M_nextToken) 183 = .ok (.aload_n 0, 1) := by decide +kernel
theorem d_M_nextToken_184 : decode (z_c m_M_nextToken) 184 = .ok (.aload_n 0, 1) := by decide +kernel
theorem d_M_nextToken_185 : decode (z_c m_M_nextToken) 185 = .ok (.getfield 120, 3) := by decide +kernel
theorem d_M_nextToken_188 : decode (z_c m_M_nextToken) 188 = .ok (.aload_n 0, 1) := by decide +kernel
theorem d_M_nextToken_189 : decode (z_c m_M_nextToken) 189 = .ok (.getfield 126, 3) := by decide +kernel
theorem d_M_nextToken_192 : decode (z_c m_M_nextToken) 192 = .ok (.isub, 1) := by decide +kernel
theorem d_M_nextToken_193 : decode (z_c m_M_nextToken) 193 = .ok (.iconst 4, 1) := by decide +kernel
theorem d_M_nextToken_194 : decode (z_c m_M_nextToken) 194 = .ok (.if_icmp .le 7, 3) := by decide +kernel
theorem d_M_nextToken_197 : decode (z_c m_M_nextToken) 197 = .ok (.iconst 1, 1) := by decide +kernel
theorem d_M_nextToken_198 : decode (z_c m_M_nextToken) 198 = .ok (.goto 4, 3) := by decide +kernel
theorem d_M_nextToken_201 : decode (z_c m_M_nextToken) 201 = .ok (.iconst 3, 1) := by decide +kernel
theorem d_M_nextToken_202 : decode (z_c m_M_nextToken) 202 = .ok (.putfield 132, 3) := by decide +kernel
theorem d_M_nextToken_205 : decode (z_c m_M_nextToken) 205 = .ok (.goto 46, 3) := by decide +kernel
theorem d_M_nextToken_208 : decode (z_c m_M_nextToken) 208 = .ok (.aload_n 0, 1) := by decide +kernel
theorem d_M_nextToken_209 : decode (z_c m_M_nextToken) 209 = .ok (.dup, 1) := by decide +kernel
theorem d_M_nextToken_210 : decode (z_c m_M_nextToken) 210 = .ok (.getfield 120, 3) := by decide +kernel
theorem d_M_nextToken_213 : decode (z_c m_M_nextToken) 213 = .ok (.iconst 1, 1) := by decide +kernel
theorem d_M_nextToken_214 : decode (z_c m_M_nextToken) 214 = .ok (.iadd, 1) := by decide +kernel
theorem d_M_nextToken_215 : decode (z_c m_M_nextToken) 215 = .ok (.putfield 120, 3) := by decide +kernel
theorem d_M_nextToken_218 : decode (z_c m_M_nextToken) 218 = .ok (.aload_n 0, 1) := by decide +kernel
theorem d_M_nextToken_219 : decode (z_c m_M_nextToken) 219 = .ok (.iload_n 1, 1) := by decide +kernel
theorem d_M_nextToken_220 : decode (z_c m_M_nextToken) 220 = .ok (.bipush 59, 2) := by decide +kernel
theorem d_M_nextToken_222 : decode (z_c m_M_nextToken) 222 = .ok (.if_icmp .eq 21, 3) := by decide +kernel
theorem d_M_nextToken_225 : decode (z_c m_M_nextToken) 225 = .ok (.iload_n 1, 1) := by decide +kernel
theorem d_M_nextToken_226 : decode (z_c m_M_nextToken) 226 = .ok (.bipush 60, 2) := by decide +kernel
theorem d_M_nextToken_228 : decode (z_c m_M_nextToken) 228 = .ok (.if_icmp .eq 15, 3) := by decide +kernel
theorem d_M_nextToken_231 : decode (z_c m_M_nextToken) 231 = .ok (.iload_n 1, 1) := by decide +kernel
theorem d_M_nextToken_232 : decode (z_c m_M_nextToken) 232 = .ok (.bipush 62, 2) := by decide +kernel
theorem d_M_nextToken_234 : decode (z_c m_M_nextToken) 234 = .ok (.if_icmp .eq 9, 3) := by decide +kernel
theorem d_M_nextToken_237 : decode (z_c m_M_nextToken) 237 = .ok (.iload_n 1, 1) := by decide +kernel
theorem d_M_nextToken_238 : decode (z_c m_M_nextToken) 238 = .ok (.bipush 61, 2) := by decide +kernel
theorem d_M_nextToken_240 : decode (z_c m_M_nextToken) 240 = .ok (.if_icmp .ne 7, 3) := by decide +kernel
theorem d_M_nextToken_243 : decode (z_c m_M_nextToken) 243 = .ok (.iconst 4, 1) := by decide +kernel
theorem d_M_nextToken_244 : decode (z_c m_M_nextToken) 244 = .ok (.goto 4, 3) := by decide +kernel
theorem d_M_nextToken_247 : decode (z_c m_M_nextToken) 247 = .ok (.iconst 1, 1) := by decide +kernel
theorem d_M_nextToken_248 : decode (z_c m_M_nextToken) 248 = .ok (.putfield 132, 3) := by decide +kernel
theorem d_M_nextToken_251 : decode (z_c m_M_nextToken) 251 = .ok (.return_, 1) := by decide +kernel
abbrev L_M_nextToken_0 (X : z_X) (N : Nat) (σ : z_G) (g : z_G) (Q : z_P) : Prop := z_U X 2 m_M_nextToken 0 [(0, (2, 0))] [] N σ g Q
abbrev L_M_nextToken_128 (X : z_X) (N : Nat) (σ : z_G) (g : z_G) (Q : z_P) : Prop := z_U X 2 m_M_nextToken 128 [(0, (2, 0))] [] N σ g Q
abbrev L_M_nextToken_81 (X : z_X) (N : Nat) (σ : z_G) (g : z_G) (Q : z_P) : Prop := z_U X 2 m_M_nextToken 81 [(0, (2, 0))] [] N σ g Q
set_option maxRecDepth 8000 in
theorem b_M_nextToken_e {X : z_X} {N : Nat} {σ g : z_G} {Q : z_P} (hx : z_lay X N σ 0 z_SM z_RM) (h : L_M_nextToken_0 X N σ g Q) : z_O X 2 m_M_nextToken [(2, 0)] N σ g Q := by
  refine z_Oenter mi_M_nextToken rfl (fun _ => ?_)
  show z_U X 2 m_M_nextToken 0 [(0, (2, 0))] [] N σ g Q
  refine z_sub (ls' := [(0, (2, 0))]) [0] rfl ?_
  exact h
set_option maxRecDepth 8000 in
theorem b_M_nextToken_0 {X : z_X} {N : Nat} {σ g : z_G} {Q : z_P} (hx : z_lay X N σ 0 z_SM z_RM) (h : (((g 0 10) ≤ (g 0 13)) → (((((z_up g 0 12 (g 0 13)) 0 10) ≤ (g 0 13)) → Q 0 (z_up (z_up (z_up g 0 12 (g 0 13)) 0 14 (-1)) 0 11 0)) ∧ (¬ (((z_up g 0 12 (g 0 13)) 0 10) ≤ (g 0 13)) → ((0 ≤ (g 0 13) ∧ (g 0 13) < 900) ∧ ((((Int32.toInt (Int32.ofInt ((z_up g 0 12 (g 0 13)) 6 (g 0 13)) &&& Int32.ofInt 255)) = (-1)) → Q 0 (z_up (z_up (z_up g 0 12 (g 0 13)) 0 14 (Int32.toInt (Int32.ofInt ((z_up g 0 12 (g 0 13)) 6 (g 0 13)) &&& Int32.ofInt 255))) 0 11 0)) ∧ (¬ ((Int32.toInt (Int32.ofInt ((z_up g 0 12 (g 0 13)) 6 (g 0 13)) &&& Int32.ofInt 255)) = (-1)) → ((((Int32.toInt (Int32.ofInt ((z_up g 0 12 (g 0 13)) 6 (g 0 13)) &&& Int32.ofInt 255)) < 97) → ((((Int32.toInt (Int32.ofInt ((z_up g 0 12 (g 0 13)) 6 (g 0 13)) &&& Int32.ofInt 255)) < 48) → ((-2147483648 ≤ ((g 0 13) + 1) ∧ ((g 0 13) + 1) ≤ 2147483647) ∧ ((((Int32.toInt (Int32.ofInt ((z_up g 0 12 (g 0 13)) 6 (g 0 13)) &&& Int32.ofInt 255)) = 59) → Q 0 (z_up (z_up (z_up (z_up g 0 12 (g 0 13)) 0 14 (Int32.toInt (Int32.ofInt ((z_up g 0 12 (g 0 13)) 6 (g 0 13)) &&& Int32.ofInt 255))) 0 13 ((g 0 13) + 1)) 0 11 4)) ∧ (¬ ((Int32.toInt (Int32.ofInt ((z_up g 0 12 (g 0 13)) 6 (g 0 13)) &&& Int32.ofInt 255)) = 59) → ((((Int32.toInt (Int32.ofInt ((z_up g 0 12 (g 0 13)) 6 (g 0 13)) &&& Int32.ofInt 255)) = 60) → Q 0 (z_up (z_up (z_up (z_up g 0 12 (g 0 13)) 0 14 (Int32.toInt (Int32.ofInt ((z_up g 0 12 (g 0 13)) 6 (g 0 13)) &&& Int32.ofInt 255))) 0 13 ((g 0 13) + 1)) 0 11 4)) ∧ (¬ ((Int32.toInt (Int32.ofInt ((z_up g 0 12 (g 0 13)) 6 (g 0 13)) &&& Int32.ofInt 255)) = 60) → ((((Int32.toInt (Int32.ofInt ((z_up g 0 12 (g 0 13)) 6 (g 0 13)) &&& Int32.ofInt 255)) = 62) → Q 0 (z_up (z_up (z_up (z_up g 0 12 (g 0 13)) 0 14 (Int32.toInt (Int32.ofInt ((z_up g 0 12 (g 0 13)) 6 (g 0 13)) &&& Int32.ofInt 255))) 0 13 ((g 0 13) + 1)) 0 11 4)) ∧ (¬ ((Int32.toInt (Int32.ofInt ((z_up g 0 12 (g 0 13)) 6 (g 0 13)) &&& Int32.ofInt 255)) = 62) → ((((Int32.toInt (Int32.ofInt ((z_up g 0 12 (g 0 13)) 6 (g 0 13)) &&& Int32.ofInt 255)) = 61) → Q 0 (z_up (z_up (z_up (z_up g 0 12 (g 0 13)) 0 14 (Int32.toInt (Int32.ofInt ((z_up g 0 12 (g 0 13)) 6 (g 0 13)) &&& Int32.ofInt 255))) 0 13 ((g 0 13) + 1)) 0 11 4)) ∧ (¬ ((Int32.toInt (Int32.ofInt ((z_up g 0 12 (g 0 13)) 6 (g 0 13)) &&& Int32.ofInt 255)) = 61) → Q 0 (z_up (z_up (z_up (z_up g 0 12 (g 0 13)) 0 14 (Int32.toInt (Int32.ofInt ((z_up g 0 12 (g 0 13)) 6 (g 0 13)) &&& Int32.ofInt 255))) 0 13 ((g 0 13) + 1)) 0 11 1))))))))))) ∧ (¬ ((Int32.toInt (Int32.ofInt ((z_up g 0 12 (g 0 13)) 6 (g 0 13)) &&& Int32.ofInt 255)) < 48) → (((57 < (Int32.toInt (Int32.ofInt ((z_up g 0 12 (g 0 13)) 6 (g 0 13)) &&& Int32.ofInt 255))) → ((-2147483648 ≤ ((g 0 13) + 1) ∧ ((g 0 13) + 1) ≤ 2147483647) ∧ ((((Int32.toInt (Int32.ofInt ((z_up g 0 12 (g 0 13)) 6 (g 0 13)) &&& Int32.ofInt 255)) = 59) → Q 0 (z_up (z_up (z_up (z_up g 0 12 (g 0 13)) 0 14 (Int32.toInt (Int32.ofInt ((z_up g 0 12 (g 0 13)) 6 (g 0 13)) &&& Int32.ofInt 255))) 0 13 ((g 0 13) + 1)) 0 11 4)) ∧ (¬ ((Int32.toInt (Int32.ofInt ((z_up g 0 12 (g 0 13)) 6 (g 0 13)) &&& Int32.ofInt 255)) = 59) → ((((Int32.toInt (Int32.ofInt ((z_up g 0 12 (g 0 13)) 6 (g 0 13)) &&& Int32.ofInt 255)) = 60) → Q 0 (z_up (z_up (z_up (z_up g 0 12 (g 0 13)) 0 14 (Int32.toInt (Int32.ofInt ((z_up g 0 12 (g 0 13)) 6 (g 0 13)) &&& Int32.ofInt 255))) 0 13 ((g 0 13) + 1)) 0 11 4)) ∧ (¬ ((Int32.toInt (Int32.ofInt ((z_up g 0 12 (g 0 13)) 6 (g 0 13)) &&& Int32.ofInt 255)) = 60) → ((((Int32.toInt (Int32.ofInt ((z_up g 0 12 (g 0 13)) 6 (g 0 13)) &&& Int32.ofInt 255)) = 62) → Q 0 (z_up (z_up (z_up (z_up g 0 12 (g 0 13)) 0 14 (Int32.toInt (Int32.ofInt ((z_up g 0 12 (g 0 13)) 6 (g 0 13)) &&& Int32.ofInt 255))) 0 13 ((g 0 13) + 1)) 0 11 4)) ∧ (¬ ((Int32.toInt (Int32.ofInt ((z_up g 0 12 (g 0 13)) 6 (g 0 13)) &&& Int32.ofInt 255)) = 62) → ((((Int32.toInt (Int32.ofInt ((z_up g 0 12 (g 0 13)) 6 (g 0 13)) &&& Int32.ofInt 255)) = 61) → Q 0 (z_up (z_up (z_up (z_up g 0 12 (g 0 13)) 0 14 (Int32.toInt (Int32.ofInt ((z_up g 0 12 (g 0 13)) 6 (g 0 13)) &&& Int32.ofInt 255))) 0 13 ((g 0 13) + 1)) 0 11 4)) ∧ (¬ ((Int32.toInt (Int32.ofInt ((z_up g 0 12 (g 0 13)) 6 (g 0 13)) &&& Int32.ofInt 255)) = 61) → Q 0 (z_up (z_up (z_up (z_up g 0 12 (g 0 13)) 0 14 (Int32.toInt (Int32.ofInt ((z_up g 0 12 (g 0 13)) 6 (g 0 13)) &&& Int32.ofInt 255))) 0 13 ((g 0 13) + 1)) 0 11 1))))))))))) ∧ (¬ (57 < (Int32.toInt (Int32.ofInt ((z_up g 0 12 (g 0 13)) 6 (g 0 13)) &&& Int32.ofInt 255))) → L_M_nextToken_128 X N σ (z_up (z_up (z_up g 0 12 (g 0 13)) 0 14 (Int32.toInt (Int32.ofInt ((z_up g 0 12 (g 0 13)) 6 (g 0 13)) &&& Int32.ofInt 255))) 0 14 0) Q))))) ∧ (¬ ((Int32.toInt (Int32.ofInt ((z_up g 0 12 (g 0 13)) 6 (g 0 13)) &&& Int32.ofInt 255)) < 97) → (((122 < (Int32.toInt (Int32.ofInt ((z_up g 0 12 (g 0 13)) 6 (g 0 13)) &&& Int32.ofInt 255))) → ((((Int32.toInt (Int32.ofInt ((z_up g 0 12 (g 0 13)) 6 (g 0 13)) &&& Int32.ofInt 255)) < 48) → ((-2147483648 ≤ ((g 0 13) + 1) ∧ ((g 0 13) + 1) ≤ 2147483647) ∧ ((((Int32.toInt (Int32.ofInt ((z_up g 0 12 (g 0 13)) 6 (g 0 13)) &&& Int32.ofInt 255)) = 59) → Q 0 (z_up (z_up (z_up (z_up g 0 12 (g 0 13)) 0 14 (Int32.toInt (Int32.ofInt ((z_up g 0 12 (g 0 13)) 6 (g 0 13)) &&& Int32.ofInt 255))) 0 13 ((g 0 13) + 1)) 0 11 4)) ∧ (¬ ((Int32.toInt (Int32.ofInt ((z_up g 0 12 (g 0 13)) 6 (g 0 13)) &&& Int32.ofInt 255)) = 59) → ((((Int32.toInt (Int32.ofInt ((z_up g 0 12 (g 0 13)) 6 (g 0 13)) &&& Int32.ofInt 255)) = 60) → Q 0 (z_up (z_up (z_up (z_up g 0 12 (g 0 13)) 0 14 (Int32.toInt (Int32.ofInt ((z_up g 0 12 (g 0 13)) 6 (g 0 13)) &&& Int32.ofInt 255))) 0 13 ((g 0 13) + 1)) 0 11 4)) ∧ (¬ ((Int32.toInt (Int32.ofInt ((z_up g 0 12 (g 0 13)) 6 (g 0 13)) &&& Int32.ofInt 255)) = 60) → ((((Int32.toInt (Int32.ofInt ((z_up g 0 12 (g 0 13)) 6 (g 0 13)) &&& Int32.ofInt 255)) = 62) → Q 0 (z_up (z_up (z_up (z_up g 0 12 (g 0 13)) 0 14 (Int32.toInt (Int32.ofInt ((z_up g 0 12 (g 0 13)) 6 (g 0 13)) &&& Int32.ofInt 255))) 0 13 ((g 0 13) + 1)) 0 11 4)) ∧ (¬ ((Int32.toInt (Int32.ofInt ((z_up g 0 12 (g 0 13)) 6 (g 0 13)) &&& Int32.ofInt 255)) = 62) → ((((Int32.toInt (Int32.ofInt ((z_up g 0 12 (g 0 13)) 6 (g 0 13)) &&& Int32.ofInt 255)) = 61) → Q 0 (z_up (z_up (z_up (z_up g 0 12 (g 0 13)) 0 14 (Int32.toInt (Int32.ofInt ((z_up g 0 12 (g 0 13)) 6 (g 0 13)) &&& Int32.ofInt 255))) 0 13 ((g 0 13) + 1)) 0 11 4)) ∧ (¬ ((Int32.toInt (Int32.ofInt ((z_up g 0 12 (g 0 13)) 6 (g 0 13)) &&& Int32.ofInt 255)) = 61) → Q 0 (z_up (z_up (z_up (z_up g 0 12 (g 0 13)) 0 14 (Int32.toInt (Int32.ofInt ((z_up g 0 12 (g 0 13)) 6 (g 0 13)) &&& Int32.ofInt 255))) 0 13 ((g 0 13) + 1)) 0 11 1))))))))))) ∧ (¬ ((Int32.toInt (Int32.ofInt ((z_up g 0 12 (g 0 13)) 6 (g 0 13)) &&& Int32.ofInt 255)) < 48) → (((57 < (Int32.toInt (Int32.ofInt ((z_up g 0 12 (g 0 13)) 6 (g 0 13)) &&& Int32.ofInt 255))) → ((-2147483648 ≤ ((g 0 13) + 1) ∧ ((g 0 13) + 1) ≤ 2147483647) ∧ ((((Int32.toInt (Int32.ofInt ((z_up g 0 12 (g 0 13)) 6 (g 0 13)) &&& Int32.ofInt 255)) = 59) → Q 0 (z_up (z_up (z_up (z_up g 0 12 (g 0 13)) 0 14 (Int32.toInt (Int32.ofInt ((z_up g 0 12 (g 0 13)) 6 (g 0 13)) &&& Int32.ofInt 255))) 0 13 ((g 0 13) + 1)) 0 11 4)) ∧ (¬ ((Int32.toInt (Int32.ofInt ((z_up g 0 12 (g 0 13)) 6 (g 0 13)) &&& Int32.ofInt 255)) = 59) → ((((Int32.toInt (Int32.ofInt ((z_up g 0 12 (g 0 13)) 6 (g 0 13)) &&& Int32.ofInt 255)) = 60) → Q 0 (z_up (z_up (z_up (z_up g 0 12 (g 0 13)) 0 14 (Int32.toInt (Int32.ofInt ((z_up g 0 12 (g 0 13)) 6 (g 0 13)) &&& Int32.ofInt 255))) 0 13 ((g 0 13) + 1)) 0 11 4)) ∧ (¬ ((Int32.toInt (Int32.ofInt ((z_up g 0 12 (g 0 13)) 6 (g 0 13)) &&& Int32.ofInt 255)) = 60) → ((((Int32.toInt (Int32.ofInt ((z_up g 0 12 (g 0 13)) 6 (g 0 13)) &&& Int32.ofInt 255)) = 62) → Q 0 (z_up (z_up (z_up (z_up g 0 12 (g 0 13)) 0 14 (Int32.toInt (Int32.ofInt ((z_up g 0 12 (g 0 13)) 6 (g 0 13)) &&& Int32.ofInt 255))) 0 13 ((g 0 13) + 1)) 0 11 4)) ∧ (¬ ((Int32.toInt (Int32.ofInt ((z_up g 0 12 (g 0 13)) 6 (g 0 13)) &&& Int32.ofInt 255)) = 62) → ((((Int32.toInt (Int32.ofInt ((z_up g 0 12 (g 0 13)) 6 (g 0 13)) &&& Int32.ofInt 255)) = 61) → Q 0 (z_up (z_up (z_up (z_up g 0 12 (g 0 13)) 0 14 (Int32.toInt (Int32.ofInt ((z_up g 0 12 (g 0 13)) 6 (g 0 13)) &&& Int32.ofInt 255))) 0 13 ((g 0 13) + 1)) 0 11 4)) ∧ (¬ ((Int32.toInt (Int32.ofInt ((z_up g 0 12 (g 0 13)) 6 (g 0 13)) &&& Int32.ofInt 255)) = 61) → Q 0 (z_up (z_up (z_up (z_up g 0 12 (g 0 13)) 0 14 (Int32.toInt (Int32.ofInt ((z_up g 0 12 (g 0 13)) 6 (g 0 13)) &&& Int32.ofInt 255))) 0 13 ((g 0 13) + 1)) 0 11 1))))))))))) ∧ (¬ (57 < (Int32.toInt (Int32.ofInt ((z_up g 0 12 (g 0 13)) 6 (g 0 13)) &&& Int32.ofInt 255))) → L_M_nextToken_128 X N σ (z_up (z_up (z_up g 0 12 (g 0 13)) 0 14 (Int32.toInt (Int32.ofInt ((z_up g 0 12 (g 0 13)) 6 (g 0 13)) &&& Int32.ofInt 255))) 0 14 0) Q))))) ∧ (¬ (122 < (Int32.toInt (Int32.ofInt ((z_up g 0 12 (g 0 13)) 6 (g 0 13)) &&& Int32.ofInt 255))) → L_M_nextToken_81 X N σ (z_up (z_up g 0 12 (g 0 13)) 0 14 (Int32.toInt (Int32.ofInt ((z_up g 0 12 (g 0 13)) 6 (g 0 13)) &&& Int32.ofInt 255))) Q)))))))))) ∧ (¬ ((g 0 10) ≤ (g 0 13)) → ((0 ≤ (g 0 13) ∧ (g 0 13) < 900) ∧ ((((Int32.toInt (Int32.ofInt (g 6 (g 0 13)) &&& Int32.ofInt 255)) = 32) → ((-2147483648 ≤ ((g 0 13) + 1) ∧ ((g 0 13) + 1) ≤ 2147483647) ∧ L_M_nextToken_0 X N σ (z_up g 0 13 ((g 0 13) + 1)) Q)) ∧ (¬ ((Int32.toInt (Int32.ofInt (g 6 (g 0 13)) &&& Int32.ofInt 255)) = 32) → ((((Int32.toInt (Int32.ofInt (g 6 (g 0 13)) &&& Int32.ofInt 255)) = 10) → ((-2147483648 ≤ ((g 0 13) + 1) ∧ ((g 0 13) + 1) ≤ 2147483647) ∧ L_M_nextToken_0 X N σ (z_up g 0 13 ((g 0 13) + 1)) Q)) ∧ (¬ ((Int32.toInt (Int32.ofInt (g 6 (g 0 13)) &&& Int32.ofInt 255)) = 10) → (((((z_up g 0 12 (g 0 13)) 0 10) ≤ (g 0 13)) → Q 0 (z_up (z_up (z_up g 0 12 (g 0 13)) 0 14 (-1)) 0 11 0)) ∧ (¬ (((z_up g 0 12 (g 0 13)) 0 10) ≤ (g 0 13)) → ((((Int32.toInt (Int32.ofInt ((z_up g 0 12 (g 0 13)) 6 (g 0 13)) &&& Int32.ofInt 255)) = (-1)) → Q 0 (z_up (z_up (z_up g 0 12 (g 0 13)) 0 14 (Int32.toInt (Int32.ofInt ((z_up g 0 12 (g 0 13)) 6 (g 0 13)) &&& Int32.ofInt 255))) 0 11 0)) ∧ (¬ ((Int32.toInt (Int32.ofInt ((z_up g 0 12 (g 0 13)) 6 (g 0 13)) &&& Int32.ofInt 255)) = (-1)) → ((((Int32.toInt (Int32.ofInt ((z_up g 0 12 (g 0 13)) 6 (g 0 13)) &&& Int32.ofInt 255)) < 97) → ((((Int32.toInt (Int32.ofInt ((z_up g 0 12 (g 0 13)) 6 (g 0 13)) &&& Int32.ofInt 255)) < 48) → ((-2147483648 ≤ ((g 0 13) + 1) ∧ ((g 0 13) + 1) ≤ 2147483647) ∧ ((((Int32.toInt (Int32.ofInt ((z_up g 0 12 (g 0 13)) 6 (g 0 13)) &&& Int32.ofInt 255)) = 59) → Q 0 (z_up (z_up (z_up (z_up g 0 12 (g 0 13)) 0 14 (Int32.toInt (Int32.ofInt ((z_up g 0 12 (g 0 13)) 6 (g 0 13)) &&& Int32.ofInt 255))) 0 13 ((g 0 13) + 1)) 0 11 4)) ∧ (¬ ((Int32.toInt (Int32.ofInt ((z_up g 0 12 (g 0 13)) 6 (g 0 13)) &&& Int32.ofInt 255)) = 59) → ((((Int32.toInt (Int32.ofInt ((z_up g 0 12 (g 0 13)) 6 (g 0 13)) &&& Int32.ofInt 255)) = 60) → Q 0 (z_up (z_up (z_up (z_up g 0 12 (g 0 13)) 0 14 (Int32.toInt (Int32.ofInt ((z_up g 0 12 (g 0 13)) 6 (g 0 13)) &&& Int32.ofInt 255))) 0 13 ((g 0 13) + 1)) 0 11 4)) ∧ (¬ ((Int32.toInt (Int32.ofInt ((z_up g 0 12 (g 0 13)) 6 (g 0 13)) &&& Int32.ofInt 255)) = 60) → ((((Int32.toInt (Int32.ofInt ((z_up g 0 12 (g 0 13)) 6 (g 0 13)) &&& Int32.ofInt 255)) = 62) → Q 0 (z_up (z_up (z_up (z_up g 0 12 (g 0 13)) 0 14 (Int32.toInt (Int32.ofInt ((z_up g 0 12 (g 0 13)) 6 (g 0 13)) &&& Int32.ofInt 255))) 0 13 ((g 0 13) + 1)) 0 11 4)) ∧ (¬ ((Int32.toInt (Int32.ofInt ((z_up g 0 12 (g 0 13)) 6 (g 0 13)) &&& Int32.ofInt 255)) = 62) → ((((Int32.toInt (Int32.ofInt ((z_up g 0 12 (g 0 13)) 6 (g 0 13)) &&& Int32.ofInt 255)) = 61) → Q 0 (z_up (z_up (z_up (z_up g 0 12 (g 0 13)) 0 14 (Int32.toInt (Int32.ofInt ((z_up g 0 12 (g 0 13)) 6 (g 0 13)) &&& Int32.ofInt 255))) 0 13 ((g 0 13) + 1)) 0 11 4)) ∧ (¬ ((Int32.toInt (Int32.ofInt ((z_up g 0 12 (g 0 13)) 6 (g 0 13)) &&& Int32.ofInt 255)) = 61) → Q 0 (z_up (z_up (z_up (z_up g 0 12 (g 0 13)) 0 14 (Int32.toInt (Int32.ofInt ((z_up g 0 12 (g 0 13)) 6 (g 0 13)) &&& Int32.ofInt 255))) 0 13 ((g 0 13) + 1)) 0 11 1))))))))))) ∧ (¬ ((Int32.toInt (Int32.ofInt ((z_up g 0 12 (g 0 13)) 6 (g 0 13)) &&& Int32.ofInt 255)) < 48) → (((57 < (Int32.toInt (Int32.ofInt ((z_up g 0 12 (g 0 13)) 6 (g 0 13)) &&& Int32.ofInt 255))) → ((-2147483648 ≤ ((g 0 13) + 1) ∧ ((g 0 13) + 1) ≤ 2147483647) ∧ ((((Int32.toInt (Int32.ofInt ((z_up g 0 12 (g 0 13)) 6 (g 0 13)) &&& Int32.ofInt 255)) = 59) → Q 0 (z_up (z_up (z_up (z_up g 0 12 (g 0 13)) 0 14 (Int32.toInt (Int32.ofInt ((z_up g 0 12 (g 0 13)) 6 (g 0 13)) &&& Int32.ofInt 255))) 0 13 ((g 0 13) + 1)) 0 11 4)) ∧ (¬ ((Int32.toInt (Int32.ofInt ((z_up g 0 12 (g 0 13)) 6 (g 0 13)) &&& Int32.ofInt 255)) = 59) → ((((Int32.toInt (Int32.ofInt ((z_up g 0 12 (g 0 13)) 6 (g 0 13)) &&& Int32.ofInt 255)) = 60) → Q 0 (z_up (z_up (z_up (z_up g 0 12 (g 0 13)) 0 14 (Int32.toInt (Int32.ofInt ((z_up g 0 12 (g 0 13)) 6 (g 0 13)) &&& Int32.ofInt 255))) 0 13 ((g 0 13) + 1)) 0 11 4)) ∧ (¬ ((Int32.toInt (Int32.ofInt ((z_up g 0 12 (g 0 13)) 6 (g 0 13)) &&& Int32.ofInt 255)) = 60) → ((((Int32.toInt (Int32.ofInt ((z_up g 0 12 (g 0 13)) 6 (g 0 13)) &&& Int32.ofInt 255)) = 62) → Q 0 (z_up (z_up (z_up (z_up g 0 12 (g 0 13)) 0 14 (Int32.toInt (Int32.ofInt ((z_up g 0 12 (g 0 13)) 6 (g 0 13)) &&& Int32.ofInt 255))) 0 13 ((g 0 13) + 1)) 0 11 4)) ∧ (¬ ((Int32.toInt (Int32.ofInt ((z_up g 0 12 (g 0 13)) 6 (g 0 13)) &&& Int32.ofInt 255)) = 62) → ((((Int32.toInt (Int32.ofInt ((z_up g 0 12 (g 0 13)) 6 (g 0 13)) &&& Int32.ofInt 255)) = 61) → Q 0 (z_up (z_up (z_up (z_up g 0 12 (g 0 13)) 0 14 (Int32.toInt (Int32.ofInt ((z_up g 0 12 (g 0 13)) 6 (g 0 13)) &&& Int32.ofInt 255))) 0 13 ((g 0 13) + 1)) 0 11 4)) ∧ (¬ ((Int32.toInt (Int32.ofInt ((z_up g 0 12 (g 0 13)) 6 (g 0 13)) &&& Int32.ofInt 255)) = 61) → Q 0 (z_up (z_up (z_up (z_up g 0 12 (g 0 13)) 0 14 (Int32.toInt (Int32.ofInt ((z_up g 0 12 (g 0 13)) 6 (g 0 13)) &&& Int32.ofInt 255))) 0 13 ((g 0 13) + 1)) 0 11 1))))))))))) ∧ (¬ (57 < (Int32.toInt (Int32.ofInt ((z_up g 0 12 (g 0 13)) 6 (g 0 13)) &&& Int32.ofInt 255))) → L_M_nextToken_128 X N σ (z_up (z_up (z_up g 0 12 (g 0 13)) 0 14 (Int32.toInt (Int32.ofInt ((z_up g 0 12 (g 0 13)) 6 (g 0 13)) &&& Int32.ofInt 255))) 0 14 0) Q))))) ∧ (¬ ((Int32.toInt (Int32.ofInt ((z_up g 0 12 (g 0 13)) 6 (g 0 13)) &&& Int32.ofInt 255)) < 97) → (((122 < (Int32.toInt (Int32.ofInt ((z_up g 0 12 (g 0 13)) 6 (g 0 13)) &&& Int32.ofInt 255))) → ((((Int32.toInt (Int32.ofInt ((z_up g 0 12 (g 0 13)) 6 (g 0 13)) &&& Int32.ofInt 255)) < 48) → ((-2147483648 ≤ ((g 0 13) + 1) ∧ ((g 0 13) + 1) ≤ 2147483647) ∧ ((((Int32.toInt (Int32.ofInt ((z_up g 0 12 (g 0 13)) 6 (g 0 13)) &&& Int32.ofInt 255)) = 59) → Q 0 (z_up (z_up (z_up (z_up g 0 12 (g 0 13)) 0 14 (Int32.toInt (Int32.ofInt ((z_up g 0 12 (g 0 13)) 6 (g 0 13)) &&& Int32.ofInt 255))) 0 13 ((g 0 13) + 1)) 0 11 4)) ∧ (¬ ((Int32.toInt (Int32.ofInt ((z_up g 0 12 (g 0 13)) 6 (g 0 13)) &&& Int32.ofInt 255)) = 59) → ((((Int32.toInt (Int32.ofInt ((z_up g 0 12 (g 0 13)) 6 (g 0 13)) &&& Int32.ofInt 255)) = 60) → Q 0 (z_up (z_up (z_up (z_up g 0 12 (g 0 13)) 0 14 (Int32.toInt (Int32.ofInt ((z_up g 0 12 (g 0 13)) 6 (g 0 13)) &&& Int32.ofInt 255))) 0 13 ((g 0 13) + 1)) 0 11 4)) ∧ (¬ ((Int32.toInt (Int32.ofInt ((z_up g 0 12 (g 0 13)) 6 (g 0 13)) &&& Int32.ofInt 255)) = 60) → ((((Int32.toInt (Int32.ofInt ((z_up g 0 12 (g 0 13)) 6 (g 0 13)) &&& Int32.ofInt 255)) = 62) → Q 0 (z_up (z_up (z_up (z_up g 0 12 (g 0 13)) 0 14 (Int32.toInt (Int32.ofInt ((z_up g 0 12 (g 0 13)) 6 (g 0 13)) &&& Int32.ofInt 255))) 0 13 ((g 0 13) + 1)) 0 11 4)) ∧ (¬ ((Int32.toInt (Int32.ofInt ((z_up g 0 12 (g 0 13)) 6 (g 0 13)) &&& Int32.ofInt 255)) = 62) → ((((Int32.toInt (Int32.ofInt ((z_up g 0 12 (g 0 13)) 6 (g 0 13)) &&& Int32.ofInt 255)) = 61) → Q 0 (z_up (z_up (z_up (z_up g 0 12 (g 0 13)) 0 14 (Int32.toInt (Int32.ofInt ((z_up g 0 12 (g 0 13)) 6 (g 0 13)) &&& Int32.ofInt 255))) 0 13 ((g 0 13) + 1)) 0 11 4)) ∧ (¬ ((Int32.toInt (Int32.ofInt ((z_up g 0 12 (g 0 13)) 6 (g 0 13)) &&& Int32.ofInt 255)) = 61) → Q 0 (z_up (z_up (z_up (z_up g 0 12 (g 0 13)) 0 14 (Int32.toInt (Int32.ofInt ((z_up g 0 12 (g 0 13)) 6 (g 0 13)) &&& Int32.ofInt 255))) 0 13 ((g 0 13) + 1)) 0 11 1))))))))))) ∧ (¬ ((Int32.toInt (Int32.ofInt ((z_up g 0 12 (g 0 13)) 6 (g 0 13)) &&& Int32.ofInt 255)) < 48) → (((57 < (Int32.toInt (Int32.ofInt ((z_up g 0 12 (g 0 13)) 6 (g 0 13)) &&& Int32.ofInt 255))) → ((-2147483648 ≤ ((g 0 13) + 1) ∧ ((g 0 13) + 1) ≤ 2147483647) ∧ ((((Int32.toInt (Int32.ofInt ((z_up g 0 12 (g 0 13)) 6 (g 0 13)) &&& Int32.ofInt 255)) = 59) → Q 0 (z_up (z_up (z_up (z_up g 0 12 (g 0 13)) 0 14 (Int32.toInt (Int32.ofInt ((z_up g 0 12 (g 0 13)) 6 (g 0 13)) &&& Int32.ofInt 255))) 0 13 ((g 0 13) + 1)) 0 11 4)) ∧ (¬ ((Int32.toInt (Int32.ofInt ((z_up g 0 12 (g 0 13)) 6 (g 0 13)) &&& Int32.ofInt 255)) = 59) → ((((Int32.toInt (Int32.ofInt ((z_up g 0 12 (g 0 13)) 6 (g 0 13)) &&& Int32.ofInt 255)) = 60) → Q 0 (z_up (z_up (z_up (z_up g 0 12 (g 0 13)) 0 14 (Int32.toInt (Int32.ofInt ((z_up g 0 12 (g 0 13)) 6 (g 0 13)) &&& Int32.ofInt 255))) 0 13 ((g 0 13) + 1)) 0 11 4)) ∧ (¬ ((Int32.toInt (Int32.ofInt ((z_up g 0 12 (g 0 13)) 6 (g 0 13)) &&& Int32.ofInt 255)) = 60) → ((((Int32.toInt (Int32.ofInt ((z_up g 0 12 (g 0 13)) 6 (g 0 13)) &&& Int32.ofInt 255)) = 62) → Q 0 (z_up (z_up (z_up (z_up g 0 12 (g 0 13)) 0 14 (Int32.toInt (Int32.ofInt ((z_up g 0 12 (g 0 13)) 6 (g 0 13)) &&& Int32.ofInt 255))) 0 13 ((g 0 13) + 1)) 0 11 4)) ∧ (¬ ((Int32.toInt (Int32.ofInt ((z_up g 0 12 (g 0 13)) 6 (g 0 13)) &&& Int32.ofInt 255)) = 62) → ((((Int32.toInt (Int32.ofInt ((z_up g 0 12 (g 0 13)) 6 (g 0 13)) &&& Int32.ofInt 255)) = 61) → Q 0 (z_up (z_up (z_up (z_up g 0 12 (g 0 13)) 0 14 (Int32.toInt (Int32.ofInt ((z_up g 0 12 (g 0 13)) 6 (g 0 13)) &&& Int32.ofInt 255))) 0 13 ((g 0 13) + 1)) 0 11 4)) ∧ (¬ ((Int32.toInt (Int32.ofInt ((z_up g 0 12 (g 0 13)) 6 (g 0 13)) &&& Int32.ofInt 255)) = 61) → Q 0 (z_up (z_up (z_up (z_up g 0 12 (g 0 13)) 0 14 (Int32.toInt (Int32.ofInt ((z_up g 0 12 (g 0 13)) 6 (g 0 13)) &&& Int32.ofInt 255))) 0 13 ((g 0 13) + 1)) 0 11 1))))))))))) ∧ (¬ (57 < (Int32.toInt (Int32.ofInt ((z_up g 0 12 (g 0 13)) 6 (g 0 13)) &&& Int32.ofInt 255))) → L_M_nextToken_128 X N σ (z_up (z_up (z_up g 0 12 (g 0 13)) 0 14 (Int32.toInt (Int32.ofInt ((z_up g 0 12 (g 0 13)) 6 (g 0 13)) &&& Int32.ofInt 255))) 0 14 0) Q))))) ∧ (¬ (122 < (Int32.toInt (Int32.ofInt ((z_up g 0 12 (g 0 13)) 6 (g 0 13)) &&& Int32.ofInt 255))) → L_M_nextToken_81 X N σ (z_up (z_up g 0 12 (g 0 13)) 0 14 (Int32.toInt (Int32.ofInt ((z_up g 0 12 (g 0 13)) 6 (g 0 13)) &&& Int32.ofInt 255))) Q))))))))))))))) : L_M_nextToken_0 X N σ g Q := by
  refine z_aload_n (i := 0) (c := 0) 0 d_M_nextToken_0 rfl rfl rfl ?_
  refine z_aload_n (i := 0) (c := 0) 0 d_M_nextToken_1 rfl rfl rfl ?_
  refine z_geti (c := 0) (kI := 13) d_M_nextToken_2 fd_M_end fl_M_120 (Or.inl rfl) rfl rfl (ks_M_0 hx) (kl_M_0 hx) ?_
  refine z_cV (c := 0) (as := [(0, g 0 13)]) (d' := 1) (st := []) d_M_nextToken_5 mi_M_byteAt ml_M_123 mv_M_byteAt se_M_byteAt rfl rfl rfl rfl (ks_M_0 hx) rfl rfl (kl_M_0 hx) rfl rfl (b_M_byteAt_0 hx ?_)
  refine ⟨fun c1 => ?_, fun c1 => ?_⟩
  · have h := h.1 c1
    intro _
    show z_U X 2 m_M_nextToken 8 [(0, (2, 0))] [(0, (-1))] N σ g Q
    refine z_bipush (n := 32) d_M_nextToken_8 (by decide) (by decide) ?_
    refine z_icmp_eq (tgt := 26) d_M_nextToken_10 (by decide) (fun c => absurd c (by decide)) (fun _ => ?_)
    refine z_aload_n (i := 0) (c := 0) 0 d_M_nextToken_13 rfl rfl rfl ?_
    refine z_aload_n (i := 0) (c := 0) 0 d_M_nextToken_14 rfl rfl rfl ?_
    refine z_geti (c := 0) (kI := 13) d_M_nextToken_15 fd_M_end fl_M_120 (Or.inl rfl) rfl rfl (ks_M_0 hx) (kl_M_0 hx) ?_
    refine z_cV (c := 0) (as := [(0, g 0 13)]) (d' := 1) (st := []) d_M_nextToken_18 mi_M_byteAt ml_M_123 mv_M_byteAt se_M_byteAt rfl rfl rfl rfl (ks_M_0 hx) rfl rfl (kl_M_0 hx) rfl rfl (b_M_byteAt_0 hx ?_)
    refine ⟨fun _ => ?_, fun c => absurd c1 c⟩
    intro _
    show z_U X 2 m_M_nextToken 21 [(0, (2, 0))] [(0, (-1))] N σ g Q
    refine z_bipush (n := 10) d_M_nextToken_21 (by decide) (by decide) ?_
    refine z_icmp_ne (tgt := 39) d_M_nextToken_23 (by decide) (fun _ => ?_) (fun c => absurd c (by decide))
    refine z_aload_n (i := 0) (c := 0) 0 d_M_nextToken_39 rfl rfl rfl ?_
    refine z_aload_n (i := 0) (c := 0) 0 d_M_nextToken_40 rfl rfl rfl ?_
    refine z_geti (c := 0) (kI := 13) d_M_nextToken_41 fd_M_end fl_M_120 (Or.inl rfl) rfl rfl (ks_M_0 hx) (kl_M_0 hx) ?_
    refine z_puti (c := 0) (kI := 12) d_M_nextToken_44 fd_M_from fl_M_126 pf_M_from rfl rfl rfl rfl (ks_M_0 hx) (kl_M_0 hx) ?_
    refine z_aload_n (i := 0) (c := 0) 0 d_M_nextToken_47 rfl rfl rfl ?_
    refine z_aload_n (i := 0) (c := 0) 0 d_M_nextToken_48 rfl rfl rfl ?_
    refine z_geti (c := 0) (kI := 13) d_M_nextToken_49 fd_M_end fl_M_120 (Or.inl rfl) rfl rfl (ks_M_0 hx) (kl_M_0 hx) ?_
    refine z_ti (b := g 0 13) (by simp [z_up]) ?_
    refine z_cV (c := 0) (as := [(0, g 0 13)]) (d' := 1) (st := []) d_M_nextToken_52 mi_M_byteAt ml_M_123 mv_M_byteAt se_M_byteAt rfl rfl rfl rfl (ks_M_0 hx) rfl rfl (kl_M_0 hx) rfl rfl (b_M_byteAt_0 hx ?_)
    refine ⟨fun c2 => ?_, fun c2 => ?_⟩
    · have h := h.1 c2
      intro _
      show z_U X 2 m_M_nextToken 55 [(0, (2, 0))] [(0, (-1))] N σ (z_up g 0 12 (g 0 13)) Q
      refine z_istore_n (i := 1) (ls' := [(1, (0, (-1))), (0, (2, 0))]) d_M_nextToken_55 rfl rfl rfl ?_
      refine z_aload_n (i := 0) (c := 0) 1 d_M_nextToken_56 rfl rfl rfl ?_
      refine z_iload_n (i := 1) 0 d_M_nextToken_57 rfl rfl ?_
      refine z_puti (c := 0) (kI := 14) d_M_nextToken_58 fd_M_value fl_M_129 pf_M_value rfl rfl rfl rfl (ks_M_0 hx) (kl_M_0 hx) ?_
      refine z_iload_n (i := 1) 0 d_M_nextToken_61 rfl rfl ?_
      refine z_iconst (n := (-1)) d_M_nextToken_62 (by decide) ?_
      refine z_icmp_ne (tgt := 74) d_M_nextToken_63 (by decide) (fun c => absurd (by decide) c) (fun _ => ?_)
      refine z_aload_n (i := 0) (c := 0) 1 d_M_nextToken_66 rfl rfl rfl ?_
      refine z_iconst (n := 0) d_M_nextToken_67 (by decide) ?_
      refine z_puti (c := 0) (kI := 11) d_M_nextToken_68 fd_M_token fl_M_132 pf_M_token rfl rfl rfl rfl (ks_M_0 hx) (kl_M_0 hx) ?_
      refine z_goto (tgt := 251) d_M_nextToken_71 (by decide) ?_
      exact z_vret d_M_nextToken_251 rfl (by decide) (by decide) ⟨rfl, rfl, h⟩
    · have h := h.2 c2
      obtain ⟨c3, h⟩ := h
      refine ⟨c3, ?_⟩
      intro _
      show z_U X 2 m_M_nextToken 55 [(0, (2, 0))] [(0, Int32.toInt (Int32.ofInt ((z_up g 0 12 (g 0 13)) 6 (g 0 13)) &&& Int32.ofInt 255))] N σ (z_up g 0 12 (g 0 13)) Q
      refine z_istore_n (i := 1) (ls' := [(1, (0, Int32.toInt (Int32.ofInt ((z_up g 0 12 (g 0 13)) 6 (g 0 13)) &&& Int32.ofInt 255))), (0, (2, 0))]) d_M_nextToken_55 rfl rfl rfl ?_
      refine z_aload_n (i := 0) (c := 0) 1 d_M_nextToken_56 rfl rfl rfl ?_
      refine z_iload_n (i := 1) 0 d_M_nextToken_57 rfl rfl ?_
      refine z_puti (c := 0) (kI := 14) d_M_nextToken_58 fd_M_value fl_M_129 pf_M_value rfl rfl rfl rfl (ks_M_0 hx) (kl_M_0 hx) ?_
      refine z_iload_n (i := 1) 0 d_M_nextToken_61 rfl rfl ?_
      refine z_iconst (n := (-1)) d_M_nextToken_62 (by decide) ?_
      refine z_icmp_ne (tgt := 74) d_M_nextToken_63 (by decide) (fun c4 => ?_) (fun c4 => ?_)
      · have h := h.2 c4
        refine z_iload_n (i := 1) 0 d_M_nextToken_74 rfl rfl ?_
        refine z_cS (as := [(0, Int32.toInt (Int32.ofInt ((z_up g 0 12 (g 0 13)) 6 (g 0 13)) &&& Int32.ofInt 255))]) (d' := 1) (st := []) d_M_nextToken_75 mi_M_isSmall ml_M_135 ms_M_isSmall rfl rfl rfl rfl rfl (b_M_isSmall_0  ?_)
        refine ⟨fun c5 => ?_, fun c5 => ?_⟩
        · have h := h.1 c5
          intro _
          show z_U X 2 m_M_nextToken 78 [(1, (0, Int32.toInt (Int32.ofInt ((z_up g 0 12 (g 0 13)) 6 (g 0 13)) &&& Int32.ofInt 255))), (0, (2, 0))] [(0, 0)] N σ (z_up (z_up g 0 12 (g 0 13)) 0 14 (Int32.toInt (Int32.ofInt ((z_up g 0 12 (g 0 13)) 6 (g 0 13)) &&& Int32.ofInt 255))) Q
          refine z_if_eq (tgt := 116) d_M_nextToken_78 (by decide) (fun _ => ?_) (fun c => absurd (by decide) c)
          refine z_iload_n (i := 1) 0 d_M_nextToken_116 rfl rfl ?_
          refine z_cS (as := [(0, Int32.toInt (Int32.ofInt ((z_up g 0 12 (g 0 13)) 6 (g 0 13)) &&& Int32.ofInt 255))]) (d' := 1) (st := []) d_M_nextToken_117 mi_M_isDigit ml_M_138 ms_M_isDigit rfl rfl rfl rfl rfl (b_M_isDigit_0  ?_)
          refine ⟨fun c6 => ?_, fun c6 => ?_⟩
          · have h := h.1 c6
            intro _
            show z_U X 2 m_M_nextToken 120 [(1, (0, Int32.toInt (Int32.ofInt ((z_up g 0 12 (g 0 13)) 6 (g 0 13)) &&& Int32.ofInt 255))), (0, (2, 0))] [(0, 0)] N σ (z_up (z_up g 0 12 (g 0 13)) 0 14 (Int32.toInt (Int32.ofInt ((z_up g 0 12 (g 0 13)) 6 (g 0 13)) &&& Int32.ofInt 255))) Q
            refine z_if_eq (tgt := 208) d_M_nextToken_120 (by decide) (fun _ => ?_) (fun c => absurd (by decide) c)
            refine z_aload_n (i := 0) (c := 0) 1 d_M_nextToken_208 rfl rfl rfl ?_
            refine z_dup d_M_nextToken_209 rfl ?_
            refine z_geti (c := 0) (kI := 13) d_M_nextToken_210 fd_M_end fl_M_120 (Or.inl rfl) rfl rfl (ks_M_0 hx) (kl_M_0 hx) ?_
            refine z_ti (b := g 0 13) (by simp [z_up]) ?_
            refine z_iconst (n := 1) d_M_nextToken_213 (by decide) ?_
            obtain ⟨c7, h⟩ := h
            refine z_iadd d_M_nextToken_214 c7 ?_
            refine z_puti (c := 0) (kI := 13) d_M_nextToken_215 fd_M_end fl_M_120 pf_M_end rfl rfl rfl rfl (ks_M_0 hx) (kl_M_0 hx) ?_
            refine z_aload_n (i := 0) (c := 0) 1 d_M_nextToken_218 rfl rfl rfl ?_
            refine z_iload_n (i := 1) 0 d_M_nextToken_219 rfl rfl ?_
            refine z_bipush (n := 59) d_M_nextToken_220 (by decide) (by decide) ?_
            refine z_icmp_eq (tgt := 243) d_M_nextToken_222 (by decide) (fun c8 => ?_) (fun c8 => ?_)
            · have h := h.1 c8
              refine z_iconst (n := 4) d_M_nextToken_243 (by decide) ?_
              refine z_goto (tgt := 248) d_M_nextToken_244 (by decide) ?_
              refine z_puti (c := 0) (kI := 11) d_M_nextToken_248 fd_M_token fl_M_132 pf_M_token rfl rfl rfl rfl (ks_M_0 hx) (kl_M_0 hx) ?_
              exact z_vret d_M_nextToken_251 rfl (by decide) (by decide) ⟨rfl, rfl, h⟩
            · have h := h.2 c8
              refine z_iload_n (i := 1) 0 d_M_nextToken_225 rfl rfl ?_
              refine z_bipush (n := 60) d_M_nextToken_226 (by decide) (by decide) ?_
              refine z_icmp_eq (tgt := 243) d_M_nextToken_228 (by decide) (fun c9 => ?_) (fun c9 => ?_)
              · have h := h.1 c9
                refine z_iconst (n := 4) d_M_nextToken_243 (by decide) ?_
                refine z_goto (tgt := 248) d_M_nextToken_244 (by decide) ?_
                refine z_puti (c := 0) (kI := 11) d_M_nextToken_248 fd_M_token fl_M_132 pf_M_token rfl rfl rfl rfl (ks_M_0 hx) (kl_M_0 hx) ?_
                exact z_vret d_M_nextToken_251 rfl (by decide) (by decide) ⟨rfl, rfl, h⟩
              · have h := h.2 c9
                refine z_iload_n (i := 1) 0 d_M_nextToken_231 rfl rfl ?_
                refine z_bipush (n := 62) d_M_nextToken_232 (by decide) (by decide) ?_
                refine z_icmp_eq (tgt := 243) d_M_nextToken_234 (by decide) (fun c10 => ?_) (fun c10 => ?_)
                · have h := h.1 c10
                  refine z_iconst (n := 4) d_M_nextToken_243 (by decide) ?_
                  refine z_goto (tgt := 248) d_M_nextToken_244 (by decide) ?_
                  refine z_puti (c := 0) (kI := 11) d_M_nextToken_248 fd_M_token fl_M_132 pf_M_token rfl rfl rfl rfl (ks_M_0 hx) (kl_M_0 hx) ?_
                  exact z_vret d_M_nextToken_251 rfl (by decide) (by decide) ⟨rfl, rfl, h⟩
                · have h := h.2 c10
                  refine z_iload_n (i := 1) 0 d_M_nextToken_237 rfl rfl ?_
                  refine z_bipush (n := 61) d_M_nextToken_238 (by decide) (by decide) ?_
                  refine z_icmp_ne (tgt := 247) d_M_nextToken_240 (by decide) (fun c11 => ?_) (fun c11 => ?_)
                  · have h := h.2 c11
                    refine z_iconst (n := 1) d_M_nextToken_247 (by decide) ?_
                    refine z_puti (c := 0) (kI := 11) d_M_nextToken_248 fd_M_token fl_M_132 pf_M_token rfl rfl rfl rfl (ks_M_0 hx) (kl_M_0 hx) ?_
                    exact z_vret d_M_nextToken_251 rfl (by decide) (by decide) ⟨rfl, rfl, h⟩
                  · have h := h.1 c11
                    refine z_iconst (n := 4) d_M_nextToken_243 (by decide) ?_
                    refine z_goto (tgt := 248) d_M_nextToken_244 (by decide) ?_
                    refine z_puti (c := 0) (kI := 11) d_M_nextToken_248 fd_M_token fl_M_132 pf_M_token rfl rfl rfl rfl (ks_M_0 hx) (kl_M_0 hx) ?_
                    exact z_vret d_M_nextToken_251 rfl (by decide) (by decide) ⟨rfl, rfl, h⟩
          · have h := h.2 c6
            refine ⟨fun c12 => ?_, fun c12 => ?_⟩
            · have h := h.1 c12
              intro _
              show z_U X 2 m_M_nextToken 120 [(1, (0, Int32.toInt (Int32.ofInt ((z_up g 0 12 (g 0 13)) 6 (g 0 13)) &&& Int32.ofInt 255))), (0, (2, 0))] [(0, 0)] N σ (z_up (z_up g 0 12 (g 0 13)) 0 14 (Int32.toInt (Int32.ofInt ((z_up g 0 12 (g 0 13)) 6 (g 0 13)) &&& Int32.ofInt 255))) Q
              refine z_if_eq (tgt := 208) d_M_nextToken_120 (by decide) (fun _ => ?_) (fun c => absurd (by decide) c)
              refine z_aload_n (i := 0) (c := 0) 1 d_M_nextToken_208 rfl rfl rfl ?_
              refine z_dup d_M_nextToken_209 rfl ?_
              refine z_geti (c := 0) (kI := 13) d_M_nextToken_210 fd_M_end fl_M_120 (Or.inl rfl) rfl rfl (ks_M_0 hx) (kl_M_0 hx) ?_
              refine z_ti (b := g 0 13) (by simp [z_up]) ?_
              refine z_iconst (n := 1) d_M_nextToken_213 (by decide) ?_
              obtain ⟨c13, h⟩ := h
              refine z_iadd d_M_nextToken_214 c13 ?_
              refine z_puti (c := 0) (kI := 13) d_M_nextToken_215 fd_M_end fl_M_120 pf_M_end rfl rfl rfl rfl (ks_M_0 hx) (kl_M_0 hx) ?_
              refine z_aload_n (i := 0) (c := 0) 1 d_M_nextToken_218 rfl rfl rfl ?_
              refine z_iload_n (i := 1) 0 d_M_nextToken_219 rfl rfl ?_
              refine z_bipush (n := 59) d_M_nextToken_220 (by decide) (by decide) ?_
              refine z_icmp_eq (tgt := 243) d_M_nextToken_222 (by decide) (fun c14 => ?_) (fun c14 => ?_)
              · have h := h.1 c14
                refine z_iconst (n := 4) d_M_nextToken_243 (by decide) ?_
                refine z_goto (tgt := 248) d_M_nextToken_244 (by decide) ?_
                refine z_puti (c := 0) (kI := 11) d_M_nextToken_248 fd_M_token fl_M_132 pf_M_token rfl rfl rfl rfl (ks_M_0 hx) (kl_M_0 hx) ?_
                exact z_vret d_M_nextToken_251 rfl (by decide) (by decide) ⟨rfl, rfl, h⟩
              · have h := h.2 c14
                refine z_iload_n (i := 1) 0 d_M_nextToken_225 rfl rfl ?_
                refine z_bipush (n := 60) d_M_nextToken_226 (by decide) (by decide) ?_
                refine z_icmp_eq (tgt := 243) d_M_nextToken_228 (by decide) (fun c15 => ?_) (fun c15 => ?_)
                · have h := h.1 c15
                  refine z_iconst (n := 4) d_M_nextToken_243 (by decide) ?_
                  refine z_goto (tgt := 248) d_M_nextToken_244 (by decide) ?_
                  refine z_puti (c := 0) (kI := 11) d_M_nextToken_248 fd_M_token fl_M_132 pf_M_token rfl rfl rfl rfl (ks_M_0 hx) (kl_M_0 hx) ?_
                  exact z_vret d_M_nextToken_251 rfl (by decide) (by decide) ⟨rfl, rfl, h⟩
                · have h := h.2 c15
                  refine z_iload_n (i := 1) 0 d_M_nextToken_231 rfl rfl ?_
                  refine z_bipush (n := 62) d_M_nextToken_232 (by decide) (by decide) ?_
                  refine z_icmp_eq (tgt := 243) d_M_nextToken_234 (by decide) (fun c16 => ?_) (fun c16 => ?_)
                  · have h := h.1 c16
                    refine z_iconst (n := 4) d_M_nextToken_243 (by decide) ?_
                    refine z_goto (tgt := 248) d_M_nextToken_244 (by decide) ?_
                    refine z_puti (c := 0) (kI := 11) d_M_nextToken_248 fd_M_token fl_M_132 pf_M_token rfl rfl rfl rfl (ks_M_0 hx) (kl_M_0 hx) ?_
                    exact z_vret d_M_nextToken_251 rfl (by decide) (by decide) ⟨rfl, rfl, h⟩
                  · have h := h.2 c16
                    refine z_iload_n (i := 1) 0 d_M_nextToken_237 rfl rfl ?_
                    refine z_bipush (n := 61) d_M_nextToken_238 (by decide) (by decide) ?_
                    refine z_icmp_ne (tgt := 247) d_M_nextToken_240 (by decide) (fun c17 => ?_) (fun c17 => ?_)
                    · have h := h.2 c17
                      refine z_iconst (n := 1) d_M_nextToken_247 (by decide) ?_
                      refine z_puti (c := 0) (kI := 11) d_M_nextToken_248 fd_M_token fl_M_132 pf_M_token rfl rfl rfl rfl (ks_M_0 hx) (kl_M_0 hx) ?_
                      exact z_vret d_M_nextToken_251 rfl (by decide) (by decide) ⟨rfl, rfl, h⟩
                    · have h := h.1 c17
                      refine z_iconst (n := 4) d_M_nextToken_243 (by decide) ?_
                      refine z_goto (tgt := 248) d_M_nextToken_244 (by decide) ?_
                      refine z_puti (c := 0) (kI := 11) d_M_nextToken_248 fd_M_token fl_M_132 pf_M_token rfl rfl rfl rfl (ks_M_0 hx) (kl_M_0 hx) ?_
                      exact z_vret d_M_nextToken_251 rfl (by decide) (by decide) ⟨rfl, rfl, h⟩
            · have h := h.2 c12
              intro _
              show z_U X 2 m_M_nextToken 120 [(1, (0, Int32.toInt (Int32.ofInt ((z_up g 0 12 (g 0 13)) 6 (g 0 13)) &&& Int32.ofInt 255))), (0, (2, 0))] [(0, 1)] N σ (z_up (z_up g 0 12 (g 0 13)) 0 14 (Int32.toInt (Int32.ofInt ((z_up g 0 12 (g 0 13)) 6 (g 0 13)) &&& Int32.ofInt 255))) Q
              refine z_if_eq (tgt := 208) d_M_nextToken_120 (by decide) (fun c => absurd c (by decide)) (fun _ => ?_)
              refine z_aload_n (i := 0) (c := 0) 1 d_M_nextToken_123 rfl rfl rfl ?_
              refine z_iconst (n := 0) d_M_nextToken_124 (by decide) ?_
              refine z_puti (c := 0) (kI := 14) d_M_nextToken_125 fd_M_value fl_M_129 pf_M_value rfl rfl rfl rfl (ks_M_0 hx) (kl_M_0 hx) ?_
              refine z_sub (ls' := [(0, (2, 0))]) [1] rfl ?_
              exact h
        · have h := h.2 c5
          refine ⟨fun c18 => ?_, fun c18 => ?_⟩
          · have h := h.1 c18
            intro _
            show z_U X 2 m_M_nextToken 78 [(1, (0, Int32.toInt (Int32.ofInt ((z_up g 0 12 (g 0 13)) 6 (g 0 13)) &&& Int32.ofInt 255))), (0, (2, 0))] [(0, 0)] N σ (z_up (z_up g 0 12 (g 0 13)) 0 14 (Int32.toInt (Int32.ofInt ((z_up g 0 12 (g 0 13)) 6 (g 0 13)) &&& Int32.ofInt 255))) Q
            refine z_if_eq (tgt := 116) d_M_nextToken_78 (by decide) (fun _ => ?_) (fun c => absurd (by decide) c)
            refine z_iload_n (i := 1) 0 d_M_nextToken_116 rfl rfl ?_
            refine z_cS (as := [(0, Int32.toInt (Int32.ofInt ((z_up g 0 12 (g 0 13)) 6 (g 0 13)) &&& Int32.ofInt 255))]) (d' := 1) (st := []) d_M_nextToken_117 mi_M_isDigit ml_M_138 ms_M_isDigit rfl rfl rfl rfl rfl (b_M_isDigit_0  ?_)
            refine ⟨fun c19 => ?_, fun c19 => ?_⟩
            · have h := h.1 c19
              intro _
              show z_U X 2 m_M_nextToken 120 [(1, (0, Int32.toInt (Int32.ofInt ((z_up g 0 12 (g 0 13)) 6 (g 0 13)) &&& Int32.ofInt 255))), (0, (2, 0))] [(0, 0)] N σ (z_up (z_up g 0 12 (g 0 13)) 0 14 (Int32.toInt (Int32.ofInt ((z_up g 0 12 (g 0 13)) 6 (g 0 13)) &&& Int32.ofInt 255))) Q
              refine z_if_eq (tgt := 208) d_M_nextToken_120 (by decide) (fun _ => ?_) (fun c => absurd (by decide) c)
              refine z_aload_n (i := 0) (c := 0) 1 d_M_nextToken_208 rfl rfl rfl ?_
              refine z_dup d_M_nextToken_209 rfl ?_
              refine z_geti (c := 0) (kI := 13) d_M_nextToken_210 fd_M_end fl_M_120 (Or.inl rfl) rfl rfl (ks_M_0 hx) (kl_M_0 hx) ?_
              refine z_ti (b := g 0 13) (by simp [z_up]) ?_
              refine z_iconst (n := 1) d_M_nextToken_213 (by decide) ?_
              obtain ⟨c20, h⟩ := h
              refine z_iadd d_M_nextToken_214 c20 ?_
              refine z_puti (c := 0) (kI := 13) d_M_nextToken_215 fd_M_end fl_M_120 pf_M_end rfl rfl rfl rfl (ks_M_0 hx) (kl_M_0 hx) ?_
              refine z_aload_n (i := 0) (c := 0) 1 d_M_nextToken_218 rfl rfl rfl ?_
              refine z_iload_n (i := 1) 0 d_M_nextToken_219 rfl rfl ?_
              refine z_bipush (n := 59) d_M_nextToken_220 (by decide) (by decide) ?_
              refine z_icmp_eq (tgt := 243) d_M_nextToken_222 (by decide) (fun c21 => ?_) (fun c21 => ?_)
              · have h := h.1 c21
                refine z_iconst (n := 4) d_M_nextToken_243 (by decide) ?_
                refine z_goto (tgt := 248) d_M_nextToken_244 (by decide) ?_
                refine z_puti (c := 0) (kI := 11) d_M_nextToken_248 fd_M_token fl_M_132 pf_M_token rfl rfl rfl rfl (ks_M_0 hx) (kl_M_0 hx) ?_
                exact z_vret d_M_nextToken_251 rfl (by decide) (by decide) ⟨rfl, rfl, h⟩
              · have h := h.2 c21
                refine z_iload_n (i := 1) 0 d_M_nextToken_225 rfl rfl ?_
                refine z_bipush (n := 60) d_M_nextToken_226 (by decide) (by decide) ?_
                refine z_icmp_eq (tgt := 243) d_M_nextToken_228 (by decide) (fun c22 => ?_) (fun c22 => ?_)
                · have h := h.1 c22
                  refine z_iconst (n := 4) d_M_nextToken_243 (by decide) ?_
                  refine z_goto (tgt := 248) d_M_nextToken_244 (by decide) ?_
                  refine z_puti (c := 0) (kI := 11) d_M_nextToken_248 fd_M_token fl_M_132 pf_M_token rfl rfl rfl rfl (ks_M_0 hx) (kl_M_0 hx) ?_
                  exact z_vret d_M_nextToken_251 rfl (by decide) (by decide) ⟨rfl, rfl, h⟩
                · have h := h.2 c22
                  refine z_iload_n (i := 1) 0 d_M_nextToken_231 rfl rfl ?_
                  refine z_bipush (n := 62) d_M_nextToken_232 (by decide) (by decide) ?_
                  refine z_icmp_eq (tgt := 243) d_M_nextToken_234 (by decide) (fun c23 => ?_) (fun c23 => ?_)
                  · have h := h.1 c23
                    refine z_iconst (n := 4) d_M_nextToken_243 (by decide) ?_
                    refine z_goto (tgt := 248) d_M_nextToken_244 (by decide) ?_
                    refine z_puti (c := 0) (kI := 11) d_M_nextToken_248 fd_M_token fl_M_132 pf_M_token rfl rfl rfl rfl (ks_M_0 hx) (kl_M_0 hx) ?_
                    exact z_vret d_M_nextToken_251 rfl (by decide) (by decide) ⟨rfl, rfl, h⟩
                  · have h := h.2 c23
                    refine z_iload_n (i := 1) 0 d_M_nextToken_237 rfl rfl ?_
                    refine z_bipush (n := 61) d_M_nextToken_238 (by decide) (by decide) ?_
                    refine z_icmp_ne (tgt := 247) d_M_nextToken_240 (by decide) (fun c24 => ?_) (fun c24 => ?_)
                    · have h := h.2 c24
                      refine z_iconst (n := 1) d_M_nextToken_247 (by decide) ?_
                      refine z_puti (c := 0) (kI := 11) d_M_nextToken_248 fd_M_token fl_M_132 pf_M_token rfl rfl rfl rfl (ks_M_0 hx) (kl_M_0 hx) ?_
                      exact z_vret d_M_nextToken_251 rfl (by decide) (by decide) ⟨rfl, rfl, h⟩
                    · have h := h.1 c24
                      refine z_iconst (n := 4) d_M_nextToken_243 (by decide) ?_
                      refine z_goto (tgt := 248) d_M_nextToken_244 (by decide) ?_
                      refine z_puti (c := 0) (kI := 11) d_M_nextToken_248 fd_M_token fl_M_132 pf_M_token rfl rfl rfl rfl (ks_M_0 hx) (kl_M_0 hx) ?_
                      exact z_vret d_M_nextToken_251 rfl (by decide) (by decide) ⟨rfl, rfl, h⟩
            · have h := h.2 c19
              refine ⟨fun c25 => ?_, fun c25 => ?_⟩
              · have h := h.1 c25
                intro _
                show z_U X 2 m_M_nextToken 120 [(1, (0, Int32.toInt (Int32.ofInt ((z_up g 0 12 (g 0 13)) 6 (g 0 13)) &&& Int32.ofInt 255))), (0, (2, 0))] [(0, 0)] N σ (z_up (z_up g 0 12 (g 0 13)) 0 14 (Int32.toInt (Int32.ofInt ((z_up g 0 12 (g 0 13)) 6 (g 0 13)) &&& Int32.ofInt 255))) Q
                refine z_if_eq (tgt := 208) d_M_nextToken_120 (by decide) (fun _ => ?_) (fun c => absurd (by decide) c)
                refine z_aload_n (i := 0) (c := 0) 1 d_M_nextToken_208 rfl rfl rfl ?_
                refine z_dup d_M_nextToken_209 rfl ?_
                refine z_geti (c := 0) (kI := 13) d_M_nextToken_210 fd_M_end fl_M_120 (Or.inl rfl) rfl rfl (ks_M_0 hx) (kl_M_0 hx) ?_
                refine z_ti (b := g 0 13) (by simp [z_up]) ?_
                refine z_iconst (n := 1) d_M_nextToken_213 (by decide) ?_
                obtain ⟨c26, h⟩ := h
                refine z_iadd d_M_nextToken_214 c26 ?_
                refine z_puti (c := 0) (kI := 13) d_M_nextToken_215 fd_M_end fl_M_120 pf_M_end rfl rfl rfl rfl (ks_M_0 hx) (kl_M_0 hx) ?_
                refine z_aload_n (i := 0) (c := 0) 1 d_M_nextToken_218 rfl rfl rfl ?_
                refine z_iload_n (i := 1) 0 d_M_nextToken_219 rfl rfl ?_
                refine z_bipush (n := 59) d_M_nextToken_220 (by decide) (by decide) ?_
                refine z_icmp_eq (tgt := 243) d_M_nextToken_222 (by decide) (fun c27 => ?_) (fun c27 => ?_)
                · have h := h.1 c27
                  refine z_iconst (n := 4) d_M_nextToken_243 (by decide) ?_
                  refine z_goto (tgt := 248) d_M_nextToken_244 (by decide) ?_
                  refine z_puti (c := 0) (kI := 11) d_M_nextToken_248 fd_M_token fl_M_132 pf_M_token rfl rfl rfl rfl (ks_M_0 hx) (kl_M_0 hx) ?_
                  exact z_vret d_M_nextToken_251 rfl (by decide) (by decide) ⟨rfl, rfl, h⟩
                · have h := h.2 c27
                  refine z_iload_n (i := 1) 0 d_M_nextToken_225 rfl rfl ?_
                  refine z_bipush (n := 60) d_M_nextToken_226 (by decide) (by decide) ?_
                  refine z_icmp_eq (tgt := 243) d_M_nextToken_228 (by decide) (fun c28 => ?_) (fun c28 => ?_)
                  · have h := h.1 c28
                    refine z_iconst (n := 4) d_M_nextToken_243 (by decide) ?_
                    refine z_goto (tgt := 248) d_M_nextToken_244 (by decide) ?_
                    refine z_puti (c := 0) (kI := 11) d_M_nextToken_248 fd_M_token fl_M_132 pf_M_token rfl rfl rfl rfl (ks_M_0 hx) (kl_M_0 hx) ?_
                    exact z_vret d_M_nextToken_251 rfl (by decide) (by decide) ⟨rfl, rfl, h⟩
                  · have h := h.2 c28
                    refine z_iload_n (i := 1) 0 d_M_nextToken_231 rfl rfl ?_
                    refine z_bipush (n := 62) d_M_nextToken_232 (by decide) (by decide) ?_
                    refine z_icmp_eq (tgt := 243) d_M_nextToken_234 (by decide) (fun c29 => ?_) (fun c29 => ?_)
                    · have h := h.1 c29
                      refine z_iconst (n := 4) d_M_nextToken_243 (by decide) ?_
                      refine z_goto (tgt := 248) d_M_nextToken_244 (by decide) ?_
                      refine z_puti (c := 0) (kI := 11) d_M_nextToken_248 fd_M_token fl_M_132 pf_M_token rfl rfl rfl rfl (ks_M_0 hx) (kl_M_0 hx) ?_
                      exact z_vret d_M_nextToken_251 rfl (by decide) (by decide) ⟨rfl, rfl, h⟩
                    · have h := h.2 c29
                      refine z_iload_n (i := 1) 0 d_M_nextToken_237 rfl rfl ?_
                      refine z_bipush (n := 61) d_M_nextToken_238 (by decide) (by decide) ?_
                      refine z_icmp_ne (tgt := 247) d_M_nextToken_240 (by decide) (fun c30 => ?_) (fun c30 => ?_)
                      · have h := h.2 c30
                        refine z_iconst (n := 1) d_M_nextToken_247 (by decide) ?_
                        refine z_puti (c := 0) (kI := 11) d_M_nextToken_248 fd_M_token fl_M_132 pf_M_token rfl rfl rfl rfl (ks_M_0 hx) (kl_M_0 hx) ?_
                        exact z_vret d_M_nextToken_251 rfl (by decide) (by decide) ⟨rfl, rfl, h⟩
                      · have h := h.1 c30
                        refine z_iconst (n := 4) d_M_nextToken_243 (by decide) ?_
                        refine z_goto (tgt := 248) d_M_nextToken_244 (by decide) ?_
                        refine z_puti (c := 0) (kI := 11) d_M_nextToken_248 fd_M_token fl_M_132 pf_M_token rfl rfl rfl rfl (ks_M_0 hx) (kl_M_0 hx) ?_
                        exact z_vret d_M_nextToken_251 rfl (by decide) (by decide) ⟨rfl, rfl, h⟩
              · have h := h.2 c25
                intro _
                show z_U X 2 m_M_nextToken 120 [(1, (0, Int32.toInt (Int32.ofInt ((z_up g 0 12 (g 0 13)) 6 (g 0 13)) &&& Int32.ofInt 255))), (0, (2, 0))] [(0, 1)] N σ (z_up (z_up g 0 12 (g 0 13)) 0 14 (Int32.toInt (Int32.ofInt ((z_up g 0 12 (g 0 13)) 6 (g 0 13)) &&& Int32.ofInt 255))) Q
                refine z_if_eq (tgt := 208) d_M_nextToken_120 (by decide) (fun c => absurd c (by decide)) (fun _ => ?_)
                refine z_aload_n (i := 0) (c := 0) 1 d_M_nextToken_123 rfl rfl rfl ?_
                refine z_iconst (n := 0) d_M_nextToken_124 (by decide) ?_
                refine z_puti (c := 0) (kI := 14) d_M_nextToken_125 fd_M_value fl_M_129 pf_M_value rfl rfl rfl rfl (ks_M_0 hx) (kl_M_0 hx) ?_
                refine z_sub (ls' := [(0, (2, 0))]) [1] rfl ?_
                exact h
          · have h := h.2 c18
            intro _
            show z_U X 2 m_M_nextToken 78 [(1, (0, Int32.toInt (Int32.ofInt ((z_up g 0 12 (g 0 13)) 6 (g 0 13)) &&& Int32.ofInt 255))), (0, (2, 0))] [(0, 1)] N σ (z_up (z_up g 0 12 (g 0 13)) 0 14 (Int32.toInt (Int32.ofInt ((z_up g 0 12 (g 0 13)) 6 (g 0 13)) &&& Int32.ofInt 255))) Q
            refine z_if_eq (tgt := 116) d_M_nextToken_78 (by decide) (fun c => absurd c (by decide)) (fun _ => ?_)
            refine z_sub (ls' := [(0, (2, 0))]) [1] rfl ?_
            exact h
      · have h := h.1 c4
        refine z_aload_n (i := 0) (c := 0) 1 d_M_nextToken_66 rfl rfl rfl ?_
        refine z_iconst (n := 0) d_M_nextToken_67 (by decide) ?_
        refine z_puti (c := 0) (kI := 11) d_M_nextToken_68 fd_M_token fl_M_132 pf_M_token rfl rfl rfl rfl (ks_M_0 hx) (kl_M_0 hx) ?_
        refine z_goto (tgt := 251) d_M_nextToken_71 (by decide) ?_
        exact z_vret d_M_nextToken_251 rfl (by decide) (by decide) ⟨rfl, rfl, h⟩
  · have h := h.2 c1
    obtain ⟨c31, h⟩ := h
    refine ⟨c31, ?_⟩
    intro _
    show z_U X 2 m_M_nextToken 8 [(0, (2, 0))] [(0, Int32.toInt (Int32.ofInt (g 6 (g 0 13)) &&& Int32.ofInt 255))] N σ g Q
    refine z_bipush (n := 32) d_M_nextToken_8 (by decide) (by decide) ?_
    refine z_icmp_eq (tgt := 26) d_M_nextToken_10 (by decide) (fun c32 => ?_) (fun c32 => ?_)
    · have h := h.1 c32
      refine z_aload_n (i := 0) (c := 0) 0 d_M_nextToken_26 rfl rfl rfl ?_
      refine z_dup d_M_nextToken_27 rfl ?_
      refine z_geti (c := 0) (kI := 13) d_M_nextToken_28 fd_M_end fl_M_120 (Or.inl rfl) rfl rfl (ks_M_0 hx) (kl_M_0 hx) ?_
      refine z_iconst (n := 1) d_M_nextToken_31 (by decide) ?_
      obtain ⟨c33, h⟩ := h
      refine z_iadd d_M_nextToken_32 c33 ?_
      refine z_puti (c := 0) (kI := 13) d_M_nextToken_33 fd_M_end fl_M_120 pf_M_end rfl rfl rfl rfl (ks_M_0 hx) (kl_M_0 hx) ?_
      refine z_goto (tgt := 0) d_M_nextToken_36 (by decide) ?_
      refine z_sub (ls' := [(0, (2, 0))]) [0] rfl ?_
      exact h
    · have h := h.2 c32
      refine z_aload_n (i := 0) (c := 0) 0 d_M_nextToken_13 rfl rfl rfl ?_
      refine z_aload_n (i := 0) (c := 0) 0 d_M_nextToken_14 rfl rfl rfl ?_
      refine z_geti (c := 0) (kI := 13) d_M_nextToken_15 fd_M_end fl_M_120 (Or.inl rfl) rfl rfl (ks_M_0 hx) (kl_M_0 hx) ?_
      refine z_cV (c := 0) (as := [(0, g 0 13)]) (d' := 1) (st := []) d_M_nextToken_18 mi_M_byteAt ml_M_123 mv_M_byteAt se_M_byteAt rfl rfl rfl rfl (ks_M_0 hx) rfl rfl (kl_M_0 hx) rfl rfl (b_M_byteAt_0 hx ?_)
      refine ⟨fun c => absurd c c1, fun _ => ?_⟩
      refine ⟨c31, ?_⟩
      intro _
      show z_U X 2 m_M_nextToken 21 [(0, (2, 0))] [(0, Int32.toInt (Int32.ofInt (g 6 (g 0 13)) &&& Int32.ofInt 255))] N σ g Q
      refine z_bipush (n := 10) d_M_nextToken_21 (by decide) (by decide) ?_
      refine z_icmp_ne (tgt := 39) d_M_nextToken_23 (by decide) (fun c34 => ?_) (fun c34 => ?_)
      · have h := h.2 c34
        refine z_aload_n (i := 0) (c := 0) 0 d_M_nextToken_39 rfl rfl rfl ?_
        refine z_aload_n (i := 0) (c := 0) 0 d_M_nextToken_40 rfl rfl rfl ?_
        refine z_geti (c := 0) (kI := 13) d_M_nextToken_41 fd_M_end fl_M_120 (Or.inl rfl) rfl rfl (ks_M_0 hx) (kl_M_0 hx) ?_
        refine z_puti (c := 0) (kI := 12) d_M_nextToken_44 fd_M_from fl_M_126 pf_M_from rfl rfl rfl rfl (ks_M_0 hx) (kl_M_0 hx) ?_
        refine z_aload_n (i := 0) (c := 0) 0 d_M_nextToken_47 rfl rfl rfl ?_
        refine z_aload_n (i := 0) (c := 0) 0 d_M_nextToken_48 rfl rfl rfl ?_
        refine z_geti (c := 0) (kI := 13) d_M_nextToken_49 fd_M_end fl_M_120 (Or.inl rfl) rfl rfl (ks_M_0 hx) (kl_M_0 hx) ?_
        refine z_ti (b := g 0 13) (by simp [z_up]) ?_
        refine z_cV (c := 0) (as := [(0, g 0 13)]) (d' := 1) (st := []) d_M_nextToken_52 mi_M_byteAt ml_M_123 mv_M_byteAt se_M_byteAt rfl rfl rfl rfl (ks_M_0 hx) rfl rfl (kl_M_0 hx) rfl rfl (b_M_byteAt_0 hx ?_)
        refine ⟨fun c35 => ?_, fun c35 => ?_⟩
        · have h := h.1 c35
          intro _
          show z_U X 2 m_M_nextToken 55 [(0, (2, 0))] [(0, (-1))] N σ (z_up g 0 12 (g 0 13)) Q
          refine z_istore_n (i := 1) (ls' := [(1, (0, (-1))), (0, (2, 0))]) d_M_nextToken_55 rfl rfl rfl ?_
          refine z_aload_n (i := 0) (c := 0) 1 d_M_nextToken_56 rfl rfl rfl ?_
          refine z_iload_n (i := 1) 0 d_M_nextToken_57 rfl rfl ?_
          refine z_puti (c := 0) (kI := 14) d_M_nextToken_58 fd_M_value fl_M_129 pf_M_value rfl rfl rfl rfl (ks_M_0 hx) (kl_M_0 hx) ?_
          refine z_iload_n (i := 1) 0 d_M_nextToken_61 rfl rfl ?_
          refine z_iconst (n := (-1)) d_M_nextToken_62 (by decide) ?_
          refine z_icmp_ne (tgt := 74) d_M_nextToken_63 (by decide) (fun c => absurd (by decide) c) (fun _ => ?_)
          refine z_aload_n (i := 0) (c := 0) 1 d_M_nextToken_66 rfl rfl rfl ?_
          refine z_iconst (n := 0) d_M_nextToken_67 (by decide) ?_
          refine z_puti (c := 0) (kI := 11) d_M_nextToken_68 fd_M_token fl_M_132 pf_M_token rfl rfl rfl rfl (ks_M_0 hx) (kl_M_0 hx) ?_
          refine z_goto (tgt := 251) d_M_nextToken_71 (by decide) ?_
          exact z_vret d_M_nextToken_251 rfl (by decide) (by decide) ⟨rfl, rfl, h⟩
        · have h := h.2 c35
          refine ⟨c31, ?_⟩
          intro _
          show z_U X 2 m_M_nextToken 55 [(0, (2, 0))] [(0, Int32.toInt (Int32.ofInt ((z_up g 0 12 (g 0 13)) 6 (g 0 13)) &&& Int32.ofInt 255))] N σ (z_up g 0 12 (g 0 13)) Q
          refine z_istore_n (i := 1) (ls' := [(1, (0, Int32.toInt (Int32.ofInt ((z_up g 0 12 (g 0 13)) 6 (g 0 13)) &&& Int32.ofInt 255))), (0, (2, 0))]) d_M_nextToken_55 rfl rfl rfl ?_
          refine z_aload_n (i := 0) (c := 0) 1 d_M_nextToken_56 rfl rfl rfl ?_
          refine z_iload_n (i := 1) 0 d_M_nextToken_57 rfl rfl ?_
          refine z_puti (c := 0) (kI := 14) d_M_nextToken_58 fd_M_value fl_M_129 pf_M_value rfl rfl rfl rfl (ks_M_0 hx) (kl_M_0 hx) ?_
          refine z_iload_n (i := 1) 0 d_M_nextToken_61 rfl rfl ?_
          refine z_iconst (n := (-1)) d_M_nextToken_62 (by decide) ?_
          refine z_icmp_ne (tgt := 74) d_M_nextToken_63 (by decide) (fun c36 => ?_) (fun c36 => ?_)
          · have h := h.2 c36
            refine z_iload_n (i := 1) 0 d_M_nextToken_74 rfl rfl ?_
            refine z_cS (as := [(0, Int32.toInt (Int32.ofInt ((z_up g 0 12 (g 0 13)) 6 (g 0 13)) &&& Int32.ofInt 255))]) (d' := 1) (st := []) d_M_nextToken_75 mi_M_isSmall ml_M_135 ms_M_isSmall rfl rfl rfl rfl rfl (b_M_isSmall_0  ?_)
            refine ⟨fun c37 => ?_, fun c37 => ?_⟩
            · have h := h.1 c37
              intro _
              show z_U X 2 m_M_nextToken 78 [(1, (0, Int32.toInt (Int32.ofInt ((z_up g 0 12 (g 0 13)) 6 (g 0 13)) &&& Int32.ofInt 255))), (0, (2, 0))] [(0, 0)] N σ (z_up (z_up g 0 12 (g 0 13)) 0 14 (Int32.toInt (Int32.ofInt ((z_up g 0 12 (g 0 13)) 6 (g 0 13)) &&& Int32.ofInt 255))) Q
              refine z_if_eq (tgt := 116) d_M_nextToken_78 (by decide) (fun _ => ?_) (fun c => absurd (by decide) c)
              refine z_iload_n (i := 1) 0 d_M_nextToken_116 rfl rfl ?_
              refine z_cS (as := [(0, Int32.toInt (Int32.ofInt ((z_up g 0 12 (g 0 13)) 6 (g 0 13)) &&& Int32.ofInt 255))]) (d' := 1) (st := []) d_M_nextToken_117 mi_M_isDigit ml_M_138 ms_M_isDigit rfl rfl rfl rfl rfl (b_M_isDigit_0  ?_)
              refine ⟨fun c38 => ?_, fun c38 => ?_⟩
              · have h := h.1 c38
                intro _
                show z_U X 2 m_M_nextToken 120 [(1, (0, Int32.toInt (Int32.ofInt ((z_up g 0 12 (g 0 13)) 6 (g 0 13)) &&& Int32.ofInt 255))), (0, (2, 0))] [(0, 0)] N σ (z_up (z_up g 0 12 (g 0 13)) 0 14 (Int32.toInt (Int32.ofInt ((z_up g 0 12 (g 0 13)) 6 (g 0 13)) &&& Int32.ofInt 255))) Q
                refine z_if_eq (tgt := 208) d_M_nextToken_120 (by decide) (fun _ => ?_) (fun c => absurd (by decide) c)
                refine z_aload_n (i := 0) (c := 0) 1 d_M_nextToken_208 rfl rfl rfl ?_
                refine z_dup d_M_nextToken_209 rfl ?_
                refine z_geti (c := 0) (kI := 13) d_M_nextToken_210 fd_M_end fl_M_120 (Or.inl rfl) rfl rfl (ks_M_0 hx) (kl_M_0 hx) ?_
                refine z_ti (b := g 0 13) (by simp [z_up]) ?_
                refine z_iconst (n := 1) d_M_nextToken_213 (by decide) ?_
                obtain ⟨c39, h⟩ := h
                refine z_iadd d_M_nextToken_214 c39 ?_
                refine z_puti (c := 0) (kI := 13) d_M_nextToken_215 fd_M_end fl_M_120 pf_M_end rfl rfl rfl rfl (ks_M_0 hx) (kl_M_0 hx) ?_
                refine z_aload_n (i := 0) (c := 0) 1 d_M_nextToken_218 rfl rfl rfl ?_
                refine z_iload_n (i := 1) 0 d_M_nextToken_219 rfl rfl ?_
                refine z_bipush (n := 59) d_M_nextToken_220 (by decide) (by decide) ?_
                refine z_icmp_eq (tgt := 243) d_M_nextToken_222 (by decide) (fun c40 => ?_) (fun c40 => ?_)
                · have h := h.1 c40
                  refine z_iconst (n := 4) d_M_nextToken_243 (by decide) ?_
                  refine z_goto (tgt := 248) d_M_nextToken_244 (by decide) ?_
                  refine z_puti (c := 0) (kI := 11) d_M_nextToken_248 fd_M_token fl_M_132 pf_M_token rfl rfl rfl rfl (ks_M_0 hx) (kl_M_0 hx) ?_
                  exact z_vret d_M_nextToken_251 rfl (by decide) (by decide) ⟨rfl, rfl, h⟩
                · have h := h.2 c40
                  refine z_iload_n (i := 1) 0 d_M_nextToken_225 rfl rfl ?_
                  refine z_bipush (n := 60) d_M_nextToken_226 (by decide) (by decide) ?_
                  refine z_icmp_eq (tgt := 243) d_M_nextToken_228 (by decide) (fun c41 => ?_) (fun c41 => ?_)
                  · have h := h.1 c41
                    refine z_iconst (n := 4) d_M_nextToken_243 (by decide) ?_
                    refine z_goto (tgt := 248) d_M_nextToken_244 (by decide) ?_
                    refine z_puti (c := 0) (kI := 11) d_M_nextToken_248 fd_M_token fl_M_132 pf_M_token rfl rfl rfl rfl (ks_M_0 hx) (kl_M_0 hx) ?_
                    exact z_vret d_M_nextToken_251 rfl (by decide) (by decide) ⟨rfl, rfl, h⟩
                  · have h := h.2 c41
                    refine z_iload_n (i := 1) 0 d_M_nextToken_231 rfl rfl ?_
                    refine z_bipush (n := 62) d_M_nextToken_232 (by decide) (by decide) ?_
                    refine z_icmp_eq (tgt := 243) d_M_nextToken_234 (by decide) (fun c42 => ?_) (fun c42 => ?_)
                    · have h := h.1 c42
                      refine z_iconst (n := 4) d_M_nextToken_243 (by decide) ?_
                      refine z_goto (tgt := 248) d_M_nextToken_244 (by decide) ?_
                      refine z_puti (c := 0) (kI := 11) d_M_nextToken_248 fd_M_token fl_M_132 pf_M_token rfl rfl rfl rfl (ks_M_0 hx) (kl_M_0 hx) ?_
                      exact z_vret d_M_nextToken_251 rfl (by decide) (by decide) ⟨rfl, rfl, h⟩
                    · have h := h.2 c42
                      refine z_iload_n (i := 1) 0 d_M_nextToken_237 rfl rfl ?_
                      refine z_bipush (n := 61) d_M_nextToken_238 (by decide) (by decide) ?_
                      refine z_icmp_ne (tgt := 247) d_M_nextToken_240 (by decide) (fun c43 => ?_) (fun c43 => ?_)
                      · have h := h.2 c43
                        refine z_iconst (n := 1) d_M_nextToken_247 (by decide) ?_
                        refine z_puti (c := 0) (kI := 11) d_M_nextToken_248 fd_M_token fl_M_132 pf_M_token rfl rfl rfl rfl (ks_M_0 hx) (kl_M_0 hx) ?_
                        exact z_vret d_M_nextToken_251 rfl (by decide) (by decide) ⟨rfl, rfl, h⟩
                      · have h := h.1 c43
                        refine z_iconst (n := 4) d_M_nextToken_243 (by decide) ?_
                        refine z_goto (tgt := 248) d_M_nextToken_244 (by decide) ?_
                        refine z_puti (c := 0) (kI := 11) d_M_nextToken_248 fd_M_token fl_M_132 pf_M_token rfl rfl rfl rfl (ks_M_0 hx) (kl_M_0 hx) ?_
                        exact z_vret d_M_nextToken_251 rfl (by decide) (by decide) ⟨rfl, rfl, h⟩
              · have h := h.2 c38
                refine ⟨fun c44 => ?_, fun c44 => ?_⟩
                · have h := h.1 c44
                  intro _
                  show z_U X 2 m_M_nextToken 120 [(1, (0, Int32.toInt (Int32.ofInt ((z_up g 0 12 (g 0 13)) 6 (g 0 13)) &&& Int32.ofInt 255))), (0, (2, 0))] [(0, 0)] N σ (z_up (z_up g 0 12 (g 0 13)) 0 14 (Int32.toInt (Int32.ofInt ((z_up g 0 12 (g 0 13)) 6 (g 0 13)) &&& Int32.ofInt 255))) Q
                  refine z_if_eq (tgt := 208) d_M_nextToken_120 (by decide) (fun _ => ?_) (fun c => absurd (by decide) c)
                  refine z_aload_n (i := 0) (c := 0) 1 d_M_nextToken_208 rfl rfl rfl ?_
                  refine z_dup d_M_nextToken_209 rfl ?_
                  refine z_geti (c := 0) (kI := 13) d_M_nextToken_210 fd_M_end fl_M_120 (Or.inl rfl) rfl rfl (ks_M_0 hx) (kl_M_0 hx) ?_
                  refine z_ti (b := g 0 13) (by simp [z_up]) ?_
                  refine z_iconst (n := 1) d_M_nextToken_213 (by decide) ?_
                  obtain ⟨c45, h⟩ := h
                  refine z_iadd d_M_nextToken_214 c45 ?_
                  refine z_puti (c := 0) (kI := 13) d_M_nextToken_215 fd_M_end fl_M_120 pf_M_end rfl rfl rfl rfl (ks_M_0 hx) (kl_M_0 hx) ?_
                  refine z_aload_n (i := 0) (c := 0) 1 d_M_nextToken_218 rfl rfl rfl ?_
                  refine z_iload_n (i := 1) 0 d_M_nextToken_219 rfl rfl ?_
                  refine z_bipush (n := 59) d_M_nextToken_220 (by decide) (by decide) ?_
                  refine z_icmp_eq (tgt := 243) d_M_nextToken_222 (by decide) (fun c46 => ?_) (fun c46 => ?_)
                  · have h := h.1 c46
                    refine z_iconst (n := 4) d_M_nextToken_243 (by decide) ?_
                    refine z_goto (tgt := 248) d_M_nextToken_244 (by decide) ?_
                    refine z_puti (c := 0) (kI := 11) d_M_nextToken_248 fd_M_token fl_M_132 pf_M_token rfl rfl rfl rfl (ks_M_0 hx) (kl_M_0 hx) ?_
                    exact z_vret d_M_nextToken_251 rfl (by decide) (by decide) ⟨rfl, rfl, h⟩
                  · have h := h.2 c46
                    refine z_iload_n (i := 1) 0 d_M_nextToken_225 rfl rfl ?_
                    refine z_bipush (n := 60) d_M_nextToken_226 (by decide) (by decide) ?_
                    refine z_icmp_eq (tgt := 243) d_M_nextToken_228 (by decide) (fun c47 => ?_) (fun c47 => ?_)
                    · have h := h.1 c47
                      refine z_iconst (n := 4) d_M_nextToken_243 (by decide) ?_
                      refine z_goto (tgt := 248) d_M_nextToken_244 (by decide) ?_
                      refine z_puti (c := 0) (kI := 11) d_M_nextToken_248 fd_M_token fl_M_132 pf_M_token rfl rfl rfl rfl (ks_M_0 hx) (kl_M_0 hx) ?_
                      exact z_vret d_M_nextToken_251 rfl (by decide) (by decide) ⟨rfl, rfl, h⟩
                    · have h := h.2 c47
                      refine z_iload_n (i := 1) 0 d_M_nextToken_231 rfl rfl ?_
                      refine z_bipush (n := 62) d_M_nextToken_232 (by decide) (by decide) ?_
                      refine z_icmp_eq (tgt := 243) d_M_nextToken_234 (by decide) (fun c48 => ?_) (fun c48 => ?_)
                      · have h := h.1 c48
                        refine z_iconst (n := 4) d_M_nextToken_243 (by decide) ?_
                        refine z_goto (tgt := 248) d_M_nextToken_244 (by decide) ?_
                        refine z_puti (c := 0) (kI := 11) d_M_nextToken_248 fd_M_token fl_M_132 pf_M_token rfl rfl rfl rfl (ks_M_0 hx) (kl_M_0 hx) ?_
                        exact z_vret d_M_nextToken_251 rfl (by decide) (by decide) ⟨rfl, rfl, h⟩
                      · have h := h.2 c48
                        refine z_iload_n (i := 1) 0 d_M_nextToken_237 rfl rfl ?_
                        refine z_bipush (n := 61) d_M_nextToken_238 (by decide) (by decide) ?_
                        refine z_icmp_ne (tgt := 247) d_M_nextToken_240 (by decide) (fun c49 => ?_) (fun c49 => ?_)
                        · have h := h.2 c49
                          refine z_iconst (n := 1) d_M_nextToken_247 (by decide) ?_
                          refine z_puti (c := 0) (kI := 11) d_M_nextToken_248 fd_M_token fl_M_132 pf_M_token rfl rfl rfl rfl (ks_M_0 hx) (kl_M_0 hx) ?_
                          exact z_vret d_M_nextToken_251 rfl (by decide) (by decide) ⟨rfl, rfl, h⟩
                        · have h := h.1 c49
                          refine z_iconst (n := 4) d_M_nextToken_243 (by decide) ?_
                          refine z_goto (tgt := 248) d_M_nextToken_244 (by decide) ?_
                          refine z_puti (c := 0) (kI := 11) d_M_nextToken_248 fd_M_token fl_M_132 pf_M_token rfl rfl rfl rfl (ks_M_0 hx) (kl_M_0 hx) ?_
                          exact z_vret d_M_nextToken_251 rfl (by decide) (by decide) ⟨rfl, rfl, h⟩
                · have h := h.2 c44
                  intro _
                  show z_U X 2 m_M_nextToken 120 [(1, (0, Int32.toInt (Int32.ofInt ((z_up g 0 12 (g 0 13)) 6 (g 0 13)) &&& Int32.ofInt 255))), (0, (2, 0))] [(0, 1)] N σ (z_up (z_up g 0 12 (g 0 13)) 0 14 (Int32.toInt (Int32.ofInt ((z_up g 0 12 (g 0 13)) 6 (g 0 13)) &&& Int32.ofInt 255))) Q
                  refine z_if_eq (tgt := 208) d_M_nextToken_120 (by decide) (fun c => absurd c (by decide)) (fun _ => ?_)
                  refine z_aload_n (i := 0) (c := 0) 1 d_M_nextToken_123 rfl rfl rfl ?_
                  refine z_iconst (n := 0) d_M_nextToken_124 (by decide) ?_
                  refine z_puti (c := 0) (kI := 14) d_M_nextToken_125 fd_M_value fl_M_129 pf_M_value rfl rfl rfl rfl (ks_M_0 hx) (kl_M_0 hx) ?_
                  refine z_sub (ls' := [(0, (2, 0))]) [1] rfl ?_
                  exact h
            · have h := h.2 c37
              refine ⟨fun c50 => ?_, fun c50 => ?_⟩
              · have h := h.1 c50
                intro _
                show z_U X 2 m_M_nextToken 78 [(1, (0, Int32.toInt (Int32.ofInt ((z_up g 0 12 (g 0 13)) 6 (g 0 13)) &&& Int32.ofInt 255))), (0, (2, 0))] [(0, 0)] N σ (z_up (z_up g 0 12 (g 0 13)) 0 14 (Int32.toInt (Int32.ofInt ((z_up g 0 12 (g 0 13)) 6 (g 0 13)) &&& Int32.ofInt 255))) Q
                refine z_if_eq (tgt := 116) d_M_nextToken_78 (by decide) (fun _ => ?_) (fun c => absurd (by decide) c)
                refine z_iload_n (i := 1) 0 d_M_nextToken_116 rfl rfl ?_
                refine z_cS (as := [(0, Int32.toInt (Int32.ofInt ((z_up g 0 12 (g 0 13)) 6 (g 0 13)) &&& Int32.ofInt 255))]) (d' := 1) (st := []) d_M_nextToken_117 mi_M_isDigit ml_M_138 ms_M_isDigit rfl rfl rfl rfl rfl (b_M_isDigit_0  ?_)
                refine ⟨fun c51 => ?_, fun c51 => ?_⟩
                · have h := h.1 c51
                  intro _
                  show z_U X 2 m_M_nextToken 120 [(1, (0, Int32.toInt (Int32.ofInt ((z_up g 0 12 (g 0 13)) 6 (g 0 13)) &&& Int32.ofInt 255))), (0, (2, 0))] [(0, 0)] N σ (z_up (z_up g 0 12 (g 0 13)) 0 14 (Int32.toInt (Int32.ofInt ((z_up g 0 12 (g 0 13)) 6 (g 0 13)) &&& Int32.ofInt 255))) Q
                  refine z_if_eq (tgt := 208) d_M_nextToken_120 (by decide) (fun _ => ?_) (fun c => absurd (by decide) c)
                  refine z_aload_n (i := 0) (c := 0) 1 d_M_nextToken_208 rfl rfl rfl ?_
                  refine z_dup d_M_nextToken_209 rfl ?_
                  refine z_geti (c := 0) (kI := 13) d_M_nextToken_210 fd_M_end fl_M_120 (Or.inl rfl) rfl rfl (ks_M_0 hx) (kl_M_0 hx) ?_
                  refine z_ti (b := g 0 13) (by simp [z_up]) ?_
                  refine z_iconst (n := 1) d_M_nextToken_213 (by decide) ?_
                  obtain ⟨c52, h⟩ := h
                  refine z_iadd d_M_nextToken_214 c52 ?_
                  refine z_puti (c := 0) (kI := 13) d_M_nextToken_215 fd_M_end fl_M_120 pf_M_end rfl rfl rfl rfl (ks_M_0 hx) (kl_M_0 hx) ?_
                  refine z_aload_n (i := 0) (c := 0) 1 d_M_nextToken_218 rfl rfl rfl ?_
                  refine z_iload_n (i := 1) 0 d_M_nextToken_219 rfl rfl ?_
                  refine z_bipush (n := 59) d_M_nextToken_220 (by decide) (by decide) ?_
                  refine z_icmp_eq (tgt := 243) d_M_nextToken_222 (by decide) (fun c53 => ?_) (fun c53 => ?_)
                  · have h := h.1 c53
                    refine z_iconst (n := 4) d_M_nextToken_243 (by decide) ?_
                    refine z_goto (tgt := 248) d_M_nextToken_244 (by decide) ?_
                    refine z_puti (c := 0) (kI := 11) d_M_nextToken_248 fd_M_token fl_M_132 pf_M_token rfl rfl rfl rfl (ks_M_0 hx) (kl_M_0 hx) ?_
                    exact z_vret d_M_nextToken_251 rfl (by decide) (by decide) ⟨rfl, rfl, h⟩
                  · have h := h.2 c53
                    refine z_iload_n (i := 1) 0 d_M_nextToken_225 rfl rfl ?_
                    refine z_bipush (n := 60) d_M_nextToken_226 (by decide) (by decide) ?_
                    refine z_icmp_eq (tgt := 243) d_M_nextToken_228 (by decide) (fun c54 => ?_) (fun c54 => ?_)
                    · have h := h.1 c54
                      refine z_iconst (n := 4) d_M_nextToken_243 (by decide) ?_
                      refine z_goto (tgt := 248) d_M_nextToken_244 (by decide) ?_
                      refine z_puti (c := 0) (kI := 11) d_M_nextToken_248 fd_M_token fl_M_132 pf_M_token rfl rfl rfl rfl (ks_M_0 hx) (kl_M_0 hx) ?_
                      exact z_vret d_M_nextToken_251 rfl (by decide) (by decide) ⟨rfl, rfl, h⟩
                    · have h := h.2 c54
                      refine z_iload_n (i := 1) 0 d_M_nextToken_231 rfl rfl ?_
                      refine z_bipush (n := 62) d_M_nextToken_232 (by decide) (by decide) ?_
                      refine z_icmp_eq (tgt := 243) d_M_nextToken_234 (by decide) (fun c55 => ?_) (fun c55 => ?_)
                      · have h := h.1 c55
                        refine z_iconst (n := 4) d_M_nextToken_243 (by decide) ?_
                        refine z_goto (tgt := 248) d_M_nextToken_244 (by decide) ?_
                        refine z_puti (c := 0) (kI := 11) d_M_nextToken_248 fd_M_token fl_M_132 pf_M_token rfl rfl rfl rfl (ks_M_0 hx) (kl_M_0 hx) ?_
                        exact z_vret d_M_nextToken_251 rfl (by decide) (by decide) ⟨rfl, rfl, h⟩
                      · have h := h.2 c55
                        refine z_iload_n (i := 1) 0 d_M_nextToken_237 rfl rfl ?_
                        refine z_bipush (n := 61) d_M_nextToken_238 (by decide) (by decide) ?_
                        refine z_icmp_ne (tgt := 247) d_M_nextToken_240 (by decide) (fun c56 => ?_) (fun c56 => ?_)
                        · have h := h.2 c56
                          refine z_iconst (n := 1) d_M_nextToken_247 (by decide) ?_
                          refine z_puti (c := 0) (kI := 11) d_M_nextToken_248 fd_M_token fl_M_132 pf_M_token rfl rfl rfl rfl (ks_M_0 hx) (kl_M_0 hx) ?_
                          exact z_vret d_M_nextToken_251 rfl (by decide) (by decide) ⟨rfl, rfl, h⟩
                        · have h := h.1 c56
                          refine z_iconst (n := 4) d_M_nextToken_243 (by decide) ?_
                          refine z_goto (tgt := 248) d_M_nextToken_244 (by decide) ?_
                          refine z_puti (c := 0) (kI := 11) d_M_nextToken_248 fd_M_token fl_M_132 pf_M_token rfl rfl rfl rfl (ks_M_0 hx) (kl_M_0 hx) ?_
                          exact z_vret d_M_nextToken_251 rfl (by decide) (by decide) ⟨rfl, rfl, h⟩
                · have h := h.2 c51
                  refine ⟨fun c57 => ?_, fun c57 => ?_⟩
                  · have h := h.1 c57
                    intro _
                    show z_U X 2 m_M_nextToken 120 [(1, (0, Int32.toInt (Int32.ofInt ((z_up g 0 12 (g 0 13)) 6 (g 0 13)) &&& Int32.ofInt 255))), (0, (2, 0))] [(0, 0)] N σ (z_up (z_up g 0 12 (g 0 13)) 0 14 (Int32.toInt (Int32.ofInt ((z_up g 0 12 (g 0 13)) 6 (g 0 13)) &&& Int32.ofInt 255))) Q
                    refine z_if_eq (tgt := 208) d_M_nextToken_120 (by decide) (fun _ => ?_) (fun c => absurd (by decide) c)
                    refine z_aload_n (i := 0) (c := 0) 1 d_M_nextToken_208 rfl rfl rfl ?_
                    refine z_dup d_M_nextToken_209 rfl ?_
                    refine z_geti (c := 0) (kI := 13) d_M_nextToken_210 fd_M_end fl_M_120 (Or.inl rfl) rfl rfl (ks_M_0 hx) (kl_M_0 hx) ?_
                    refine z_ti (b := g 0 13) (by simp [z_up]) ?_
                    refine z_iconst (n := 1) d_M_nextToken_213 (by decide) ?_
                    obtain ⟨c58, h⟩ := h
                    refine z_iadd d_M_nextToken_214 c58 ?_
                    refine z_puti (c := 0) (kI := 13) d_M_nextToken_215 fd_M_end fl_M_120 pf_M_end rfl rfl rfl rfl (ks_M_0 hx) (kl_M_0 hx) ?_
                    refine z_aload_n (i := 0) (c := 0) 1 d_M_nextToken_218 rfl rfl rfl ?_
                    refine z_iload_n (i := 1) 0 d_M_nextToken_219 rfl rfl ?_
                    refine z_bipush (n := 59) d_M_nextToken_220 (by decide) (by decide) ?_
                    refine z_icmp_eq (tgt := 243) d_M_nextToken_222 (by decide) (fun c59 => ?_) (fun c59 => ?_)
                    · have h := h.1 c59
                      refine z_iconst (n := 4) d_M_nextToken_243 (by decide) ?_
                      refine z_goto (tgt := 248) d_M_nextToken_244 (by decide) ?_
                      refine z_puti (c := 0) (kI := 11) d_M_nextToken_248 fd_M_token fl_M_132 pf_M_token rfl rfl rfl rfl (ks_M_0 hx) (kl_M_0 hx) ?_
                      exact z_vret d_M_nextToken_251 rfl (by decide) (by decide) ⟨rfl, rfl, h⟩
                    · have h := h.2 c59
                      refine z_iload_n (i := 1) 0 d_M_nextToken_225 rfl rfl ?_
                      refine z_bipush (n := 60) d_M_nextToken_226 (by decide) (by decide) ?_
                      refine z_icmp_eq (tgt := 243) d_M_nextToken_228 (by decide) (fun c60 => ?_) (fun c60 => ?_)
                      · have h := h.1 c60
                        refine z_iconst (n := 4) d_M_nextToken_243 (by decide) ?_
                        refine z_goto (tgt := 248) d_M_nextToken_244 (by decide) ?_
                        refine z_puti (c := 0) (kI := 11) d_M_nextToken_248 fd_M_token fl_M_132 pf_M_token rfl rfl rfl rfl (ks_M_0 hx) (kl_M_0 hx) ?_
                        exact z_vret d_M_nextToken_251 rfl (by decide) (by decide) ⟨rfl, rfl, h⟩
                      · have h := h.2 c60
                        refine z_iload_n (i := 1) 0 d_M_nextToken_231 rfl rfl ?_
                        refine z_bipush (n := 62) d_M_nextToken_232 (by decide) (by decide) ?_
                        refine z_icmp_eq (tgt := 243) d_M_nextToken_234 (by decide) (fun c61 => ?_) (fun c61 => ?_)
                        · have h := h.1 c61
                          refine z_iconst (n := 4) d_M_nextToken_243 (by decide) ?_
                          refine z_goto (tgt := 248) d_M_nextToken_244 (by decide) ?_
                          refine z_puti (c := 0) (kI := 11) d_M_nextToken_248 fd_M_token fl_M_132 pf_M_token rfl rfl rfl rfl (ks_M_0 hx) (kl_M_0 hx) ?_
                          exact z_vret d_M_nextToken_251 rfl (by decide) (by decide) ⟨rfl, rfl, h⟩
                        · have h := h.2 c61
                          refine z_iload_n (i := 1) 0 d_M_nextToken_237 rfl rfl ?_
                          refine z_bipush (n := 61) d_M_nextToken_238 (by decide) (by decide) ?_
                          refine z_icmp_ne (tgt := 247) d_M_nextToken_240 (by decide) (fun c62 => ?_) (fun c62 => ?_)
                          · have h := h.2 c62
                            refine z_iconst (n := 1) d_M_nextToken_247 (by decide) ?_
                            refine z_puti (c := 0) (kI := 11) d_M_nextToken_248 fd_M_token fl_M_132 pf_M_token rfl rfl rfl rfl (ks_M_0 hx) (kl_M_0 hx) ?_
                            exact z_vret d_M_nextToken_251 rfl (by decide) (by decide) ⟨rfl, rfl, h⟩
                          · have h := h.1 c62
                            refine z_iconst (n := 4) d_M_nextToken_243 (by decide) ?_
                            refine z_goto (tgt := 248) d_M_nextToken_244 (by decide) ?_
                            refine z_puti (c := 0) (kI := 11) d_M_nextToken_248 fd_M_token fl_M_132 pf_M_token rfl rfl rfl rfl (ks_M_0 hx) (kl_M_0 hx) ?_
                            exact z_vret d_M_nextToken_251 rfl (by decide) (by decide) ⟨rfl, rfl, h⟩
                  · have h := h.2 c57
                    intro _
                    show z_U X 2 m_M_nextToken 120 [(1, (0, Int32.toInt (Int32.ofInt ((z_up g 0 12 (g 0 13)) 6 (g 0 13)) &&& Int32.ofInt 255))), (0, (2, 0))] [(0, 1)] N σ (z_up (z_up g 0 12 (g 0 13)) 0 14 (Int32.toInt (Int32.ofInt ((z_up g 0 12 (g 0 13)) 6 (g 0 13)) &&& Int32.ofInt 255))) Q
                    refine z_if_eq (tgt := 208) d_M_nextToken_120 (by decide) (fun c => absurd c (by decide)) (fun _ => ?_)
                    refine z_aload_n (i := 0) (c := 0) 1 d_M_nextToken_123 rfl rfl rfl ?_
                    refine z_iconst (n := 0) d_M_nextToken_124 (by decide) ?_
                    refine z_puti (c := 0) (kI := 14) d_M_nextToken_125 fd_M_value fl_M_129 pf_M_value rfl rfl rfl rfl (ks_M_0 hx) (kl_M_0 hx) ?_
                    refine z_sub (ls' := [(0, (2, 0))]) [1] rfl ?_
                    exact h
              · have h := h.2 c50
                intro _
                show z_U X 2 m_M_nextToken 78 [(1, (0, Int32.toInt (Int32.ofInt ((z_up g 0 12 (g 0 13)) 6 (g 0 13)) &&& Int32.ofInt 255))), (0, (2, 0))] [(0, 1)] N σ (z_up (z_up g 0 12 (g 0 13)) 0 14 (Int32.toInt (Int32.ofInt ((z_up g 0 12 (g 0 13)) 6 (g 0 13)) &&& Int32.ofInt 255))) Q
                refine z_if_eq (tgt := 116) d_M_nextToken_78 (by decide) (fun c => absurd c (by decide)) (fun _ => ?_)
                refine z_sub (ls' := [(0, (2, 0))]) [1] rfl ?_
                exact h
          · have h := h.1 c36
            refine z_aload_n (i := 0) (c := 0) 1 d_M_nextToken_66 rfl rfl rfl ?_
            refine z_iconst (n := 0) d_M_nextToken_67 (by decide) ?_
            refine z_puti (c := 0) (kI := 11) d_M_nextToken_68 fd_M_token fl_M_132 pf_M_token rfl rfl rfl rfl (ks_M_0 hx) (kl_M_0 hx) ?_
            refine z_goto (tgt := 251) d_M_nextToken_71 (by decide) ?_
            exact z_vret d_M_nextToken_251 rfl (by decide) (by decide) ⟨rfl, rfl, h⟩
      · have h := h.1 c34
        refine z_aload_n (i := 0) (c := 0) 0 d_M_nextToken_26 rfl rfl rfl ?_
        refine z_dup d_M_nextToken_27 rfl ?_
        refine z_geti (c := 0) (kI := 13) d_M_nextToken_28 fd_M_end fl_M_120 (Or.inl rfl) rfl rfl (ks_M_0 hx) (kl_M_0 hx) ?_
        refine z_iconst (n := 1) d_M_nextToken_31 (by decide) ?_
        obtain ⟨c63, h⟩ := h
        refine z_iadd d_M_nextToken_32 c63 ?_
        refine z_puti (c := 0) (kI := 13) d_M_nextToken_33 fd_M_end fl_M_120 pf_M_end rfl rfl rfl rfl (ks_M_0 hx) (kl_M_0 hx) ?_
        refine z_goto (tgt := 0) d_M_nextToken_36 (by decide) ?_
        refine z_sub (ls' := [(0, (2, 0))]) [0] rfl ?_
        exact h
set_option maxRecDepth 8000 in
theorem b_M_nextToken_128 {X : z_X} {N : Nat} {σ g : z_G} {Q : z_P} (hx : z_lay X N σ 0 z_SM z_RM) (h : (((g 0 10) ≤ (g 0 13)) → ((-2147483648 ≤ ((g 0 13) - (g 0 12)) ∧ ((g 0 13) - (g 0 12)) ≤ 2147483647) ∧ (((((g 0 13) - (g 0 12)) ≤ 4) → Q 0 (z_up g 0 11 3)) ∧ (¬ (((g 0 13) - (g 0 12)) ≤ 4) → Q 0 (z_up g 0 11 1))))) ∧ (¬ ((g 0 10) ≤ (g 0 13)) → ((0 ≤ (g 0 13) ∧ (g 0 13) < 900) ∧ ((((Int32.toInt (Int32.ofInt (g 6 (g 0 13)) &&& Int32.ofInt 255)) < 48) → ((-2147483648 ≤ ((g 0 13) - (g 0 12)) ∧ ((g 0 13) - (g 0 12)) ≤ 2147483647) ∧ (((((g 0 13) - (g 0 12)) ≤ 4) → Q 0 (z_up g 0 11 3)) ∧ (¬ (((g 0 13) - (g 0 12)) ≤ 4) → Q 0 (z_up g 0 11 1))))) ∧ (¬ ((Int32.toInt (Int32.ofInt (g 6 (g 0 13)) &&& Int32.ofInt 255)) < 48) → (((57 < (Int32.toInt (Int32.ofInt (g 6 (g 0 13)) &&& Int32.ofInt 255))) → ((-2147483648 ≤ ((g 0 13) - (g 0 12)) ∧ ((g 0 13) - (g 0 12)) ≤ 2147483647) ∧ (((((g 0 13) - (g 0 12)) ≤ 4) → Q 0 (z_up g 0 11 3)) ∧ (¬ (((g 0 13) - (g 0 12)) ≤ 4) → Q 0 (z_up g 0 11 1))))) ∧ (¬ (57 < (Int32.toInt (Int32.ofInt (g 6 (g 0 13)) &&& Int32.ofInt 255))) → ((-2147483648 ≤ (10 * (g 0 14)) ∧ (10 * (g 0 14)) ≤ 2147483647) ∧ ((-2147483648 ≤ ((10 * (g 0 14)) + (Int32.toInt (Int32.ofInt (g 6 (g 0 13)) &&& Int32.ofInt 255))) ∧ ((10 * (g 0 14)) + (Int32.toInt (Int32.ofInt (g 6 (g 0 13)) &&& Int32.ofInt 255))) ≤ 2147483647) ∧ ((-2147483648 ≤ (((10 * (g 0 14)) + (Int32.toInt (Int32.ofInt (g 6 (g 0 13)) &&& Int32.ofInt 255))) - 48) ∧ (((10 * (g 0 14)) + (Int32.toInt (Int32.ofInt (g 6 (g 0 13)) &&& Int32.ofInt 255))) - 48) ≤ 2147483647) ∧ ((((((10 * (g 0 14)) + (Int32.toInt (Int32.ofInt (g 6 (g 0 13)) &&& Int32.ofInt 255))) - 48) < 100000) → ((-2147483648 ≤ ((g 0 13) + 1) ∧ ((g 0 13) + 1) ≤ 2147483647) ∧ L_M_nextToken_128 X N σ (z_up (z_up g 0 14 (((10 * (g 0 14)) + (Int32.toInt (Int32.ofInt (g 6 (g 0 13)) &&& Int32.ofInt 255))) - 48)) 0 13 ((g 0 13) + 1)) Q)) ∧ (¬ ((((10 * (g 0 14)) + (Int32.toInt (Int32.ofInt (g 6 (g 0 13)) &&& Int32.ofInt 255))) - 48) < 100000) → ((-2147483648 ≤ ((g 0 13) + 1) ∧ ((g 0 13) + 1) ≤ 2147483647) ∧ L_M_nextToken_128 X N σ (z_up (z_up g 0 14 100000) 0 13 ((g 0 13) + 1)) Q))))))))))))) : L_M_nextToken_128 X N σ g Q := by
  refine z_aload_n (i := 0) (c := 0) 0 d_M_nextToken_128 rfl rfl rfl ?_
  refine z_aload_n (i := 0) (c := 0) 0 d_M_nextToken_129 rfl rfl rfl ?_
  refine z_geti (c := 0) (kI := 13) d_M_nextToken_130 fd_M_end fl_M_120 (Or.inl rfl) rfl rfl (ks_M_0 hx) (kl_M_0 hx) ?_
  refine z_cV (c := 0) (as := [(0, g 0 13)]) (d' := 1) (st := []) d_M_nextToken_133 mi_M_byteAt ml_M_123 mv_M_byteAt se_M_byteAt rfl rfl rfl rfl (ks_M_0 hx) rfl rfl (kl_M_0 hx) rfl rfl (b_M_byteAt_0 hx ?_)
  refine ⟨fun c1 => ?_, fun c1 => ?_⟩
  · have h := h.1 c1
    intro _
    show z_U X 2 m_M_nextToken 136 [(0, (2, 0))] [(0, (-1))] N σ g Q
    refine z_cS (as := [(0, (-1))]) (d' := 1) (st := []) d_M_nextToken_136 mi_M_isDigit ml_M_138 ms_M_isDigit rfl rfl rfl rfl rfl (b_M_isDigit_0  ?_)
    refine ⟨fun _ => ?_, fun c => absurd (by decide) c⟩
    intro _
    show z_U X 2 m_M_nextToken 139 [(0, (2, 0))] [(0, 0)] N σ g Q
    refine z_if_eq (tgt := 183) d_M_nextToken_139 (by decide) (fun _ => ?_) (fun c => absurd (by decide) c)
    refine z_aload_n (i := 0) (c := 0) 0 d_M_nextToken_183 rfl rfl rfl ?_
    refine z_aload_n (i := 0) (c := 0) 0 d_M_nextToken_184 rfl rfl rfl ?_
    refine z_geti (c := 0) (kI := 13) d_M_nextToken_185 fd_M_end fl_M_120 (Or.inl rfl) rfl rfl (ks_M_0 hx) (kl_M_0 hx) ?_
    refine z_aload_n (i := 0) (c := 0) 0 d_M_nextToken_188 rfl rfl rfl ?_
    refine z_geti (c := 0) (kI := 12) d_M_nextToken_189 fd_M_from fl_M_126 (Or.inl rfl) rfl rfl (ks_M_0 hx) (kl_M_0 hx) ?_
    obtain ⟨c2, h⟩ := h
    refine z_isub d_M_nextToken_192 c2 ?_
    refine z_iconst (n := 4) d_M_nextToken_193 (by decide) ?_
    refine z_icmp_le (tgt := 201) d_M_nextToken_194 (by decide) (fun c3 => ?_) (fun c3 => ?_)
    · have h := h.1 c3
      refine z_iconst (n := 3) d_M_nextToken_201 (by decide) ?_
      refine z_puti (c := 0) (kI := 11) d_M_nextToken_202 fd_M_token fl_M_132 pf_M_token rfl rfl rfl rfl (ks_M_0 hx) (kl_M_0 hx) ?_
      refine z_goto (tgt := 251) d_M_nextToken_205 (by decide) ?_
      exact z_vret d_M_nextToken_251 rfl (by decide) (by decide) ⟨rfl, rfl, h⟩
    · have h := h.2 c3
      refine z_iconst (n := 1) d_M_nextToken_197 (by decide) ?_
      refine z_goto (tgt := 202) d_M_nextToken_198 (by decide) ?_
      refine z_puti (c := 0) (kI := 11) d_M_nextToken_202 fd_M_token fl_M_132 pf_M_token rfl rfl rfl rfl (ks_M_0 hx) (kl_M_0 hx) ?_
      refine z_goto (tgt := 251) d_M_nextToken_205 (by decide) ?_
      exact z_vret d_M_nextToken_251 rfl (by decide) (by decide) ⟨rfl, rfl, h⟩
  · have h := h.2 c1
    obtain ⟨c4, h⟩ := h
    refine ⟨c4, ?_⟩
    intro _
    show z_U X 2 m_M_nextToken 136 [(0, (2, 0))] [(0, Int32.toInt (Int32.ofInt (g 6 (g 0 13)) &&& Int32.ofInt 255))] N σ g Q
    refine z_cS (as := [(0, Int32.toInt (Int32.ofInt (g 6 (g 0 13)) &&& Int32.ofInt 255))]) (d' := 1) (st := []) d_M_nextToken_136 mi_M_isDigit ml_M_138 ms_M_isDigit rfl rfl rfl rfl rfl (b_M_isDigit_0  ?_)
    refine ⟨fun c5 => ?_, fun c5 => ?_⟩
    · have h := h.1 c5
      intro _
      show z_U X 2 m_M_nextToken 139 [(0, (2, 0))] [(0, 0)] N σ g Q
      refine z_if_eq (tgt := 183) d_M_nextToken_139 (by decide) (fun _ => ?_) (fun c => absurd (by decide) c)
      refine z_aload_n (i := 0) (c := 0) 0 d_M_nextToken_183 rfl rfl rfl ?_
      refine z_aload_n (i := 0) (c := 0) 0 d_M_nextToken_184 rfl rfl rfl ?_
      refine z_geti (c := 0) (kI := 13) d_M_nextToken_185 fd_M_end fl_M_120 (Or.inl rfl) rfl rfl (ks_M_0 hx) (kl_M_0 hx) ?_
      refine z_aload_n (i := 0) (c := 0) 0 d_M_nextToken_188 rfl rfl rfl ?_
      refine z_geti (c := 0) (kI := 12) d_M_nextToken_189 fd_M_from fl_M_126 (Or.inl rfl) rfl rfl (ks_M_0 hx) (kl_M_0 hx) ?_
      obtain ⟨c6, h⟩ := h
      refine z_isub d_M_nextToken_192 c6 ?_
      refine z_iconst (n := 4) d_M_nextToken_193 (by decide) ?_
      refine z_icmp_le (tgt := 201) d_M_nextToken_194 (by decide) (fun c7 => ?_) (fun c7 => ?_)
      · have h := h.1 c7
        refine z_iconst (n := 3) d_M_nextToken_201 (by decide) ?_
        refine z_puti (c := 0) (kI := 11) d_M_nextToken_202 fd_M_token fl_M_132 pf_M_token rfl rfl rfl rfl (ks_M_0 hx) (kl_M_0 hx) ?_
        refine z_goto (tgt := 251) d_M_nextToken_205 (by decide) ?_
        exact z_vret d_M_nextToken_251 rfl (by decide) (by decide) ⟨rfl, rfl, h⟩
      · have h := h.2 c7
        refine z_iconst (n := 1) d_M_nextToken_197 (by decide) ?_
        refine z_goto (tgt := 202) d_M_nextToken_198 (by decide) ?_
        refine z_puti (c := 0) (kI := 11) d_M_nextToken_202 fd_M_token fl_M_132 pf_M_token rfl rfl rfl rfl (ks_M_0 hx) (kl_M_0 hx) ?_
        refine z_goto (tgt := 251) d_M_nextToken_205 (by decide) ?_
        exact z_vret d_M_nextToken_251 rfl (by decide) (by decide) ⟨rfl, rfl, h⟩
    · have h := h.2 c5
      refine ⟨fun c8 => ?_, fun c8 => ?_⟩
      · have h := h.1 c8
        intro _
        show z_U X 2 m_M_nextToken 139 [(0, (2, 0))] [(0, 0)] N σ g Q
        refine z_if_eq (tgt := 183) d_M_nextToken_139 (by decide) (fun _ => ?_) (fun c => absurd (by decide) c)
        refine z_aload_n (i := 0) (c := 0) 0 d_M_nextToken_183 rfl rfl rfl ?_
        refine z_aload_n (i := 0) (c := 0) 0 d_M_nextToken_184 rfl rfl rfl ?_
        refine z_geti (c := 0) (kI := 13) d_M_nextToken_185 fd_M_end fl_M_120 (Or.inl rfl) rfl rfl (ks_M_0 hx) (kl_M_0 hx) ?_
        refine z_aload_n (i := 0) (c := 0) 0 d_M_nextToken_188 rfl rfl rfl ?_
        refine z_geti (c := 0) (kI := 12) d_M_nextToken_189 fd_M_from fl_M_126 (Or.inl rfl) rfl rfl (ks_M_0 hx) (kl_M_0 hx) ?_
        obtain ⟨c9, h⟩ := h
        refine z_isub d_M_nextToken_192 c9 ?_
        refine z_iconst (n := 4) d_M_nextToken_193 (by decide) ?_
        refine z_icmp_le (tgt := 201) d_M_nextToken_194 (by decide) (fun c10 => ?_) (fun c10 => ?_)
        · have h := h.1 c10
          refine z_iconst (n := 3) d_M_nextToken_201 (by decide) ?_
          refine z_puti (c := 0) (kI := 11) d_M_nextToken_202 fd_M_token fl_M_132 pf_M_token rfl rfl rfl rfl (ks_M_0 hx) (kl_M_0 hx) ?_
          refine z_goto (tgt := 251) d_M_nextToken_205 (by decide) ?_
          exact z_vret d_M_nextToken_251 rfl (by decide) (by decide) ⟨rfl, rfl, h⟩
        · have h := h.2 c10
          refine z_iconst (n := 1) d_M_nextToken_197 (by decide) ?_
          refine z_goto (tgt := 202) d_M_nextToken_198 (by decide) ?_
          refine z_puti (c := 0) (kI := 11) d_M_nextToken_202 fd_M_token fl_M_132 pf_M_token rfl rfl rfl rfl (ks_M_0 hx) (kl_M_0 hx) ?_
          refine z_goto (tgt := 251) d_M_nextToken_205 (by decide) ?_
          exact z_vret d_M_nextToken_251 rfl (by decide) (by decide) ⟨rfl, rfl, h⟩
      · have h := h.2 c8
        intro _
        show z_U X 2 m_M_nextToken 139 [(0, (2, 0))] [(0, 1)] N σ g Q
        refine z_if_eq (tgt := 183) d_M_nextToken_139 (by decide) (fun c => absurd c (by decide)) (fun _ => ?_)
        refine z_aload_n (i := 0) (c := 0) 0 d_M_nextToken_142 rfl rfl rfl ?_
        refine z_ldc (v := 100000) d_M_nextToken_143 kc_M_141 (by decide) ?_
        refine z_bipush (n := 10) d_M_nextToken_145 (by decide) (by decide) ?_
        refine z_aload_n (i := 0) (c := 0) 0 d_M_nextToken_147 rfl rfl rfl ?_
        refine z_geti (c := 0) (kI := 14) d_M_nextToken_148 fd_M_value fl_M_129 (Or.inl rfl) rfl rfl (ks_M_0 hx) (kl_M_0 hx) ?_
        obtain ⟨c11, h⟩ := h
        refine z_imul d_M_nextToken_151 c11 ?_
        refine z_aload_n (i := 0) (c := 0) 0 d_M_nextToken_152 rfl rfl rfl ?_
        refine z_aload_n (i := 0) (c := 0) 0 d_M_nextToken_153 rfl rfl rfl ?_
        refine z_geti (c := 0) (kI := 13) d_M_nextToken_154 fd_M_end fl_M_120 (Or.inl rfl) rfl rfl (ks_M_0 hx) (kl_M_0 hx) ?_
        refine z_cV (c := 0) (as := [(0, g 0 13)]) (d' := 1) (st := [(0, 10 * (g 0 14)), (0, 100000), (2, 0)]) d_M_nextToken_157 mi_M_byteAt ml_M_123 mv_M_byteAt se_M_byteAt rfl rfl rfl rfl (ks_M_0 hx) rfl rfl (kl_M_0 hx) rfl rfl (b_M_byteAt_0 hx ?_)
        refine ⟨fun c => absurd c c1, fun _ => ?_⟩
        refine ⟨c4, ?_⟩
        intro _
        show z_U X 2 m_M_nextToken 160 [(0, (2, 0))] [(0, Int32.toInt (Int32.ofInt (g 6 (g 0 13)) &&& Int32.ofInt 255)), (0, 10 * (g 0 14)), (0, 100000), (2, 0)] N σ g Q
        obtain ⟨c12, h⟩ := h
        refine z_iadd d_M_nextToken_160 c12 ?_
        refine z_bipush (n := 48) d_M_nextToken_161 (by decide) (by decide) ?_
        obtain ⟨c13, h⟩ := h
        refine z_isub d_M_nextToken_163 c13 ?_
        refine z_mmin d_M_nextToken_164 kmm_min_M_142 kms_min kmi kmc_min (by decide) (Nat.le_of_ble_eq_true rfl) (fun c14 => ?_) (fun c14 => ?_)
        · have h := h.1 c14
          refine z_puti (c := 0) (kI := 14) d_M_nextToken_167 fd_M_value fl_M_129 pf_M_value rfl rfl rfl rfl (ks_M_0 hx) (kl_M_0 hx) ?_
          refine z_aload_n (i := 0) (c := 0) 0 d_M_nextToken_170 rfl rfl rfl ?_
          refine z_dup d_M_nextToken_171 rfl ?_
          refine z_geti (c := 0) (kI := 13) d_M_nextToken_172 fd_M_end fl_M_120 (Or.inl rfl) rfl rfl (ks_M_0 hx) (kl_M_0 hx) ?_
          refine z_ti (b := g 0 13) (by simp [z_up]) ?_
          refine z_iconst (n := 1) d_M_nextToken_175 (by decide) ?_
          obtain ⟨c15, h⟩ := h
          refine z_iadd d_M_nextToken_176 c15 ?_
          refine z_puti (c := 0) (kI := 13) d_M_nextToken_177 fd_M_end fl_M_120 pf_M_end rfl rfl rfl rfl (ks_M_0 hx) (kl_M_0 hx) ?_
          refine z_goto (tgt := 128) d_M_nextToken_180 (by decide) ?_
          refine z_sub (ls' := [(0, (2, 0))]) [0] rfl ?_
          exact h
        · have h := h.2 c14
          refine z_puti (c := 0) (kI := 14) d_M_nextToken_167 fd_M_value fl_M_129 pf_M_value rfl rfl rfl rfl (ks_M_0 hx) (kl_M_0 hx) ?_
          refine z_aload_n (i := 0) (c := 0) 0 d_M_nextToken_170 rfl rfl rfl ?_
          refine z_dup d_M_nextToken_171 rfl ?_
          refine z_geti (c := 0) (kI := 13) d_M_nextToken_172 fd_M_end fl_M_120 (Or.inl rfl) rfl rfl (ks_M_0 hx) (kl_M_0 hx) ?_
          refine z_ti (b := g 0 13) (by simp [z_up]) ?_
          refine z_iconst (n := 1) d_M_nextToken_175 (by decide) ?_
          obtain ⟨c16, h⟩ := h
          refine z_iadd d_M_nextToken_176 c16 ?_
          refine z_puti (c := 0) (kI := 13) d_M_nextToken_177 fd_M_end fl_M_120 pf_M_end rfl rfl rfl rfl (ks_M_0 hx) (kl_M_0 hx) ?_
          refine z_goto (tgt := 128) d_M_nextToken_180 (by decide) ?_
          refine z_sub (ls' := [(0, (2, 0))]) [0] rfl ?_
          exact h
set_option maxRecDepth 8000 in
theorem b_M_nextToken_81 {X : z_X} {N : Nat} {σ g : z_G} {Q : z_P} (hx : z_lay X N σ 0 z_SM z_RM) (h : (((g 0 10) ≤ (g 0 13)) → Q 0 (z_up g 0 11 2)) ∧ (¬ ((g 0 10) ≤ (g 0 13)) → ((0 ≤ (g 0 13) ∧ (g 0 13) < 900) ∧ ((((Int32.toInt (Int32.ofInt (g 6 (g 0 13)) &&& Int32.ofInt 255)) < 97) → Q 0 (z_up g 0 11 2)) ∧ (¬ ((Int32.toInt (Int32.ofInt (g 6 (g 0 13)) &&& Int32.ofInt 255)) < 97) → (((122 < (Int32.toInt (Int32.ofInt (g 6 (g 0 13)) &&& Int32.ofInt 255))) → Q 0 (z_up g 0 11 2)) ∧ (¬ (122 < (Int32.toInt (Int32.ofInt (g 6 (g 0 13)) &&& Int32.ofInt 255))) → ((-2147483648 ≤ ((g 0 13) + 1) ∧ ((g 0 13) + 1) ≤ 2147483647) ∧ L_M_nextToken_81 X N σ (z_up g 0 13 ((g 0 13) + 1)) Q)))))))) : L_M_nextToken_81 X N σ g Q := by
  refine z_aload_n (i := 0) (c := 0) 0 d_M_nextToken_81 rfl rfl rfl ?_
  refine z_aload_n (i := 0) (c := 0) 0 d_M_nextToken_82 rfl rfl rfl ?_
  refine z_geti (c := 0) (kI := 13) d_M_nextToken_83 fd_M_end fl_M_120 (Or.inl rfl) rfl rfl (ks_M_0 hx) (kl_M_0 hx) ?_
  refine z_cV (c := 0) (as := [(0, g 0 13)]) (d' := 1) (st := []) d_M_nextToken_86 mi_M_byteAt ml_M_123 mv_M_byteAt se_M_byteAt rfl rfl rfl rfl (ks_M_0 hx) rfl rfl (kl_M_0 hx) rfl rfl (b_M_byteAt_0 hx ?_)
  refine ⟨fun c1 => ?_, fun c1 => ?_⟩
  · have h := h.1 c1
    intro _
    show z_U X 2 m_M_nextToken 89 [(0, (2, 0))] [(0, (-1))] N σ g Q
    refine z_cS (as := [(0, (-1))]) (d' := 1) (st := []) d_M_nextToken_89 mi_M_isSmall ml_M_135 ms_M_isSmall rfl rfl rfl rfl rfl (b_M_isSmall_0  ?_)
    refine ⟨fun _ => ?_, fun c => absurd (by decide) c⟩
    intro _
    show z_U X 2 m_M_nextToken 92 [(0, (2, 0))] [(0, 0)] N σ g Q
    refine z_if_eq (tgt := 108) d_M_nextToken_92 (by decide) (fun _ => ?_) (fun c => absurd (by decide) c)
    refine z_aload_n (i := 0) (c := 0) 0 d_M_nextToken_108 rfl rfl rfl ?_
    refine z_iconst (n := 2) d_M_nextToken_109 (by decide) ?_
    refine z_puti (c := 0) (kI := 11) d_M_nextToken_110 fd_M_token fl_M_132 pf_M_token rfl rfl rfl rfl (ks_M_0 hx) (kl_M_0 hx) ?_
    refine z_goto (tgt := 251) d_M_nextToken_113 (by decide) ?_
    exact z_vret d_M_nextToken_251 rfl (by decide) (by decide) ⟨rfl, rfl, h⟩
  · have h := h.2 c1
    obtain ⟨c2, h⟩ := h
    refine ⟨c2, ?_⟩
    intro _
    show z_U X 2 m_M_nextToken 89 [(0, (2, 0))] [(0, Int32.toInt (Int32.ofInt (g 6 (g 0 13)) &&& Int32.ofInt 255))] N σ g Q
    refine z_cS (as := [(0, Int32.toInt (Int32.ofInt (g 6 (g 0 13)) &&& Int32.ofInt 255))]) (d' := 1) (st := []) d_M_nextToken_89 mi_M_isSmall ml_M_135 ms_M_isSmall rfl rfl rfl rfl rfl (b_M_isSmall_0  ?_)
    refine ⟨fun c3 => ?_, fun c3 => ?_⟩
    · have h := h.1 c3
      intro _
      show z_U X 2 m_M_nextToken 92 [(0, (2, 0))] [(0, 0)] N σ g Q
      refine z_if_eq (tgt := 108) d_M_nextToken_92 (by decide) (fun _ => ?_) (fun c => absurd (by decide) c)
      refine z_aload_n (i := 0) (c := 0) 0 d_M_nextToken_108 rfl rfl rfl ?_
      refine z_iconst (n := 2) d_M_nextToken_109 (by decide) ?_
      refine z_puti (c := 0) (kI := 11) d_M_nextToken_110 fd_M_token fl_M_132 pf_M_token rfl rfl rfl rfl (ks_M_0 hx) (kl_M_0 hx) ?_
      refine z_goto (tgt := 251) d_M_nextToken_113 (by decide) ?_
      exact z_vret d_M_nextToken_251 rfl (by decide) (by decide) ⟨rfl, rfl, h⟩
    · have h := h.2 c3
      refine ⟨fun c4 => ?_, fun c4 => ?_⟩
      · have h := h.1 c4
        intro _
        show z_U X 2 m_M_nextToken 92 [(0, (2, 0))] [(0, 0)] N σ g Q
        refine z_if_eq (tgt := 108) d_M_nextToken_92 (by decide) (fun _ => ?_) (fun c => absurd (by decide) c)
        refine z_aload_n (i := 0) (c := 0) 0 d_M_nextToken_108 rfl rfl rfl ?_
        refine z_iconst (n := 2) d_M_nextToken_109 (by decide) ?_
        refine z_puti (c := 0) (kI := 11) d_M_nextToken_110 fd_M_token fl_M_132 pf_M_token rfl rfl rfl rfl (ks_M_0 hx) (kl_M_0 hx) ?_
        refine z_goto (tgt := 251) d_M_nextToken_113 (by decide) ?_
        exact z_vret d_M_nextToken_251 rfl (by decide) (by decide) ⟨rfl, rfl, h⟩
      · have h := h.2 c4
        intro _
        show z_U X 2 m_M_nextToken 92 [(0, (2, 0))] [(0, 1)] N σ g Q
        refine z_if_eq (tgt := 108) d_M_nextToken_92 (by decide) (fun c => absurd c (by decide)) (fun _ => ?_)
        refine z_aload_n (i := 0) (c := 0) 0 d_M_nextToken_95 rfl rfl rfl ?_
        refine z_dup d_M_nextToken_96 rfl ?_
        refine z_geti (c := 0) (kI := 13) d_M_nextToken_97 fd_M_end fl_M_120 (Or.inl rfl) rfl rfl (ks_M_0 hx) (kl_M_0 hx) ?_
        refine z_iconst (n := 1) d_M_nextToken_100 (by decide) ?_
        obtain ⟨c5, h⟩ := h
        refine z_iadd d_M_nextToken_101 c5 ?_
        refine z_puti (c := 0) (kI := 13) d_M_nextToken_102 fd_M_end fl_M_120 pf_M_end rfl rfl rfl rfl (ks_M_0 hx) (kl_M_0 hx) ?_
        refine z_goto (tgt := 81) d_M_nextToken_105 (by decide) ?_
        refine z_sub (ls' := [(0, (2, 0))]) [0] rfl ?_
        exact h
theorem d_M_orNone_0 : decode (z_c m_M_orNone) 0 = .ok (.iload_n 1, 1) := by decide +kernel
theorem d_M_orNone_1 : decode (z_c m_M_orNone) 1 = .ok (.iconst (-1), 1) := by decide +kernel
theorem d_M_orNone_2 : decode (z_c m_M_orNone) 2 = .ok (.if_icmp .ne 10, 3) := by decide +kernel
theorem d_M_orNone_5 : decode (z_c m_M_orNone) 5 = .ok (.aload_n 0, 1) := by decide +kernel
theorem d_M_orNone_6 : decode (z_c m_M_orNone) 6 = .ok (.bipush 6, 2) := by decide +kernel
theorem d_M_orNone_8 : decode (z_c m_M_orNone) 8 = .ok (.invokevirtual 87, 3) := by decide +kernel
theorem d_M_orNone_11 : decode (z_c m_M_orNone) 11 = .ok (.ireturn, 1) := by decide +kernel
theorem d_M_orNone_12 : decode (z_c m_M_orNone) 12 = .ok (.aload_n 0, 1) := by decide +kernel
theorem d_M_orNone_13 : decode (z_c m_M_orNone) 13 = .ok (.iload_n 1, 1) := by decide +kernel
theorem d_M_orNone_14 : decode (z_c m_M_orNone) 14 = .ok (.invokevirtual 91, 3) := by decide +kernel
theorem d_M_orNone_17 : decode (z_c m_M_orNone) 17 = .ok (.ireturn, 1) := by decide +kernel
set_option maxRecDepth 8000 in
theorem b_M_orNone_0 {X : z_X} {N : Nat} {σ g : z_G} {Q : z_P} {a1 : Int} (hx : z_lay X N σ 0 z_SM z_RM) (h : ((a1 = (-1)) → Q (-1) (z_up g 0 1 6)) ∧ (¬ (a1 = (-1)) → Q a1 (z_up g 0 1 0))) : z_O X 2 m_M_orNone [(2, 0), (0, a1)] N σ g Q := by
  refine z_Oenter mi_M_orNone rfl (fun _ => ?_)
  show z_U X 2 m_M_orNone 0 [(0, (2, 0)), (1, (0, a1))] [] N σ g Q
  refine z_iload_n (i := 1) 1 d_M_orNone_0 rfl rfl ?_
  refine z_iconst (n := (-1)) d_M_orNone_1 (by decide) ?_
  refine z_icmp_ne (tgt := 12) d_M_orNone_2 (by decide) (fun c1 => ?_) (fun c1 => ?_)
  · have h := h.2 c1
    refine z_aload_n (i := 0) (c := 0) 0 d_M_orNone_12 rfl rfl rfl ?_
    refine z_iload_n (i := 1) 1 d_M_orNone_13 rfl rfl ?_
    refine z_cV (c := 0) (as := [(0, a1)]) (d' := 1) (st := []) d_M_orNone_14 mi_M_gives ml_M_91 mv_M_gives se_M_gives rfl rfl rfl rfl (ks_M_0 hx) rfl rfl (kl_M_0 hx) rfl rfl (b_M_gives_0 hx ?_)
    intro _
    show z_U X 2 m_M_orNone 17 [(0, (2, 0)), (1, (0, a1))] [(0, a1)] N σ (z_up g 0 1 0) Q
    exact z_iret d_M_orNone_17 rfl (by decide) (by decide) ⟨rfl, rfl, h⟩
  · have h := h.1 c1
    refine z_aload_n (i := 0) (c := 0) 0 d_M_orNone_5 rfl rfl rfl ?_
    refine z_bipush (n := 6) d_M_orNone_6 (by decide) (by decide) ?_
    refine z_cV (c := 0) (as := [(0, 6)]) (d' := 1) (st := []) d_M_orNone_8 mi_M_refuse ml_M_87 mv_M_refuse se_M_refuse rfl rfl rfl rfl (ks_M_0 hx) rfl rfl (kl_M_0 hx) rfl rfl (b_M_refuse_0 hx ?_)
    intro _
    show z_U X 2 m_M_orNone 11 [(0, (2, 0)), (1, (0, a1))] [(0, (-1))] N σ (z_up g 0 1 6) Q
    exact z_iret d_M_orNone_11 rfl (by decide) (by decide) ⟨rfl, rfl, h⟩
theorem d_M_pinOf_0 : decode (z_c m_M_pinOf) 0 = .ok (.iload_n 1, 1) := by decide +kernel
theorem d_M_pinOf_1 : decode (z_c m_M_pinOf) 1 = .ok (.iload_n 2, 1) := by decide +kernel
theorem d_M_pinOf_2 : decode (z_c m_M_pinOf) 2 = .ok (.invokestatic 182, 3) := by decide +kernel
theorem d_M_pinOf_5 : decode (z_c m_M_pinOf) 5 = .ok (.istore_n 3, 1) := by decide +kernel
theorem d_M_pinOf_6 : decode (z_c m_M_pinOf) 6 = .ok (.aload_n 0, 1) := by decide +kernel
theorem d_M_pinOf_7 : decode (z_c m_M_pinOf) 7 = .ok (.iconst 0, 1) := by decide +kernel
theorem d_M_pinOf_8 : decode (z_c m_M_pinOf) 8 = .ok (.iload_n 1, 1) := by decide +kernel
theorem d_M_pinOf_9 : decode (z_c m_M_pinOf) 9 = .ok (.iload_n 3, 1) := by decide +kernel
theorem d_M_pinOf_10 : decode (z_c m_M_pinOf) 10 = .ok (.idiv, 1) := by decide +kernel
theorem d_M_pinOf_11 : decode (z_c m_M_pinOf) 11 = .ok (.iload_n 2, 1) := by decide +kernel
theorem d_M_pinOf_12 : decode (z_c m_M_pinOf) 12 = .ok (.iload_n 3, 1) := by decide +kernel
theorem d_M_pinOf_13 : decode (z_c m_M_pinOf) 13 = .ok (.idiv, 1) := by decide +kernel
theorem d_M_pinOf_14 : decode (z_c m_M_pinOf) 14 = .ok (.invokevirtual 189, 3) := by decide +kernel
theorem d_M_pinOf_17 : decode (z_c m_M_pinOf) 17 = .ok (.ireturn, 1) := by decide +kernel
set_option maxRecDepth 8000 in
theorem b_M_pinOf_0 {X : z_X} {N : Nat} {σ g : z_G} {Q : z_P} {a1 a2 : Int} (hx : z_lay X N σ 0 z_SM z_RM) (h : z_O X 1 m_M_common [(0, a1), (0, a2)] N σ g (fun r0 g0 => ((0 < r0) ∧ (z_O X 1 m_M_findPin [(2, 0), (0, 0), (0, Int.tdiv a1 r0), (0, Int.tdiv a2 r0)] N σ g0 (fun r1 g1 => Q r1 g1))))) : z_O X 2 m_M_pinOf [(2, 0), (0, a1), (0, a2)] N σ g Q := by
  refine z_Oenter mi_M_pinOf rfl (fun _ => ?_)
  show z_U X 2 m_M_pinOf 0 [(0, (2, 0)), (1, (0, a1)), (2, (0, a2))] [] N σ g Q
  refine z_iload_n (i := 1) 1 d_M_pinOf_0 rfl rfl ?_
  refine z_iload_n (i := 2) 2 d_M_pinOf_1 rfl rfl ?_
  refine z_cS (as := [(0, a1), (0, a2)]) (d' := 1) (st := []) d_M_pinOf_2 mi_M_common ml_M_182 ms_M_common rfl rfl rfl rfl rfl (z_Omono h (fun r0 g0 _ h hro => ?_))
  show z_U X 2 m_M_pinOf 5 [(0, (2, 0)), (1, (0, a1)), (2, (0, a2))] [(0, r0)] N σ g0 Q
  refine z_istore_n (i := 3) (ls' := [(3, (0, r0)), (0, (2, 0)), (1, (0, a1)), (2, (0, a2))]) d_M_pinOf_5 rfl rfl rfl ?_
  refine z_aload_n (i := 0) (c := 0) 1 d_M_pinOf_6 rfl rfl rfl ?_
  refine z_iconst (n := 0) d_M_pinOf_7 (by decide) ?_
  refine z_iload_n (i := 1) 2 d_M_pinOf_8 rfl rfl ?_
  refine z_iload_n (i := 3) 0 d_M_pinOf_9 rfl rfl ?_
  obtain ⟨c1, h⟩ := h
  refine z_idiv d_M_pinOf_10 c1 ?_
  refine z_iload_n (i := 2) 3 d_M_pinOf_11 rfl rfl ?_
  refine z_iload_n (i := 3) 0 d_M_pinOf_12 rfl rfl ?_
  refine z_idiv d_M_pinOf_13 c1 ?_
  refine z_cV (c := 0) (as := [(0, 0), (0, Int.tdiv a1 r0), (0, Int.tdiv a2 r0)]) (d' := 1) (st := []) d_M_pinOf_14 mi_M_findPin ml_M_189 mv_M_findPin se_M_findPin rfl rfl rfl rfl (ks_M_0 hx) rfl rfl (kl_M_0 hx) rfl rfl (z_Omono h (fun r1 g1 _ h hro => ?_))
  show z_U X 2 m_M_pinOf 17 [(3, (0, r0)), (0, (2, 0)), (1, (0, a1)), (2, (0, a2))] [(0, r1)] N σ g1 Q
  exact z_iret d_M_pinOf_17 rfl (by decide) (by decide) ⟨rfl, rfl, h⟩
theorem d_M_plays_0 : decode (z_c m_M_plays) 0 = .ok (.iload_n 1, 1) := by decide +kernel
theorem d_M_plays_1 : decode (z_c m_M_plays) 1 = .ok (.iload_n 2, 1) := by decide +kernel
theorem d_M_plays_2 : decode (z_c m_M_plays) 2 = .ok (.invokestatic 182, 3) := by decide +kernel
theorem d_M_plays_5 : decode (z_c m_M_plays) 5 = .ok (.istore 4, 2) := by decide +kernel
theorem d_M_plays_7 : decode (z_c m_M_plays) 7 = .ok (.aload_n 0, 1) := by decide +kernel
theorem d_M_plays_8 : decode (z_c m_M_plays) 8 = .ok (.iload_n 1, 1) := by decide +kernel
theorem d_M_plays_9 : decode (z_c m_M_plays) 9 = .ok (.iload 4, 2) := by decide +kernel
theorem d_M_plays_11 : decode (z_c m_M_plays) 11 = .ok (.idiv, 1) := by decide +kernel
theorem d_M_plays_12 : decode (z_c m_M_plays) 12 = .ok (.iload_n 2, 1) := by decide +kernel
theorem d_M_plays_13 : decode (z_c m_M_plays) 13 = .ok (.iload 4, 2) := by decide +kernel
theorem d_M_plays_15 : decode (z_c m_M_plays) 15 = .ok (.idiv, 1) := by decide +kernel
theorem d_M_plays_16 : decode (z_c m_M_plays) 16 = .ok (.iconst 0, 1) := by decide +kernel
theorem d_M_plays_17 : decode (z_c m_M_plays) 17 = .ok (.invokevirtual 325, 3) := by decide +kernel
theorem d_M_plays_20 : decode (z_c m_M_plays) 20 = .ok (.aload_n 0, 1) := by decide +kernel
theorem d_M_plays_21 : decode (z_c m_M_plays) 21 = .ok (.getfield 53, 3) := by decide +kernel
theorem d_M_plays_24 : decode (z_c m_M_plays) 24 = .ok (.iconst 0, 1) := by decide +kernel
theorem d_M_plays_25 : decode (z_c m_M_plays) 25 = .ok (.aload_n 0, 1) := by decide +kernel
theorem d_M_plays_26 : decode (z_c m_M_plays) 26 = .ok (.getfield 303, 3) := by decide +kernel
theorem d_M_plays_29 : decode (z_c m_M_plays) 29 = .ok (.iload_n 2, 1) := by decide +kernel
theorem d_M_plays_30 : decode (z_c m_M_plays) 30 = .ok (.iload 4, 2) := by decide +kernel
theorem d_M_plays_32 : decode (z_c m_M_plays) 32 = .ok (.idiv, 1) := by decide +kernel
theorem d_M_plays_33 : decode (z_c m_M_plays) 33 = .ok (.isub, 1) := by decide +kernel
theorem d_M_plays_34 : decode (z_c m_M_plays) 34 = .ok (.iastore, 1) := by decide +kernel
theorem d_M_plays_35 : decode (z_c m_M_plays) 35 = .ok (.aload_n 0, 1) := by decide +kernel
theorem d_M_plays_36 : decode (z_c m_M_plays) 36 = .ok (.getfield 56, 3) := by decide +kernel
theorem d_M_plays_39 : decode (z_c m_M_plays) 39 = .ok (.iconst 0, 1) := by decide +kernel
theorem d_M_plays_40 : decode (z_c m_M_plays) 40 = .ok (.iload_n 2, 1) := by decide +kernel
theorem d_M_plays_41 : decode (z_c m_M_plays) 41 = .ok (.iload 4, 2) := by decide +kernel
theorem d_M_plays_43 : decode (z_c m_M_plays) 43 = .ok (.idiv, 1) := by decide +kernel
theorem d_M_plays_44 : decode (z_c m_M_plays) 44 = .ok (.aload_n 0, 1) := by decide +kernel
theorem d_M_plays_45 : decode (z_c m_M_plays) 45 = .ok (.getfield 53, 3) := by decide +kernel
theorem d_M_plays_48 : decode (z_c m_M_plays) 48 = .ok (.iconst 0, 1) := by decide +kernel
theorem d_M_plays_49 : decode (z_c m_M_plays) 49 = .ok (.iaload, 1) := by decide +kernel
theorem d_M_plays_50 : decode (z_c m_M_plays) 50 = .ok (.isub, 1) := by decide +kernel
theorem d_M_plays_51 : decode (z_c m_M_plays) 51 = .ok (.iastore, 1) := by decide +kernel
theorem d_M_plays_52 : decode (z_c m_M_plays) 52 = .ok (.iconst 0, 1) := by decide +kernel
theorem d_M_plays_53 : decode (z_c m_M_plays) 53 = .ok (.istore 5, 2) := by decide +kernel
theorem d_M_plays_55 : decode (z_c m_M_plays) 55 = .ok (.iload 5, 2) := by decide +kernel
theorem d_M_plays_57 : decode (z_c m_M_plays) 57 = .ok (.iload_n 3, 1) := by decide +kernel
theorem d_M_plays_58 : decode (z_c m_M_plays) 58 = .ok (.if_icmp .ge 100, 3) := by decide +kernel
theorem d_M_plays_61 : decode (z_c m_M_plays) 61 = .ok (.iconst 1, 1) := by decide +kernel
theorem d_M_plays_62 : decode (z_c m_M_plays) 62 = .ok (.iload 5, 2) := by decide +kernel
theorem d_M_plays_64 : decode (z_c m_M_plays) 64 = .ok (.ishl, 1) := by decide +kernel
theorem d_M_plays_65 : decode (z_c m_M_plays) 65 = .ok (.iconst 1, 1) := by decide +kernel
theorem d_M_plays_66 : decode (z_c m_M_plays) 66 = .ok (.isub, 1) := by decide +kernel
theorem d_M_plays_67 : decode (z_c m_M_plays) 67 = .ok (.istore 6, 2) := by decide +kernel
theorem d_M_plays_69 : decode (z_c m_M_plays) 69 = .ok (.iload 6, 2) := by decide +kernel
theorem d_M_plays_71 : decode (z_c m_M_plays) 71 = .ok (.ifCond .lt 81, 3) := by decide +kernel
theorem d_M_plays_74 : decode (z_c m_M_plays) 74 = .ok (.aload_n 0, 1) := by decide +kernel
theorem d_M_plays_75 : decode (z_c m_M_plays) 75 = .ok (.getfield 53, 3) := by decide +kernel
theorem d_M_plays_78 : decode (z_c m_M_plays) 78 = .ok (.iload 6, 2) := by decide +kernel
theorem d_M_plays_80 : decode (z_c m_M_plays) 80 = .ok (.iaload, 1) := by decide +kernel
theorem d_M_plays_81 : decode (z_c m_M_plays) 81 = .ok (.istore 7, 2) := by decide +kernel
theorem d_M_plays_83 : decode (z_c m_M_plays) 83 = .ok (.aload_n 0, 1) := by decide +kernel
theorem d_M_plays_84 : decode (z_c m_M_plays) 84 = .ok (.getfield 56, 3) := by decide +kernel
theorem d_M_plays_87 : decode (z_c m_M_plays) 87 = .ok (.iload 6, 2) := by decide +kernel
theorem d_M_plays_89 : decode (z_c m_M_plays) 89 = .ok (.iaload, 1) := by decide +kernel
theorem d_M_plays_90 : decode (z_c m_M_plays) 90 = .ok (.istore 8, 2) := by decide +kernel
theorem d_M_plays_92 : decode (z_c m_M_plays) 92 = .ok (.aload_n 0, 1) := by decide +kernel
theorem d_M_plays_93 : decode (z_c m_M_plays) 93 = .ok (.getfield 53, 3) := by decide +kernel
theorem d_M_plays_96 : decode (z_c m_M_plays) 96 = .ok (.iconst 2, 1) := by decide +kernel
theorem d_M_plays_97 : decode (z_c m_M_plays) 97 = .ok (.iload 6, 2) := by decide +kernel
theorem d_M_plays_99 : decode (z_c m_M_plays) 99 = .ok (.imul, 1) := by decide +kernel
theorem d_M_plays_100 : decode (z_c m_M_plays) 100 = .ok (.iload 7, 2) := by decide +kernel
theorem d_M_plays_102 : decode (z_c m_M_plays) 102 = .ok (.iastore, 1) := by decide +kernel
theorem d_M_plays_103 : decode (z_c m_M_plays) 103 = .ok (.aload_n 0, 1) := by decide +kernel
theorem d_M_plays_104 : decode (z_c m_M_plays) 104 = .ok (.getfield 56, 3) := by decide +kernel
theorem d_M_plays_107 : decode (z_c m_M_plays) 107 = .ok (.iconst 2, 1) := by decide +kernel
theorem d_M_plays_108 : decode (z_c m_M_plays) 108 = .ok (.iload 6, 2) := by decide +kernel
theorem d_M_plays_110 : decode (z_c m_M_plays) 110 = .ok (.imul, 1) := by decide +kernel
theorem d_M_plays_111 : decode (z_c m_M_plays) 111 = .ok (.iload 7, 2) := by decide +kernel
theorem d_M_plays_113 : decode (z_c m_M_plays) 113 = .ok (.iload 8, 2) := by decide +kernel
theorem d_M_plays_115 : decode (z_c m_M_plays) 115 = .ok (.iadd, 1) := by decide +kernel
theorem d_M_plays_116 : decode (z_c m_M_plays) 116 = .ok (.iastore, 1) := by decide +kernel
theorem d_M_plays_117 : decode (z_c m_M_plays) 117 = .ok (.aload_n 0, 1) := by decide +kernel
theorem d_M_plays_118 : decode (z_c m_M_plays) 118 = .ok (.getfield 53, 3) := by decide +kernel
theorem d_M_plays_121 : decode (z_c m_M_plays) 121 = .ok (.iconst 2, 1) := by decide +kernel
theorem d_M_plays_122 : decode (z_c m_M_plays) 122 = .ok (.iload 6, 2) := by decide +kernel
theorem d_M_plays_124 : decode (z_c m_M_plays) 124 = .ok (.imul, 1) := by decide +kernel
theorem d_M_plays_125 : decode (z_c m_M_plays) 125 = .ok (.iconst 1, 1) := by decide +kernel
theorem d_M_plays_126 : decode (z_c m_M_plays) 126 = .ok (.iadd, 1) := by decide +kernel
theorem d_M_plays_127 : decode (z_c m_M_plays) 127 = .ok (.iload 7, 2) := by decide +kernel
theorem d_M_plays_129 : decode (z_c m_M_plays) 129 = .ok (.iload 8, 2) := by decide +kernel
theorem d_M_plays_131 : decode (z_c m_M_plays) 131 = .ok (.iadd, 1) := by decide +kernel
theorem d_M_plays_132 : decode (z_c m_M_plays) 132 = .ok (.iastore, 1) := by decide +kernel
theorem d_M_plays_133 : decode (z_c m_M_plays) 133 = .ok (.aload_n 0, 1) := by decide +kernel
theorem d_M_plays_134 : decode (z_c m_M_plays) 134 = .ok (.getfield 56, 3) := by decide +kernel
theorem d_M_plays_137 : decode (z_c m_M_plays) 137 = .ok (.iconst 2, 1) := by decide +kernel
theorem d_M_plays_138 : decode (z_c m_M_plays) 138 = .ok (.iload 6, 2) := by decide +kernel
theorem d_M_plays_140 : decode (z_c m_M_plays) 140 = .ok (.imul, 1) := by decide +kernel
theorem d_M_plays_141 : decode (z_c m_M_plays) 141 = .ok (.iconst 1, 1) := by decide +kernel
theorem d_M_plays_142 : decode (z_c m_M_plays) 142 = .ok (.iadd, 1) := by decide +kernel
theorem d_M_plays_143 : decode (z_c m_M_plays) 143 = .ok (.iload 8, 2) := by decide +kernel
theorem d_M_plays_145 : decode (z_c m_M_plays) 145 = .ok (.iastore, 1) := by decide +kernel
theorem d_M_plays_146 : decode (z_c m_M_plays) 146 = .ok (.iinc 6 (-1), 3) := by decide +kernel
theorem d_M_plays_149 : decode (z_c m_M_plays) 149 = .ok (.goto (-80), 3) := by decide +kernel
theorem d_M_plays_152 : decode (z_c m_M_plays) 152 = .ok (.iinc 5 1, 3) := by decide +kernel
theorem d_M_plays_155 : decode (z_c m_M_plays) 155 = .ok (.goto (-100), 3) := by decide +kernel
theorem d_M_plays_158 : decode (z_c m_M_plays) 158 = .ok (.iconst 0, 1) := by decide +kernel
theorem d_M_plays_159 : decode (z_c m_M_plays) 159 = .ok (.istore 5, 2) := by decide +kernel
theorem d_M_plays_161 : decode (z_c m_M_plays) 161 = .ok (.iload 5, 2) := by decide +kernel
theorem d_M_plays_163 : decode (z_c m_M_plays) 163 = .ok (.iconst 1, 1) := by decide +kernel
theorem d_M_plays_164 : decode (z_c m_M_plays) 164 = .ok (.iload_n 3, 1) := by decide +kernel
theorem d_M_plays_165 : decode (z_c m_M_plays) 165 = .ok (.ishl, 1) := by decide +kernel
theorem d_M_plays_166 : decode (z_c m_M_plays) 166 = .ok (.if_icmp .ge 31, 3) := by decide +kernel
theorem d_M_plays_169 : decode (z_c m_M_plays) 169 = .ok (.aload_n 0, 1) := by decide +kernel
theorem d_M_plays_170 : decode (z_c m_M_plays) 170 = .ok (.getfield 59, 3) := by decide +kernel
theorem d_M_plays_173 : decode (z_c m_M_plays) 173 = .ok (.iload 5, 2) := by decide +kernel
theorem d_M_plays_175 : decode (z_c m_M_plays) 175 = .ok (.aload_n 0, 1) := by decide +kernel
theorem d_M_plays_176 : decode (z_c m_M_plays) 176 = .ok (.getfield 53, 3) := by decide +kernel
theorem d_M_plays_179 : decode (z_c m_M_plays) 179 = .ok (.iload 5, 2) := by decide +kernel
theorem d_M_plays_181 : decode (z_c m_M_plays) 181 = .ok (.iaload, 1) := by decide +kernel
theorem d_M_plays_182 : decode (z_c m_M_plays) 182 = .ok (.aload_n 0, 1) := by decide +kernel
theorem d_M_plays_183 : decode (z_c m_M_plays) 183 = .ok (.getfield 56, 3) := by decide +kernel
theorem d_M_plays_186 : decode (z_c m_M_plays) 186 = .ok (.iload 5, 2) := by decide +kernel
theorem d_M_plays_188 : decode (z_c m_M_plays) 188 = .ok (.iaload, 1) := by decide +kernel
theorem d_M_plays_189 : decode (z_c m_M_plays) 189 = .ok (.iadd, 1) := by decide +kernel
theorem d_M_plays_190 : decode (z_c m_M_plays) 190 = .ok (.iastore, 1) := by decide +kernel
theorem d_M_plays_191 : decode (z_c m_M_plays) 191 = .ok (.iinc 5 1, 3) := by decide +kernel
theorem d_M_plays_194 : decode (z_c m_M_plays) 194 = .ok (.goto (-33), 3) := by decide +kernel
theorem d_M_plays_197 : decode (z_c m_M_plays) 197 = .ok (.iload_n 3, 1) := by decide +kernel
theorem d_M_plays_198 : decode (z_c m_M_plays) 198 = .ok (.iconst 1, 1) := by decide +kernel
theorem d_M_plays_199 : decode (z_c m_M_plays) 199 = .ok (.isub, 1) := by decide +kernel
theorem d_M_plays_200 : decode (z_c m_M_plays) 200 = .ok (.istore 5, 2) := by decide +kernel
theorem d_M_plays_202 : decode (z_c m_M_plays) 202 = .ok (.iload 5, 2) := by decide +kernel
theorem d_M_plays_204 : decode (z_c m_M_plays) 204 = .ok (.ifCond .le 82, 3) := by decide +kernel
theorem d_M_plays_207 : decode (z_c m_M_plays) 207 = .ok (.iconst 0, 1) := by decide +kernel
theorem d_M_plays_208 : decode (z_c m_M_plays) 208 = .ok (.istore 6, 2) := by decide +kernel
theorem d_M_plays_210 : decode (z_c m_M_plays) 210 = .ok (.iload 6, 2) := by decide +kernel
theorem d_M_plays_212 : decode (z_c m_M_plays) 212 = .ok (.iconst 1, 1) := by decide +kernel
theorem d_M_plays_213 : decode (z_c m_M_plays) 213 = .ok (.iload 5, 2) := by decide +kernel
theorem d_M_plays_215 : decode (z_c m_M_plays) 215 = .ok (.ishl, 1) := by decide +kernel
theorem d_M_plays_216 : decode (z_c m_M_plays) 216 = .ok (.if_icmp .ge 64, 3) := by decide +kernel
theorem d_M_plays_219 : decode (z_c m_M_plays) 219 = .ok (.aload_n 0, 1) := by decide +kernel
theorem d_M_plays_220 : decode (z_c m_M_plays) 220 = .ok (.getfield 59, 3) := by decide +kernel
theorem d_M_plays_223 : decode (z_c m_M_plays) 223 = .ok (.iconst 2, 1) := by decide +kernel
theorem d_M_plays_224 : decode (z_c m_M_plays) 224 = .ok (.iload 6, 2) := by decide +kernel
theorem d_M_plays_226 : decode (z_c m_M_plays) 226 = .ok (.imul, 1) := by decide +kernel
theorem d_M_plays_227 : decode (z_c m_M_plays) 227 = .ok (.iaload, 1) := by decide +kernel
theorem d_M_plays_228 : decode (z_c m_M_plays) 228 = .ok (.istore 7, 2) := by decide +kernel
theorem d_M_plays_230 : decode (z_c m_M_plays) 230 = .ok (.aload_n 0, 1) := by decide +kernel
theorem d_M_plays_231 : decode (z_c m_M_plays) 231 = .ok (.getfield 59, 3) := by decide +kernel
theorem d_M_plays_234 : decode (z_c m_M_plays) 234 = .ok (.iconst 2, 1) := by decide +kernel
theorem d_M_plays_235 : decode (z_c m_M_plays) 235 = .ok (.iload 6, 2) := by decide +kernel
theorem d_M_plays_237 : decode (z_c m_M_plays) 237 = .ok (.imul, 1) := by decide +kernel
theorem d_M_plays_238 : decode (z_c m_M_plays) 238 = .ok (.iconst 1, 1) := by decide +kernel
theorem d_M_plays_239 : decode (z_c m_M_plays) 239 = .ok (.iadd, 1) := by decide +kernel
theorem d_M_plays_240 : decode (z_c m_M_plays) 240 = .ok (.iaload, 1) := by decide +kernel
theorem d_M_plays_241 : decode (z_c m_M_plays) 241 = .ok (.istore 8, 2) := by decide +kernel
theorem d_M_plays_243 : decode (z_c m_M_plays) 243 = .ok (.aload_n 0, 1) := by decide +kernel
theorem d_M_plays_244 : decode (z_c m_M_plays) 244 = .ok (.getfield 59, 3) := by decide +kernel
theorem d_M_plays_247 : decode (z_c m_M_plays) 247 = .ok (.iload 6, 2) := by decide +kernel
theorem d_M_plays_249 : decode (z_c m_M_plays) 249 = .ok (.iload 5, 2) := by decide +kernel
theorem d_M_plays_251 : decode (z_c m_M_plays) 251 = .ok (.iconst 2, 1) := by decide +kernel
theorem d_M_plays_252 : decode (z_c m_M_plays) 252 = .ok (.irem, 1) := by decide +kernel
theorem d_M_plays_253 : decode (z_c m_M_plays) 253 = .ok (.ifCond .ne 13, 3) := by decide +kernel
theorem d_M_plays_256 : decode (z_c m_M_plays) 256 = .ok (.iload 7, 2) := by decide +kernel
theorem d_M_plays_258 : decode (z_c m_M_plays) 258 = .ok (.iload 8, 2) := by decide +kernel
theorem d_M_plays_260 : decode (z_c m_M_plays) 260 = .ok (.invokestatic 317, 3) := by decide +kernel
theorem d_M_plays_263 : decode (z_c m_M_plays) 263 = .ok (.goto 10, 3) := by decide +kernel
theorem d_M_plays_266 : decode (z_c m_M_plays) 266 = .ok (.iload 7, 2) := by decide +kernel
theorem d_M_plays_268 : decode (z_c m_M_plays) 268 = .ok (.iload 8, 2) := by decide +kernel
theorem d_M_plays_270 : decode (z_c m_M_plays) 270 = .ok (.invokestatic 142, 3) := by decide +kernel
theorem d_M_plays_273 : decode (z_c m_M_plays) 273 = .ok (.iastore, 1) := by decide +kernel
theorem d_M_plays_274 : decode (z_c m_M_plays) 274 = .ok (.iinc 6 1, 3) := by decide +kernel
theorem d_M_plays_277 : decode (z_c m_M_plays) 277 = .ok (.goto (-67), 3) := by decide +kernel
theorem d_M_plays_280 : decode (z_c m_M_plays) 280 = .ok (.iinc 5 (-1), 3) := by decide +kernel
theorem d_M_plays_283 : decode (z_c m_M_plays) 283 = .ok (.goto (-81), 3) := by decide +kernel
theorem d_M_plays_286 : decode (z_c m_M_plays) 286 = .ok (.return_, 1) := by decide +kernel
abbrev L_M_plays_55 (X : z_X) (N : Nat) (σ : z_G) (x3 x5 : Int) (g : z_G) (Q : z_P) : Prop := z_U X 2 m_M_plays 55 [(0, (2, 0)), (3, (0, x3)), (5, (0, x5))] [] N σ g Q
abbrev L_M_plays_161 (X : z_X) (N : Nat) (σ : z_G) (x3 x5 : Int) (g : z_G) (Q : z_P) : Prop := z_U X 2 m_M_plays 161 [(0, (2, 0)), (3, (0, x3)), (5, (0, x5))] [] N σ g Q
abbrev L_M_plays_69 (X : z_X) (N : Nat) (σ : z_G) (x3 x5 x6 : Int) (g : z_G) (Q : z_P) : Prop := z_U X 2 m_M_plays 69 [(0, (2, 0)), (3, (0, x3)), (5, (0, x5)), (6, (0, x6))] [] N σ g Q
abbrev L_M_plays_202 (X : z_X) (N : Nat) (σ : z_G) (x5 : Int) (g : z_G) (Q : z_P) : Prop := z_U X 2 m_M_plays 202 [(0, (2, 0)), (5, (0, x5))] [] N σ g Q
abbrev L_M_plays_210 (X : z_X) (N : Nat) (σ : z_G) (x5 x6 : Int) (g : z_G) (Q : z_P) : Prop := z_U X 2 m_M_plays 210 [(0, (2, 0)), (5, (0, x5)), (6, (0, x6))] [] N σ g Q
set_option maxRecDepth 8000 in
theorem b_M_plays_0 {X : z_X} {N : Nat} {σ g : z_G} {Q : z_P} {a1 a2 a3 : Int} (hx : z_lay X N σ 0 z_SM z_RM) (h : z_O X 1 m_M_common [(0, a1), (0, a2)] N σ g (fun r0 g0 => ((0 < r0) ∧ (z_O X 1 m_M_findsChild [(2, 0), (0, Int.tdiv a1 r0), (0, Int.tdiv a2 r0), (0, 0)] N σ g0 (fun r1 g1 => ((-2147483648 ≤ ((g1 0 29) - (Int.tdiv a2 r0)) ∧ ((g1 0 29) - (Int.tdiv a2 r0)) ≤ 2147483647) ∧ ((-2147483648 ≤ ((Int.tdiv a2 r0) - ((g1 0 29) - (Int.tdiv a2 r0))) ∧ ((Int.tdiv a2 r0) - ((g1 0 29) - (Int.tdiv a2 r0))) ≤ 2147483647) ∧ L_M_plays_55 X N σ a3 0 (z_up (z_up g1 11 0 ((g1 0 29) - (Int.tdiv a2 r0))) 12 0 ((Int.tdiv a2 r0) - ((g1 0 29) - (Int.tdiv a2 r0)))) Q))))))) : z_O X 2 m_M_plays [(2, 0), (0, a1), (0, a2), (0, a3)] N σ g Q := by
  refine z_Oenter mi_M_plays rfl (fun _ => ?_)
  show z_U X 2 m_M_plays 0 [(0, (2, 0)), (1, (0, a1)), (2, (0, a2)), (3, (0, a3))] [] N σ g Q
  refine z_iload_n (i := 1) 1 d_M_plays_0 rfl rfl ?_
  refine z_iload_n (i := 2) 2 d_M_plays_1 rfl rfl ?_
  refine z_cS (as := [(0, a1), (0, a2)]) (d' := 1) (st := []) d_M_plays_2 mi_M_common ml_M_182 ms_M_common rfl rfl rfl rfl rfl (z_Omono h (fun r0 g0 _ h hro => ?_))
  show z_U X 2 m_M_plays 5 [(0, (2, 0)), (1, (0, a1)), (2, (0, a2)), (3, (0, a3))] [(0, r0)] N σ g0 Q
  refine z_istore (ls' := [(4, (0, r0)), (0, (2, 0)), (1, (0, a1)), (2, (0, a2)), (3, (0, a3))]) d_M_plays_5 rfl rfl ?_
  refine z_aload_n (i := 0) (c := 0) 1 d_M_plays_7 rfl rfl rfl ?_
  refine z_iload_n (i := 1) 2 d_M_plays_8 rfl rfl ?_
  refine z_iload 0 d_M_plays_9 rfl ?_
  obtain ⟨c1, h⟩ := h
  refine z_idiv d_M_plays_11 c1 ?_
  refine z_iload_n (i := 2) 3 d_M_plays_12 rfl rfl ?_
  refine z_iload 0 d_M_plays_13 rfl ?_
  refine z_idiv d_M_plays_15 c1 ?_
  refine z_iconst (n := 0) d_M_plays_16 (by decide) ?_
  refine z_cV (c := 0) (as := [(0, Int.tdiv a1 r0), (0, Int.tdiv a2 r0), (0, 0)]) (d' := 1) (st := []) d_M_plays_17 mi_M_findsChild ml_M_325 mv_M_findsChild se_M_findsChild rfl rfl rfl rfl (ks_M_0 hx) rfl rfl (kl_M_0 hx) rfl rfl (z_Omono h (fun r1 g1 _ h hro => ?_))
  show z_U X 2 m_M_plays 20 [(4, (0, r0)), (0, (2, 0)), (1, (0, a1)), (2, (0, a2)), (3, (0, a3))] [] N σ g1 Q
  refine z_aload_n (i := 0) (c := 0) 1 d_M_plays_20 rfl rfl rfl ?_
  refine z_getr (c := 0) (kI := 31) (r2 := 11) d_M_plays_21 fd_M_lowBy fl_M_53 rfl rfl rfl (ks_M_0 hx) (kl_M_0 hx) (kr_M_0_31 hx) ?_
  refine z_iconst (n := 0) d_M_plays_24 (by decide) ?_
  refine z_aload_n (i := 0) (c := 0) 1 d_M_plays_25 rfl rfl rfl ?_
  refine z_geti (c := 0) (kI := 29) d_M_plays_26 fd_M_foundBottom fl_M_303 (Or.inl rfl) rfl rfl (ks_M_0 hx) (kl_M_0 hx) ?_
  refine z_iload_n (i := 2) 3 d_M_plays_29 rfl rfl ?_
  refine z_iload 0 d_M_plays_30 rfl ?_
  refine z_idiv d_M_plays_32 c1 ?_
  obtain ⟨c2, h⟩ := h
  refine z_isub d_M_plays_33 c2 ?_
  refine z_iast (c := 11) (m := 1024) d_M_plays_34 rfl (ks_M_11 hx) (kl_M_11 hx) rfl (by decide) (by decide) ?_
  refine z_aload_n (i := 0) (c := 0) 1 d_M_plays_35 rfl rfl rfl ?_
  refine z_getr (c := 0) (kI := 32) (r2 := 12) d_M_plays_36 fd_M_highBy fl_M_56 rfl rfl rfl (ks_M_0 hx) (kl_M_0 hx) (kr_M_0_32 hx) ?_
  refine z_iconst (n := 0) d_M_plays_39 (by decide) ?_
  refine z_iload_n (i := 2) 3 d_M_plays_40 rfl rfl ?_
  refine z_iload 0 d_M_plays_41 rfl ?_
  refine z_idiv d_M_plays_43 c1 ?_
  refine z_aload_n (i := 0) (c := 0) 1 d_M_plays_44 rfl rfl rfl ?_
  refine z_getr (c := 0) (kI := 31) (r2 := 11) d_M_plays_45 fd_M_lowBy fl_M_53 rfl rfl rfl (ks_M_0 hx) (kl_M_0 hx) (kr_M_0_31 hx) ?_
  refine z_iconst (n := 0) d_M_plays_48 (by decide) ?_
  refine z_iald (c := 11) (m := 1024) d_M_plays_49 rfl (ks_M_11 hx) (kl_M_11 hx) rfl (by decide) (by decide) ?_
  refine z_ti (b := (g1 0 29) - (Int.tdiv a2 r0)) (by simp [z_up]) ?_
  obtain ⟨c3, h⟩ := h
  refine z_isub d_M_plays_50 c3 ?_
  refine z_iast (c := 12) (m := 1024) d_M_plays_51 rfl (ks_M_12 hx) (kl_M_12 hx) rfl (by decide) (by decide) ?_
  refine z_iconst (n := 0) d_M_plays_52 (by decide) ?_
  refine z_istore (ls' := [(5, (0, 0)), (4, (0, r0)), (0, (2, 0)), (1, (0, a1)), (2, (0, a2)), (3, (0, a3))]) d_M_plays_53 rfl rfl ?_
  refine z_sub (ls' := [(0, (2, 0)), (3, (0, a3)), (5, (0, 0))]) [2, 5, 0] rfl ?_
  exact h
set_option maxRecDepth 8000 in
theorem b_M_plays_55 {X : z_X} {N : Nat} {σ g : z_G} {Q : z_P} {x3 x5 : Int} (hx : z_lay X N σ 0 z_SM z_RM) (h : ((x3 ≤ x5) → L_M_plays_161 X N σ x3 0 g Q) ∧ (¬ (x3 ≤ x5) → ((-2147483648 ≤ ((Int32.toInt (Int32.ofInt 1 <<< (Int32.ofInt x5 &&& 31))) - 1) ∧ ((Int32.toInt (Int32.ofInt 1 <<< (Int32.ofInt x5 &&& 31))) - 1) ≤ 2147483647) ∧ L_M_plays_69 X N σ x3 x5 ((Int32.toInt (Int32.ofInt 1 <<< (Int32.ofInt x5 &&& 31))) - 1) g Q))) : L_M_plays_55 X N σ x3 x5 g Q := by
  refine z_iload 2 d_M_plays_55 rfl ?_
  refine z_iload_n (i := 3) 1 d_M_plays_57 rfl rfl ?_
  refine z_icmp_ge (tgt := 158) d_M_plays_58 (by decide) (fun c1 => ?_) (fun c1 => ?_)
  · have h := h.1 c1
    refine z_iconst (n := 0) d_M_plays_158 (by decide) ?_
    refine z_istore (ls' := [(5, (0, 0)), (0, (2, 0)), (3, (0, x3))]) d_M_plays_159 rfl rfl ?_
    refine z_sub (ls' := [(0, (2, 0)), (3, (0, x3)), (5, (0, 0))]) [1, 2, 0] rfl ?_
    exact h
  · have h := h.2 c1
    refine z_iconst (n := 1) d_M_plays_61 (by decide) ?_
    refine z_iload 2 d_M_plays_62 rfl ?_
    refine z_ishl d_M_plays_64 ?_
    refine z_iconst (n := 1) d_M_plays_65 (by decide) ?_
    obtain ⟨c2, h⟩ := h
    refine z_isub d_M_plays_66 c2 ?_
    refine z_istore (ls' := [(6, (0, (Int32.toInt (Int32.ofInt 1 <<< (Int32.ofInt x5 &&& 31))) - 1)), (0, (2, 0)), (3, (0, x3)), (5, (0, x5))]) d_M_plays_67 rfl rfl ?_
    refine z_sub (ls' := [(0, (2, 0)), (3, (0, x3)), (5, (0, x5)), (6, (0, (Int32.toInt (Int32.ofInt 1 <<< (Int32.ofInt x5 &&& 31))) - 1))]) [1, 2, 3, 0] rfl ?_
    exact h
set_option maxRecDepth 8000 in
theorem b_M_plays_161 {X : z_X} {N : Nat} {σ g : z_G} {Q : z_P} {x3 x5 : Int} (hx : z_lay X N σ 0 z_SM z_RM) (h : (((Int32.toInt (Int32.ofInt 1 <<< (Int32.ofInt x3 &&& 31))) ≤ x5) → ((-2147483648 ≤ (x3 - 1) ∧ (x3 - 1) ≤ 2147483647) ∧ L_M_plays_202 X N σ (x3 - 1) g Q)) ∧ (¬ ((Int32.toInt (Int32.ofInt 1 <<< (Int32.ofInt x3 &&& 31))) ≤ x5) → ((0 ≤ x5 ∧ x5 < 1024) ∧ ((-2147483648 ≤ ((g 11 x5) + (g 12 x5)) ∧ ((g 11 x5) + (g 12 x5)) ≤ 2147483647) ∧ ((-2147483648 ≤ (x5 + 1) ∧ (x5 + 1) ≤ 2147483647) ∧ L_M_plays_161 X N σ x3 (x5 + 1) (z_up g 13 x5 ((g 11 x5) + (g 12 x5))) Q))))) : L_M_plays_161 X N σ x3 x5 g Q := by
  refine z_iload 2 d_M_plays_161 rfl ?_
  refine z_iconst (n := 1) d_M_plays_163 (by decide) ?_
  refine z_iload_n (i := 3) 1 d_M_plays_164 rfl rfl ?_
  refine z_ishl d_M_plays_165 ?_
  refine z_icmp_ge (tgt := 197) d_M_plays_166 (by decide) (fun c1 => ?_) (fun c1 => ?_)
  · have h := h.1 c1
    refine z_iload_n (i := 3) 1 d_M_plays_197 rfl rfl ?_
    refine z_iconst (n := 1) d_M_plays_198 (by decide) ?_
    obtain ⟨c2, h⟩ := h
    refine z_isub d_M_plays_199 c2 ?_
    refine z_istore (ls' := [(5, (0, x3 - 1)), (0, (2, 0)), (3, (0, x3))]) d_M_plays_200 rfl rfl ?_
    refine z_sub (ls' := [(0, (2, 0)), (5, (0, x3 - 1))]) [1, 0] rfl ?_
    exact h
  · have h := h.2 c1
    refine z_aload_n (i := 0) (c := 0) 0 d_M_plays_169 rfl rfl rfl ?_
    refine z_getr (c := 0) (kI := 33) (r2 := 13) d_M_plays_170 fd_M_endBy fl_M_59 rfl rfl rfl (ks_M_0 hx) (kl_M_0 hx) (kr_M_0_33 hx) ?_
    refine z_iload 2 d_M_plays_173 rfl ?_
    refine z_aload_n (i := 0) (c := 0) 0 d_M_plays_175 rfl rfl rfl ?_
    refine z_getr (c := 0) (kI := 31) (r2 := 11) d_M_plays_176 fd_M_lowBy fl_M_53 rfl rfl rfl (ks_M_0 hx) (kl_M_0 hx) (kr_M_0_31 hx) ?_
    refine z_iload 2 d_M_plays_179 rfl ?_
    obtain ⟨c3, h⟩ := h
    refine z_iald (c := 11) (m := 1024) d_M_plays_181 rfl (ks_M_11 hx) (kl_M_11 hx) rfl (by decide) c3 ?_
    refine z_aload_n (i := 0) (c := 0) 0 d_M_plays_182 rfl rfl rfl ?_
    refine z_getr (c := 0) (kI := 32) (r2 := 12) d_M_plays_183 fd_M_highBy fl_M_56 rfl rfl rfl (ks_M_0 hx) (kl_M_0 hx) (kr_M_0_32 hx) ?_
    refine z_iload 2 d_M_plays_186 rfl ?_
    refine z_iald (c := 12) (m := 1024) d_M_plays_188 rfl (ks_M_12 hx) (kl_M_12 hx) rfl (by decide) c3 ?_
    obtain ⟨c4, h⟩ := h
    refine z_iadd d_M_plays_189 c4 ?_
    refine z_iast (c := 13) (m := 1024) d_M_plays_190 rfl (ks_M_13 hx) (kl_M_13 hx) rfl (by decide) c3 ?_
    obtain ⟨c5, h⟩ := h
    refine z_iinc (n := 1) (ls' := [(5, (0, x5 + 1)), (0, (2, 0)), (3, (0, x3))]) 2 d_M_plays_191 rfl c5 rfl rfl ?_
    refine z_goto (tgt := 161) d_M_plays_194 (by decide) ?_
    refine z_sub (ls' := [(0, (2, 0)), (3, (0, x3)), (5, (0, x5 + 1))]) [1, 2, 0] rfl ?_
    exact h
set_option maxRecDepth 8000 in
theorem b_M_plays_69 {X : z_X} {N : Nat} {σ g : z_G} {Q : z_P} {x3 x5 x6 : Int} (hx : z_lay X N σ 0 z_SM z_RM) (h : ((x6 < 0) → ((-2147483648 ≤ (x5 + 1) ∧ (x5 + 1) ≤ 2147483647) ∧ L_M_plays_55 X N σ x3 (x5 + 1) g Q)) ∧ (¬ (x6 < 0) → ((0 ≤ x6 ∧ x6 < 1024) ∧ ((-2147483648 ≤ (2 * x6) ∧ (2 * x6) ≤ 2147483647) ∧ ((0 ≤ (2 * x6) ∧ (2 * x6) < 1024) ∧ ((-2147483648 ≤ ((g 11 x6) + (g 12 x6)) ∧ ((g 11 x6) + (g 12 x6)) ≤ 2147483647) ∧ ((-2147483648 ≤ ((2 * x6) + 1) ∧ ((2 * x6) + 1) ≤ 2147483647) ∧ ((0 ≤ ((2 * x6) + 1) ∧ ((2 * x6) + 1) < 1024) ∧ ((-2147483648 ≤ (x6 + (-1)) ∧ (x6 + (-1)) ≤ 2147483647) ∧ L_M_plays_69 X N σ x3 x5 (x6 + (-1)) (z_up (z_up (z_up (z_up g 11 (2 * x6) (g 11 x6)) 12 (2 * x6) ((g 11 x6) + (g 12 x6))) 11 ((2 * x6) + 1) ((g 11 x6) + (g 12 x6))) 12 ((2 * x6) + 1) (g 12 x6)) Q))))))))) : L_M_plays_69 X N σ x3 x5 x6 g Q := by
  refine z_iload 3 d_M_plays_69 rfl ?_
  refine z_if_lt (tgt := 152) d_M_plays_71 (by decide) (fun c1 => ?_) (fun c1 => ?_)
  · have h := h.1 c1
    obtain ⟨c2, h⟩ := h
    refine z_iinc (n := 1) (ls' := [(5, (0, x5 + 1)), (0, (2, 0)), (3, (0, x3)), (6, (0, x6))]) 2 d_M_plays_152 rfl c2 rfl rfl ?_
    refine z_goto (tgt := 55) d_M_plays_155 (by decide) ?_
    refine z_sub (ls' := [(0, (2, 0)), (3, (0, x3)), (5, (0, x5 + 1))]) [1, 2, 0] rfl ?_
    exact h
  · have h := h.2 c1
    refine z_aload_n (i := 0) (c := 0) 0 d_M_plays_74 rfl rfl rfl ?_
    refine z_getr (c := 0) (kI := 31) (r2 := 11) d_M_plays_75 fd_M_lowBy fl_M_53 rfl rfl rfl (ks_M_0 hx) (kl_M_0 hx) (kr_M_0_31 hx) ?_
    refine z_iload 3 d_M_plays_78 rfl ?_
    obtain ⟨c3, h⟩ := h
    refine z_iald (c := 11) (m := 1024) d_M_plays_80 rfl (ks_M_11 hx) (kl_M_11 hx) rfl (by decide) c3 ?_
    refine z_istore (ls' := [(7, (0, g 11 x6)), (0, (2, 0)), (3, (0, x3)), (5, (0, x5)), (6, (0, x6))]) d_M_plays_81 rfl rfl ?_
    refine z_aload_n (i := 0) (c := 0) 1 d_M_plays_83 rfl rfl rfl ?_
    refine z_getr (c := 0) (kI := 32) (r2 := 12) d_M_plays_84 fd_M_highBy fl_M_56 rfl rfl rfl (ks_M_0 hx) (kl_M_0 hx) (kr_M_0_32 hx) ?_
    refine z_iload 4 d_M_plays_87 rfl ?_
    refine z_iald (c := 12) (m := 1024) d_M_plays_89 rfl (ks_M_12 hx) (kl_M_12 hx) rfl (by decide) c3 ?_
    refine z_istore (ls' := [(8, (0, g 12 x6)), (7, (0, g 11 x6)), (0, (2, 0)), (3, (0, x3)), (5, (0, x5)), (6, (0, x6))]) d_M_plays_90 rfl rfl ?_
    refine z_aload_n (i := 0) (c := 0) 2 d_M_plays_92 rfl rfl rfl ?_
    refine z_getr (c := 0) (kI := 31) (r2 := 11) d_M_plays_93 fd_M_lowBy fl_M_53 rfl rfl rfl (ks_M_0 hx) (kl_M_0 hx) (kr_M_0_31 hx) ?_
    refine z_iconst (n := 2) d_M_plays_96 (by decide) ?_
    refine z_iload 5 d_M_plays_97 rfl ?_
    obtain ⟨c4, h⟩ := h
    refine z_imul d_M_plays_99 c4 ?_
    refine z_iload 1 d_M_plays_100 rfl ?_
    obtain ⟨c5, h⟩ := h
    refine z_iast (c := 11) (m := 1024) d_M_plays_102 rfl (ks_M_11 hx) (kl_M_11 hx) rfl (by decide) c5 ?_
    refine z_aload_n (i := 0) (c := 0) 2 d_M_plays_103 rfl rfl rfl ?_
    refine z_getr (c := 0) (kI := 32) (r2 := 12) d_M_plays_104 fd_M_highBy fl_M_56 rfl rfl rfl (ks_M_0 hx) (kl_M_0 hx) (kr_M_0_32 hx) ?_
    refine z_iconst (n := 2) d_M_plays_107 (by decide) ?_
    refine z_iload 5 d_M_plays_108 rfl ?_
    refine z_imul d_M_plays_110 c4 ?_
    refine z_iload 1 d_M_plays_111 rfl ?_
    refine z_iload 0 d_M_plays_113 rfl ?_
    obtain ⟨c6, h⟩ := h
    refine z_iadd d_M_plays_115 c6 ?_
    refine z_iast (c := 12) (m := 1024) d_M_plays_116 rfl (ks_M_12 hx) (kl_M_12 hx) rfl (by decide) c5 ?_
    refine z_aload_n (i := 0) (c := 0) 2 d_M_plays_117 rfl rfl rfl ?_
    refine z_getr (c := 0) (kI := 31) (r2 := 11) d_M_plays_118 fd_M_lowBy fl_M_53 rfl rfl rfl (ks_M_0 hx) (kl_M_0 hx) (kr_M_0_31 hx) ?_
    refine z_iconst (n := 2) d_M_plays_121 (by decide) ?_
    refine z_iload 5 d_M_plays_122 rfl ?_
    refine z_imul d_M_plays_124 c4 ?_
    refine z_iconst (n := 1) d_M_plays_125 (by decide) ?_
    obtain ⟨c7, h⟩ := h
    refine z_iadd d_M_plays_126 c7 ?_
    refine z_iload 1 d_M_plays_127 rfl ?_
    refine z_iload 0 d_M_plays_129 rfl ?_
    refine z_iadd d_M_plays_131 c6 ?_
    obtain ⟨c8, h⟩ := h
    refine z_iast (c := 11) (m := 1024) d_M_plays_132 rfl (ks_M_11 hx) (kl_M_11 hx) rfl (by decide) c8 ?_
    refine z_aload_n (i := 0) (c := 0) 2 d_M_plays_133 rfl rfl rfl ?_
    refine z_getr (c := 0) (kI := 32) (r2 := 12) d_M_plays_134 fd_M_highBy fl_M_56 rfl rfl rfl (ks_M_0 hx) (kl_M_0 hx) (kr_M_0_32 hx) ?_
    refine z_iconst (n := 2) d_M_plays_137 (by decide) ?_
    refine z_iload 5 d_M_plays_138 rfl ?_
    refine z_imul d_M_plays_140 c4 ?_
    refine z_iconst (n := 1) d_M_plays_141 (by decide) ?_
    refine z_iadd d_M_plays_142 c7 ?_
    refine z_iload 0 d_M_plays_143 rfl ?_
    refine z_iast (c := 12) (m := 1024) d_M_plays_145 rfl (ks_M_12 hx) (kl_M_12 hx) rfl (by decide) c8 ?_
    obtain ⟨c9, h⟩ := h
    refine z_iinc (n := (-1)) (ls' := [(6, (0, x6 + (-1))), (8, (0, g 12 x6)), (7, (0, g 11 x6)), (0, (2, 0)), (3, (0, x3)), (5, (0, x5))]) 5 d_M_plays_146 rfl c9 rfl rfl ?_
    refine z_goto (tgt := 69) d_M_plays_149 (by decide) ?_
    refine z_sub (ls' := [(0, (2, 0)), (3, (0, x3)), (5, (0, x5)), (6, (0, x6 + (-1)))]) [3, 4, 5, 0] rfl ?_
    exact h
set_option maxRecDepth 8000 in
theorem b_M_plays_202 {X : z_X} {N : Nat} {σ g : z_G} {Q : z_P} {x5 : Int} (hx : z_lay X N σ 0 z_SM z_RM) (h : ((x5 ≤ 0) → Q 0 g) ∧ (¬ (x5 ≤ 0) → L_M_plays_210 X N σ x5 0 g Q)) : L_M_plays_202 X N σ x5 g Q := by
  refine z_iload 1 d_M_plays_202 rfl ?_
  refine z_if_le (tgt := 286) d_M_plays_204 (by decide) (fun c1 => ?_) (fun c1 => ?_)
  · have h := h.1 c1
    exact z_vret d_M_plays_286 rfl (by decide) (by decide) ⟨rfl, rfl, h⟩
  · have h := h.2 c1
    refine z_iconst (n := 0) d_M_plays_207 (by decide) ?_
    refine z_istore (ls' := [(6, (0, 0)), (0, (2, 0)), (5, (0, x5))]) d_M_plays_208 rfl rfl ?_
    refine z_sub (ls' := [(0, (2, 0)), (5, (0, x5)), (6, (0, 0))]) [1, 2, 0] rfl ?_
    exact h
set_option maxRecDepth 8000 in
theorem b_M_plays_210 {X : z_X} {N : Nat} {σ g : z_G} {Q : z_P} {x5 x6 : Int} (hx : z_lay X N σ 0 z_SM z_RM) (h : (((Int32.toInt (Int32.ofInt 1 <<< (Int32.ofInt x5 &&& 31))) ≤ x6) → ((-2147483648 ≤ (x5 + (-1)) ∧ (x5 + (-1)) ≤ 2147483647) ∧ L_M_plays_202 X N σ (x5 + (-1)) g Q)) ∧ (¬ ((Int32.toInt (Int32.ofInt 1 <<< (Int32.ofInt x5 &&& 31))) ≤ x6) → ((-2147483648 ≤ (2 * x6) ∧ (2 * x6) ≤ 2147483647) ∧ ((0 ≤ (2 * x6) ∧ (2 * x6) < 1024) ∧ ((-2147483648 ≤ ((2 * x6) + 1) ∧ ((2 * x6) + 1) ≤ 2147483647) ∧ ((0 ≤ ((2 * x6) + 1) ∧ ((2 * x6) + 1) < 1024) ∧ ((((Int.tmod x5 2) = 0) → ((((g 13 (2 * x6)) < (g 13 ((2 * x6) + 1))) → ((0 ≤ x6 ∧ x6 < 1024) ∧ ((-2147483648 ≤ (x6 + 1) ∧ (x6 + 1) ≤ 2147483647) ∧ L_M_plays_210 X N σ x5 (x6 + 1) (z_up g 13 x6 (g 13 ((2 * x6) + 1))) Q))) ∧ (¬ ((g 13 (2 * x6)) < (g 13 ((2 * x6) + 1))) → ((0 ≤ x6 ∧ x6 < 1024) ∧ ((-2147483648 ≤ (x6 + 1) ∧ (x6 + 1) ≤ 2147483647) ∧ L_M_plays_210 X N σ x5 (x6 + 1) (z_up g 13 x6 (g 13 (2 * x6))) Q))))) ∧ (¬ ((Int.tmod x5 2) = 0) → ((((g 13 ((2 * x6) + 1)) < (g 13 (2 * x6))) → ((0 ≤ x6 ∧ x6 < 1024) ∧ ((-2147483648 ≤ (x6 + 1) ∧ (x6 + 1) ≤ 2147483647) ∧ L_M_plays_210 X N σ x5 (x6 + 1) (z_up g 13 x6 (g 13 ((2 * x6) + 1))) Q))) ∧ (¬ ((g 13 ((2 * x6) + 1)) < (g 13 (2 * x6))) → ((0 ≤ x6 ∧ x6 < 1024) ∧ ((-2147483648 ≤ (x6 + 1) ∧ (x6 + 1) ≤ 2147483647) ∧ L_M_plays_210 X N σ x5 (x6 + 1) (z_up g 13 x6 (g 13 (2 * x6))) Q)))))))))))) : L_M_plays_210 X N σ x5 x6 g Q := by
  refine z_iload 2 d_M_plays_210 rfl ?_
  refine z_iconst (n := 1) d_M_plays_212 (by decide) ?_
  refine z_iload 1 d_M_plays_213 rfl ?_
  refine z_ishl d_M_plays_215 ?_
  refine z_icmp_ge (tgt := 280) d_M_plays_216 (by decide) (fun c1 => ?_) (fun c1 => ?_)
  · have h := h.1 c1
    obtain ⟨c2, h⟩ := h
    refine z_iinc (n := (-1)) (ls' := [(5, (0, x5 + (-1))), (0, (2, 0)), (6, (0, x6))]) 1 d_M_plays_280 rfl c2 rfl rfl ?_
    refine z_goto (tgt := 202) d_M_plays_283 (by decide) ?_
    refine z_sub (ls' := [(0, (2, 0)), (5, (0, x5 + (-1)))]) [1, 0] rfl ?_
    exact h
  · have h := h.2 c1
    refine z_aload_n (i := 0) (c := 0) 0 d_M_plays_219 rfl rfl rfl ?_
    refine z_getr (c := 0) (kI := 33) (r2 := 13) d_M_plays_220 fd_M_endBy fl_M_59 rfl rfl rfl (ks_M_0 hx) (kl_M_0 hx) (kr_M_0_33 hx) ?_
    refine z_iconst (n := 2) d_M_plays_223 (by decide) ?_
    refine z_iload 2 d_M_plays_224 rfl ?_
    obtain ⟨c3, h⟩ := h
    refine z_imul d_M_plays_226 c3 ?_
    obtain ⟨c4, h⟩ := h
    refine z_iald (c := 13) (m := 1024) d_M_plays_227 rfl (ks_M_13 hx) (kl_M_13 hx) rfl (by decide) c4 ?_
    refine z_istore (ls' := [(7, (0, g 13 (2 * x6))), (0, (2, 0)), (5, (0, x5)), (6, (0, x6))]) d_M_plays_228 rfl rfl ?_
    refine z_aload_n (i := 0) (c := 0) 1 d_M_plays_230 rfl rfl rfl ?_
    refine z_getr (c := 0) (kI := 33) (r2 := 13) d_M_plays_231 fd_M_endBy fl_M_59 rfl rfl rfl (ks_M_0 hx) (kl_M_0 hx) (kr_M_0_33 hx) ?_
    refine z_iconst (n := 2) d_M_plays_234 (by decide) ?_
    refine z_iload 3 d_M_plays_235 rfl ?_
    refine z_imul d_M_plays_237 c3 ?_
    refine z_iconst (n := 1) d_M_plays_238 (by decide) ?_
    obtain ⟨c5, h⟩ := h
    refine z_iadd d_M_plays_239 c5 ?_
    obtain ⟨c6, h⟩ := h
    refine z_iald (c := 13) (m := 1024) d_M_plays_240 rfl (ks_M_13 hx) (kl_M_13 hx) rfl (by decide) c6 ?_
    refine z_istore (ls' := [(8, (0, g 13 ((2 * x6) + 1))), (7, (0, g 13 (2 * x6))), (0, (2, 0)), (5, (0, x5)), (6, (0, x6))]) d_M_plays_241 rfl rfl ?_
    refine z_aload_n (i := 0) (c := 0) 2 d_M_plays_243 rfl rfl rfl ?_
    refine z_getr (c := 0) (kI := 33) (r2 := 13) d_M_plays_244 fd_M_endBy fl_M_59 rfl rfl rfl (ks_M_0 hx) (kl_M_0 hx) (kr_M_0_33 hx) ?_
    refine z_iload 4 d_M_plays_247 rfl ?_
    refine z_iload 3 d_M_plays_249 rfl ?_
    refine z_iconst (n := 2) d_M_plays_251 (by decide) ?_
    refine z_irem d_M_plays_252 (by decide) ?_
    refine z_if_ne (tgt := 266) d_M_plays_253 (by decide) (fun c7 => ?_) (fun c7 => ?_)
    · have h := h.2 c7
      refine z_iload 1 d_M_plays_266 rfl ?_
      refine z_iload 0 d_M_plays_268 rfl ?_
      refine z_mmin d_M_plays_270 kmm_min_M_142 kms_min kmi kmc_min (by decide) (Nat.le_of_ble_eq_true rfl) (fun c8 => ?_) (fun c8 => ?_)
      · have h := h.1 c8
        obtain ⟨c9, h⟩ := h
        refine z_iast (c := 13) (m := 1024) d_M_plays_273 rfl (ks_M_13 hx) (kl_M_13 hx) rfl (by decide) c9 ?_
        obtain ⟨c10, h⟩ := h
        refine z_iinc (n := 1) (ls' := [(6, (0, x6 + 1)), (8, (0, g 13 ((2 * x6) + 1))), (7, (0, g 13 (2 * x6))), (0, (2, 0)), (5, (0, x5))]) 4 d_M_plays_274 rfl c10 rfl rfl ?_
        refine z_goto (tgt := 210) d_M_plays_277 (by decide) ?_
        refine z_sub (ls' := [(0, (2, 0)), (5, (0, x5)), (6, (0, x6 + 1))]) [3, 4, 0] rfl ?_
        exact h
      · have h := h.2 c8
        obtain ⟨c11, h⟩ := h
        refine z_iast (c := 13) (m := 1024) d_M_plays_273 rfl (ks_M_13 hx) (kl_M_13 hx) rfl (by decide) c11 ?_
        obtain ⟨c12, h⟩ := h
        refine z_iinc (n := 1) (ls' := [(6, (0, x6 + 1)), (8, (0, g 13 ((2 * x6) + 1))), (7, (0, g 13 (2 * x6))), (0, (2, 0)), (5, (0, x5))]) 4 d_M_plays_274 rfl c12 rfl rfl ?_
        refine z_goto (tgt := 210) d_M_plays_277 (by decide) ?_
        refine z_sub (ls' := [(0, (2, 0)), (5, (0, x5)), (6, (0, x6 + 1))]) [3, 4, 0] rfl ?_
        exact h
    · have h := h.1 c7
      refine z_iload 1 d_M_plays_256 rfl ?_
      refine z_iload 0 d_M_plays_258 rfl ?_
      refine z_mmax d_M_plays_260 kmm_max_M_317 kms_max kmi kmc_max (by decide) (Nat.le_of_ble_eq_true rfl) (fun c13 => ?_) (fun c13 => ?_)
      · have h := h.1 c13
        refine z_goto (tgt := 273) d_M_plays_263 (by decide) ?_
        obtain ⟨c14, h⟩ := h
        refine z_iast (c := 13) (m := 1024) d_M_plays_273 rfl (ks_M_13 hx) (kl_M_13 hx) rfl (by decide) c14 ?_
        obtain ⟨c15, h⟩ := h
        refine z_iinc (n := 1) (ls' := [(6, (0, x6 + 1)), (8, (0, g 13 ((2 * x6) + 1))), (7, (0, g 13 (2 * x6))), (0, (2, 0)), (5, (0, x5))]) 4 d_M_plays_274 rfl c15 rfl rfl ?_
        refine z_goto (tgt := 210) d_M_plays_277 (by decide) ?_
        refine z_sub (ls' := [(0, (2, 0)), (5, (0, x5)), (6, (0, x6 + 1))]) [3, 4, 0] rfl ?_
        exact h
      · have h := h.2 c13
        refine z_goto (tgt := 273) d_M_plays_263 (by decide) ?_
        obtain ⟨c16, h⟩ := h
        refine z_iast (c := 13) (m := 1024) d_M_plays_273 rfl (ks_M_13 hx) (kl_M_13 hx) rfl (by decide) c16 ?_
        obtain ⟨c17, h⟩ := h
        refine z_iinc (n := 1) (ls' := [(6, (0, x6 + 1)), (8, (0, g 13 ((2 * x6) + 1))), (7, (0, g 13 (2 * x6))), (0, (2, 0)), (5, (0, x5))]) 4 d_M_plays_274 rfl c17 rfl rfl ?_
        refine z_goto (tgt := 210) d_M_plays_277 (by decide) ?_
        refine z_sub (ls' := [(0, (2, 0)), (5, (0, x5)), (6, (0, x6 + 1))]) [3, 4, 0] rfl ?_
        exact h
theorem d_M_pour_0 : decode (z_c m_M_pour) 0 = .ok (.iload_n 1, 1) := by decide +kernel
theorem d_M_pour_1 : decode (z_c m_M_pour) 1 = .ok (.invokestatic 98, 3) := by decide +kernel
theorem d_M_pour_4 : decode (z_c m_M_pour) 4 = .ok (.ifCond .eq 24, 3) := by decide +kernel
theorem d_M_pour_7 : decode (z_c m_M_pour) 7 = .ok (.iload_n 3, 1) := by decide +kernel
theorem d_M_pour_8 : decode (z_c m_M_pour) 8 = .ok (.invokestatic 98, 3) := by decide +kernel
theorem d_M_pour_11 : decode (z_c m_M_pour) 11 = .ok (.ifCond .eq 17, 3) := by decide +kernel
theorem d_M_pour_14 : decode (z_c m_M_pour) 14 = .ok (.iload_n 2, 1) := by decide +kernel
theorem d_M_pour_15 : decode (z_c m_M_pour) 15 = .ok (.ifCond .lt 13, 3) := by decide +kernel
theorem d_M_pour_18 : decode (z_c m_M_pour) 18 = .ok (.iload 4, 2) := by decide +kernel
theorem d_M_pour_20 : decode (z_c m_M_pour) 20 = .ok (.ifCond .lt 8, 3) := by decide +kernel
theorem d_M_pour_23 : decode (z_c m_M_pour) 23 = .ok (.iload 5, 2) := by decide +kernel
theorem d_M_pour_25 : decode (z_c m_M_pour) 25 = .ok (.ifCond .ge 9, 3) := by decide +kernel
theorem d_M_pour_28 : decode (z_c m_M_pour) 28 = .ok (.aload_n 0, 1) := by decide +kernel
theorem d_M_pour_29 : decode (z_c m_M_pour) 29 = .ok (.iconst 1, 1) := by decide +kernel
theorem d_M_pour_30 : decode (z_c m_M_pour) 30 = .ok (.invokevirtual 94, 3) := by decide +kernel
theorem d_M_pour_33 : decode (z_c m_M_pour) 33 = .ok (.ireturn, 1) := by decide +kernel
theorem d_M_pour_34 : decode (z_c m_M_pour) 34 = .ok (.aload_n 0, 1) := by decide +kernel
theorem d_M_pour_35 : decode (z_c m_M_pour) 35 = .ok (.getfield 20, 3) := by decide +kernel
theorem d_M_pour_38 : decode (z_c m_M_pour) 38 = .ok (.iload_n 1, 1) := by decide +kernel
theorem d_M_pour_39 : decode (z_c m_M_pour) 39 = .ok (.iaload, 1) := by decide +kernel
theorem d_M_pour_40 : decode (z_c m_M_pour) 40 = .ok (.iconst (-1), 1) := by decide +kernel
theorem d_M_pour_41 : decode (z_c m_M_pour) 41 = .ok (.if_icmp .eq 13, 3) := by decide +kernel
theorem d_M_pour_44 : decode (z_c m_M_pour) 44 = .ok (.aload_n 0, 1) := by decide +kernel
theorem d_M_pour_45 : decode (z_c m_M_pour) 45 = .ok (.getfield 20, 3) := by decide +kernel
theorem d_M_pour_48 : decode (z_c m_M_pour) 48 = .ok (.iload_n 3, 1) := by decide +kernel
theorem d_M_pour_49 : decode (z_c m_M_pour) 49 = .ok (.iaload, 1) := by decide +kernel
theorem d_M_pour_50 : decode (z_c m_M_pour) 50 = .ok (.iconst (-1), 1) := by decide +kernel
theorem d_M_pour_51 : decode (z_c m_M_pour) 51 = .ok (.if_icmp .ne 9, 3) := by decide +kernel
theorem d_M_pour_54 : decode (z_c m_M_pour) 54 = .ok (.aload_n 0, 1) := by decide +kernel
theorem d_M_pour_55 : decode (z_c m_M_pour) 55 = .ok (.iconst 2, 1) := by decide +kernel
theorem d_M_pour_56 : decode (z_c m_M_pour) 56 = .ok (.invokevirtual 94, 3) := by decide +kernel
theorem d_M_pour_59 : decode (z_c m_M_pour) 59 = .ok (.ireturn, 1) := by decide +kernel
theorem d_M_pour_60 : decode (z_c m_M_pour) 60 = .ok (.aload_n 0, 1) := by decide +kernel
theorem d_M_pour_61 : decode (z_c m_M_pour) 61 = .ok (.getfield 17, 3) := by decide +kernel
theorem d_M_pour_64 : decode (z_c m_M_pour) 64 = .ok (.iload_n 1, 1) := by decide +kernel
theorem d_M_pour_65 : decode (z_c m_M_pour) 65 = .ok (.iaload, 1) := by decide +kernel
theorem d_M_pour_66 : decode (z_c m_M_pour) 66 = .ok (.aload_n 0, 1) := by decide +kernel
theorem d_M_pour_67 : decode (z_c m_M_pour) 67 = .ok (.getfield 17, 3) := by decide +kernel
theorem d_M_pour_70 : decode (z_c m_M_pour) 70 = .ok (.iload_n 3, 1) := by decide +kernel
theorem d_M_pour_71 : decode (z_c m_M_pour) 71 = .ok (.iaload, 1) := by decide +kernel
theorem d_M_pour_72 : decode (z_c m_M_pour) 72 = .ok (.if_icmp .eq 10, 3) := by decide +kernel
theorem d_M_pour_75 : decode (z_c m_M_pour) 75 = .ok (.aload_n 0, 1) := by decide +kernel
theorem d_M_pour_76 : decode (z_c m_M_pour) 76 = .ok (.bipush 8, 2) := by decide +kernel
theorem d_M_pour_78 : decode (z_c m_M_pour) 78 = .ok (.invokevirtual 94, 3) := by decide +kernel
theorem d_M_pour_81 : decode (z_c m_M_pour) 81 = .ok (.ireturn, 1) := by decide +kernel
theorem d_M_pour_82 : decode (z_c m_M_pour) 82 = .ok (.iload 5, 2) := by decide +kernel
theorem d_M_pour_84 : decode (z_c m_M_pour) 84 = .ok (.aload_n 0, 1) := by decide +kernel
theorem d_M_pour_85 : decode (z_c m_M_pour) 85 = .ok (.getfield 20, 3) := by decide +kernel
theorem d_M_pour_88 : decode (z_c m_M_pour) 88 = .ok (.iload_n 1, 1) := by decide +kernel
theorem d_M_pour_89 : decode (z_c m_M_pour) 89 = .ok (.iaload, 1) := by decide +kernel
theorem d_M_pour_90 : decode (z_c m_M_pour) 90 = .ok (.iload_n 2, 1) := by decide +kernel
theorem d_M_pour_91 : decode (z_c m_M_pour) 91 = .ok (.isub, 1) := by decide +kernel
theorem d_M_pour_92 : decode (z_c m_M_pour) 92 = .ok (.if_icmp .gt 17, 3) := by decide +kernel
theorem d_M_pour_95 : decode (z_c m_M_pour) 95 = .ok (.iload 5, 2) := by decide +kernel
theorem d_M_pour_97 : decode (z_c m_M_pour) 97 = .ok (.aload_n 0, 1) := by decide +kernel
theorem d_M_pour_98 : decode (z_c m_M_pour) 98 = .ok (.getfield 20, 3) := by decide +kernel
theorem d_M_pour_101 : decode (z_c m_M_pour) 101 = .ok (.iload_n 3, 1) := by decide +kernel
theorem d_M_pour_102 : decode (z_c m_M_pour) 102 = .ok (.iaload, 1) := by decide +kernel
theorem d_M_pour_103 : decode (z_c m_M_pour) 103 = .ok (.iload 4, 2) := by decide +kernel
theorem d_M_pour_105 : decode (z_c m_M_pour) 105 = .ok (.isub, 1) := by decide +kernel
theorem d_M_pour_106 : decode (z_c m_M_pour) 106 = .ok (.if_icmp .le 9, 3) := by decide +kernel
theorem d_M_pour_109 : decode (z_c m_M_pour) 109 = .ok (.aload_n 0, 1) := by decide +kernel
theorem d_M_pour_110 : decode (z_c m_M_pour) 110 = .ok (.iconst 3, 1) := by decide +kernel
theorem d_M_pour_111 : decode (z_c m_M_pour) 111 = .ok (.invokevirtual 94, 3) := by decide +kernel
theorem d_M_pour_114 : decode (z_c m_M_pour) 114 = .ok (.ireturn, 1) := by decide +kernel
theorem d_M_pour_115 : decode (z_c m_M_pour) 115 = .ok (.iconst 0, 1) := by decide +kernel
theorem d_M_pour_116 : decode (z_c m_M_pour) 116 = .ok (.istore 6, 2) := by decide +kernel
theorem d_M_pour_118 : decode (z_c m_M_pour) 118 = .ok (.iload 6, 2) := by decide +kernel
theorem d_M_pour_120 : decode (z_c m_M_pour) 120 = .ok (.iload 5, 2) := by decide +kernel
theorem d_M_pour_122 : decode (z_c m_M_pour) 122 = .ok (.if_icmp .ge 58, 3) := by decide +kernel
theorem d_M_pour_125 : decode (z_c m_M_pour) 125 = .ok (.iload_n 2, 1) := by decide +kernel
theorem d_M_pour_126 : decode (z_c m_M_pour) 126 = .ok (.iload 4, 2) := by decide +kernel
theorem d_M_pour_128 : decode (z_c m_M_pour) 128 = .ok (.if_icmp .ge 13, 3) := by decide +kernel
theorem d_M_pour_131 : decode (z_c m_M_pour) 131 = .ok (.iload 5, 2) := by decide +kernel
theorem d_M_pour_133 : decode (z_c m_M_pour) 133 = .ok (.iconst 1, 1) := by decide +kernel
theorem d_M_pour_134 : decode (z_c m_M_pour) 134 = .ok (.isub, 1) := by decide +kernel
theorem d_M_pour_135 : decode (z_c m_M_pour) 135 = .ok (.iload 6, 2) := by decide +kernel
theorem d_M_pour_137 : decode (z_c m_M_pour) 137 = .ok (.isub, 1) := by decide +kernel
theorem d_M_pour_138 : decode (z_c m_M_pour) 138 = .ok (.goto 5, 3) := by decide +kernel
theorem d_M_pour_141 : decode (z_c m_M_pour) 141 = .ok (.iload 6, 2) := by decide +kernel
theorem d_M_pour_143 : decode (z_c m_M_pour) 143 = .ok (.istore 7, 2) := by decide +kernel
theorem d_M_pour_145 : decode (z_c m_M_pour) 145 = .ok (.aload_n 0, 1) := by decide +kernel
theorem d_M_pour_146 : decode (z_c m_M_pour) 146 = .ok (.getfield 23, 3) := by decide +kernel
theorem d_M_pour_149 : decode (z_c m_M_pour) 149 = .ok (.bipush 60, 2) := by decide +kernel
theorem d_M_pour_151 : decode (z_c m_M_pour) 151 = .ok (.iload_n 3, 1) := by decide +kernel
theorem d_M_pour_152 : decode (z_c m_M_pour) 152 = .ok (.imul, 1) := by decide +kernel
theorem d_M_pour_153 : decode (z_c m_M_pour) 153 = .ok (.iload 4, 2) := by decide +kernel
theorem d_M_pour_155 : decode (z_c m_M_pour) 155 = .ok (.iadd, 1) := by decide +kernel
theorem d_M_pour_156 : decode (z_c m_M_pour) 156 = .ok (.iload 7, 2) := by decide +kernel
theorem d_M_pour_158 : decode (z_c m_M_pour) 158 = .ok (.iadd, 1) := by decide +kernel
theorem d_M_pour_159 : decode (z_c m_M_pour) 159 = .ok (.aload_n 0, 1) := by decide +kernel
theorem d_M_pour_160 : decode (z_c m_M_pour) 160 = .ok (.getfield 23, 3) := by decide +kernel
theorem d_M_pour_163 : decode (z_c m_M_pour) 163 = .ok (.bipush 60, 2) := by decide +kernel
theorem d_M_pour_165 : decode (z_c m_M_pour) 165 = .ok (.iload_n 1, 1) := by decide +kernel
theorem d_M_pour_166 : decode (z_c m_M_pour) 166 = .ok (.imul, 1) := by decide +kernel
theorem d_M_pour_167 : decode (z_c m_M_pour) 167 = .ok (.iload_n 2, 1) := by decide +kernel
theorem d_M_pour_168 : decode (z_c m_M_pour) 168 = .ok (.iadd, 1) := by decide +kernel
theorem d_M_pour_169 : decode (z_c m_M_pour) 169 = .ok (.iload 7, 2) := by decide +kernel
theorem d_M_pour_171 : decode (z_c m_M_pour) 171 = .ok (.iadd, 1) := by decide +kernel
theorem d_M_pour_172 : decode (z_c m_M_pour) 172 = .ok (.laload, 1) := by decide +kernel
theorem d_M_pour_173 : decode (z_c m_M_pour) 173 = .ok (.lastore, 1) := by decide +kernel
theorem d_M_pour_174 : decode (z_c m_M_pour) 174 = .ok (.iinc 6 1, 3) := by decide +kernel
theorem d_M_pour_177 : decode (z_c m_M_pour) 177 = .ok (.goto (-59), 3) := by decide +kernel
theorem d_M_pour_180 : decode (z_c m_M_pour) 180 = .ok (.aload_n 0, 1) := by decide +kernel
theorem d_M_pour_181 : decode (z_c m_M_pour) 181 = .ok (.iconst 0, 1) := by decide +kernel
theorem d_M_pour_182 : decode (z_c m_M_pour) 182 = .ok (.invokevirtual 94, 3) := by decide +kernel
theorem d_M_pour_185 : decode (z_c m_M_pour) 185 = .ok (.ireturn, 1) := by decide +kernel
abbrev L_M_pour_118 (X : z_X) (N : Nat) (σ : z_G) (x1 x2 x3 x4 x5 x6 : Int) (g : z_G) (Q : z_P) : Prop := z_U X 2 m_M_pour 118 [(0, (2, 0)), (1, (0, x1)), (2, (0, x2)), (3, (0, x3)), (4, (0, x4)), (5, (0, x5)), (6, (0, x6))] [] N σ g Q
set_option maxRecDepth 8000 in
theorem b_M_pour_0 {X : z_X} {N : Nat} {σ g : z_G} {Q : z_P} {a1 a2 a3 a4 a5 : Int} (hx : z_lay X N σ 0 z_SM z_RM) (h : ((a1 < 0) → Q 0 (z_up g 0 1 1)) ∧ (¬ (a1 < 0) → (((4 ≤ a1) → Q 0 (z_up g 0 1 1)) ∧ (¬ (4 ≤ a1) → (((a3 < 0) → Q 0 (z_up g 0 1 1)) ∧ (¬ (a3 < 0) → (((4 ≤ a3) → Q 0 (z_up g 0 1 1)) ∧ (¬ (4 ≤ a3) → (((a2 < 0) → Q 0 (z_up g 0 1 1)) ∧ (¬ (a2 < 0) → (((a4 < 0) → Q 0 (z_up g 0 1 1)) ∧ (¬ (a4 < 0) → (((0 ≤ a5) → ((0 ≤ a1 ∧ a1 < 4) ∧ ((((g 3 a1) = (-1)) → Q 0 (z_up g 0 1 2)) ∧ (¬ ((g 3 a1) = (-1)) → ((0 ≤ a3 ∧ a3 < 4) ∧ ((((g 3 a3) = (-1)) → Q 0 (z_up g 0 1 2)) ∧ (¬ ((g 3 a3) = (-1)) → ((((g 2 a1) = (g 2 a3)) → ((-2147483648 ≤ ((g 3 a1) - a2) ∧ ((g 3 a1) - a2) ≤ 2147483647) ∧ (((((g 3 a1) - a2) < a5) → Q 0 (z_up g 0 1 3)) ∧ (¬ (((g 3 a1) - a2) < a5) → ((-2147483648 ≤ ((g 3 a3) - a4) ∧ ((g 3 a3) - a4) ≤ 2147483647) ∧ (((a5 ≤ ((g 3 a3) - a4)) → L_M_pour_118 X N σ a1 a2 a3 a4 a5 0 g Q) ∧ (¬ (a5 ≤ ((g 3 a3) - a4)) → Q 0 (z_up g 0 1 3)))))))) ∧ (¬ ((g 2 a1) = (g 2 a3)) → Q 0 (z_up g 0 1 8)))))))))) ∧ (¬ (0 ≤ a5) → Q 0 (z_up g 0 1 1))))))))))))))) : z_O X 2 m_M_pour [(2, 0), (0, a1), (0, a2), (0, a3), (0, a4), (0, a5)] N σ g Q := by
  refine z_Oenter mi_M_pour rfl (fun _ => ?_)
  show z_U X 2 m_M_pour 0 [(0, (2, 0)), (1, (0, a1)), (2, (0, a2)), (3, (0, a3)), (4, (0, a4)), (5, (0, a5))] [] N σ g Q
  refine z_iload_n (i := 1) 1 d_M_pour_0 rfl rfl ?_
  refine z_cS (as := [(0, a1)]) (d' := 1) (st := []) d_M_pour_1 mi_M_isTray ml_M_98 ms_M_isTray rfl rfl rfl rfl rfl (b_M_isTray_0  ?_)
  refine ⟨fun c1 => ?_, fun c1 => ?_⟩
  · have h := h.1 c1
    intro _
    show z_U X 2 m_M_pour 4 [(0, (2, 0)), (1, (0, a1)), (2, (0, a2)), (3, (0, a3)), (4, (0, a4)), (5, (0, a5))] [(0, 0)] N σ g Q
    refine z_if_eq (tgt := 28) d_M_pour_4 (by decide) (fun _ => ?_) (fun c => absurd (by decide) c)
    refine z_aload_n (i := 0) (c := 0) 0 d_M_pour_28 rfl rfl rfl ?_
    refine z_iconst (n := 1) d_M_pour_29 (by decide) ?_
    refine z_cV (c := 0) (as := [(0, 1)]) (d' := 1) (st := []) d_M_pour_30 mi_M_is ml_M_94 mv_M_is se_M_is rfl rfl rfl rfl (ks_M_0 hx) rfl rfl (kl_M_0 hx) rfl rfl (b_M_is_0 hx ?_)
    refine ⟨fun c => absurd c (by decide), fun _ => ?_⟩
    intro _
    show z_U X 2 m_M_pour 33 [(0, (2, 0)), (1, (0, a1)), (2, (0, a2)), (3, (0, a3)), (4, (0, a4)), (5, (0, a5))] [(0, 0)] N σ (z_up g 0 1 1) Q
    exact z_zret d_M_pour_33 rfl (by decide) (by decide) (by decide) ⟨rfl, rfl, h⟩
  · have h := h.2 c1
    refine ⟨fun c2 => ?_, fun c2 => ?_⟩
    · have h := h.1 c2
      intro _
      show z_U X 2 m_M_pour 4 [(0, (2, 0)), (1, (0, a1)), (2, (0, a2)), (3, (0, a3)), (4, (0, a4)), (5, (0, a5))] [(0, 0)] N σ g Q
      refine z_if_eq (tgt := 28) d_M_pour_4 (by decide) (fun _ => ?_) (fun c => absurd (by decide) c)
      refine z_aload_n (i := 0) (c := 0) 0 d_M_pour_28 rfl rfl rfl ?_
      refine z_iconst (n := 1) d_M_pour_29 (by decide) ?_
      refine z_cV (c := 0) (as := [(0, 1)]) (d' := 1) (st := []) d_M_pour_30 mi_M_is ml_M_94 mv_M_is se_M_is rfl rfl rfl rfl (ks_M_0 hx) rfl rfl (kl_M_0 hx) rfl rfl (b_M_is_0 hx ?_)
      refine ⟨fun c => absurd c (by decide), fun _ => ?_⟩
      intro _
      show z_U X 2 m_M_pour 33 [(0, (2, 0)), (1, (0, a1)), (2, (0, a2)), (3, (0, a3)), (4, (0, a4)), (5, (0, a5))] [(0, 0)] N σ (z_up g 0 1 1) Q
      exact z_zret d_M_pour_33 rfl (by decide) (by decide) (by decide) ⟨rfl, rfl, h⟩
    · have h := h.2 c2
      intro _
      show z_U X 2 m_M_pour 4 [(0, (2, 0)), (1, (0, a1)), (2, (0, a2)), (3, (0, a3)), (4, (0, a4)), (5, (0, a5))] [(0, 1)] N σ g Q
      refine z_if_eq (tgt := 28) d_M_pour_4 (by decide) (fun c => absurd c (by decide)) (fun _ => ?_)
      refine z_iload_n (i := 3) 3 d_M_pour_7 rfl rfl ?_
      refine z_cS (as := [(0, a3)]) (d' := 1) (st := []) d_M_pour_8 mi_M_isTray ml_M_98 ms_M_isTray rfl rfl rfl rfl rfl (b_M_isTray_0  ?_)
      refine ⟨fun c3 => ?_, fun c3 => ?_⟩
      · have h := h.1 c3
        intro _
        show z_U X 2 m_M_pour 11 [(0, (2, 0)), (1, (0, a1)), (2, (0, a2)), (3, (0, a3)), (4, (0, a4)), (5, (0, a5))] [(0, 0)] N σ g Q
        refine z_if_eq (tgt := 28) d_M_pour_11 (by decide) (fun _ => ?_) (fun c => absurd (by decide) c)
        refine z_aload_n (i := 0) (c := 0) 0 d_M_pour_28 rfl rfl rfl ?_
        refine z_iconst (n := 1) d_M_pour_29 (by decide) ?_
        refine z_cV (c := 0) (as := [(0, 1)]) (d' := 1) (st := []) d_M_pour_30 mi_M_is ml_M_94 mv_M_is se_M_is rfl rfl rfl rfl (ks_M_0 hx) rfl rfl (kl_M_0 hx) rfl rfl (b_M_is_0 hx ?_)
        refine ⟨fun c => absurd c (by decide), fun _ => ?_⟩
        intro _
        show z_U X 2 m_M_pour 33 [(0, (2, 0)), (1, (0, a1)), (2, (0, a2)), (3, (0, a3)), (4, (0, a4)), (5, (0, a5))] [(0, 0)] N σ (z_up g 0 1 1) Q
        exact z_zret d_M_pour_33 rfl (by decide) (by decide) (by decide) ⟨rfl, rfl, h⟩
      · have h := h.2 c3
        refine ⟨fun c4 => ?_, fun c4 => ?_⟩
        · have h := h.1 c4
          intro _
          show z_U X 2 m_M_pour 11 [(0, (2, 0)), (1, (0, a1)), (2, (0, a2)), (3, (0, a3)), (4, (0, a4)), (5, (0, a5))] [(0, 0)] N σ g Q
          refine z_if_eq (tgt := 28) d_M_pour_11 (by decide) (fun _ => ?_) (fun c => absurd (by decide) c)
          refine z_aload_n (i := 0) (c := 0) 0 d_M_pour_28 rfl rfl rfl ?_
          refine z_iconst (n := 1) d_M_pour_29 (by decide) ?_
          refine z_cV (c := 0) (as := [(0, 1)]) (d' := 1) (st := []) d_M_pour_30 mi_M_is ml_M_94 mv_M_is se_M_is rfl rfl rfl rfl (ks_M_0 hx) rfl rfl (kl_M_0 hx) rfl rfl (b_M_is_0 hx ?_)
          refine ⟨fun c => absurd c (by decide), fun _ => ?_⟩
          intro _
          show z_U X 2 m_M_pour 33 [(0, (2, 0)), (1, (0, a1)), (2, (0, a2)), (3, (0, a3)), (4, (0, a4)), (5, (0, a5))] [(0, 0)] N σ (z_up g 0 1 1) Q
          exact z_zret d_M_pour_33 rfl (by decide) (by decide) (by decide) ⟨rfl, rfl, h⟩
        · have h := h.2 c4
          intro _
          show z_U X 2 m_M_pour 11 [(0, (2, 0)), (1, (0, a1)), (2, (0, a2)), (3, (0, a3)), (4, (0, a4)), (5, (0, a5))] [(0, 1)] N σ g Q
          refine z_if_eq (tgt := 28) d_M_pour_11 (by decide) (fun c => absurd c (by decide)) (fun _ => ?_)
          refine z_iload_n (i := 2) 2 d_M_pour_14 rfl rfl ?_
          refine z_if_lt (tgt := 28) d_M_pour_15 (by decide) (fun c5 => ?_) (fun c5 => ?_)
          · have h := h.1 c5
            refine z_aload_n (i := 0) (c := 0) 0 d_M_pour_28 rfl rfl rfl ?_
            refine z_iconst (n := 1) d_M_pour_29 (by decide) ?_
            refine z_cV (c := 0) (as := [(0, 1)]) (d' := 1) (st := []) d_M_pour_30 mi_M_is ml_M_94 mv_M_is se_M_is rfl rfl rfl rfl (ks_M_0 hx) rfl rfl (kl_M_0 hx) rfl rfl (b_M_is_0 hx ?_)
            refine ⟨fun c => absurd c (by decide), fun _ => ?_⟩
            intro _
            show z_U X 2 m_M_pour 33 [(0, (2, 0)), (1, (0, a1)), (2, (0, a2)), (3, (0, a3)), (4, (0, a4)), (5, (0, a5))] [(0, 0)] N σ (z_up g 0 1 1) Q
            exact z_zret d_M_pour_33 rfl (by decide) (by decide) (by decide) ⟨rfl, rfl, h⟩
          · have h := h.2 c5
            refine z_iload 4 d_M_pour_18 rfl ?_
            refine z_if_lt (tgt := 28) d_M_pour_20 (by decide) (fun c6 => ?_) (fun c6 => ?_)
            · have h := h.1 c6
              refine z_aload_n (i := 0) (c := 0) 0 d_M_pour_28 rfl rfl rfl ?_
              refine z_iconst (n := 1) d_M_pour_29 (by decide) ?_
              refine z_cV (c := 0) (as := [(0, 1)]) (d' := 1) (st := []) d_M_pour_30 mi_M_is ml_M_94 mv_M_is se_M_is rfl rfl rfl rfl (ks_M_0 hx) rfl rfl (kl_M_0 hx) rfl rfl (b_M_is_0 hx ?_)
              refine ⟨fun c => absurd c (by decide), fun _ => ?_⟩
              intro _
              show z_U X 2 m_M_pour 33 [(0, (2, 0)), (1, (0, a1)), (2, (0, a2)), (3, (0, a3)), (4, (0, a4)), (5, (0, a5))] [(0, 0)] N σ (z_up g 0 1 1) Q
              exact z_zret d_M_pour_33 rfl (by decide) (by decide) (by decide) ⟨rfl, rfl, h⟩
            · have h := h.2 c6
              refine z_iload 5 d_M_pour_23 rfl ?_
              refine z_if_ge (tgt := 34) d_M_pour_25 (by decide) (fun c7 => ?_) (fun c7 => ?_)
              · have h := h.1 c7
                refine z_aload_n (i := 0) (c := 0) 0 d_M_pour_34 rfl rfl rfl ?_
                refine z_getr (c := 0) (kI := 5) (r2 := 3) d_M_pour_35 fd_M_trayMany fl_M_20 rfl rfl rfl (ks_M_0 hx) (kl_M_0 hx) (kr_M_0_5 hx) ?_
                refine z_iload_n (i := 1) 1 d_M_pour_38 rfl rfl ?_
                obtain ⟨c8, h⟩ := h
                refine z_iald (c := 3) (m := 4) d_M_pour_39 rfl (ks_M_3 hx) (kl_M_3 hx) rfl (by decide) c8 ?_
                refine z_iconst (n := (-1)) d_M_pour_40 (by decide) ?_
                refine z_icmp_eq (tgt := 54) d_M_pour_41 (by decide) (fun c9 => ?_) (fun c9 => ?_)
                · have h := h.1 c9
                  refine z_aload_n (i := 0) (c := 0) 0 d_M_pour_54 rfl rfl rfl ?_
                  refine z_iconst (n := 2) d_M_pour_55 (by decide) ?_
                  refine z_cV (c := 0) (as := [(0, 2)]) (d' := 1) (st := []) d_M_pour_56 mi_M_is ml_M_94 mv_M_is se_M_is rfl rfl rfl rfl (ks_M_0 hx) rfl rfl (kl_M_0 hx) rfl rfl (b_M_is_0 hx ?_)
                  refine ⟨fun c => absurd c (by decide), fun _ => ?_⟩
                  intro _
                  show z_U X 2 m_M_pour 59 [(0, (2, 0)), (1, (0, a1)), (2, (0, a2)), (3, (0, a3)), (4, (0, a4)), (5, (0, a5))] [(0, 0)] N σ (z_up g 0 1 2) Q
                  exact z_zret d_M_pour_59 rfl (by decide) (by decide) (by decide) ⟨rfl, rfl, h⟩
                · have h := h.2 c9
                  refine z_aload_n (i := 0) (c := 0) 0 d_M_pour_44 rfl rfl rfl ?_
                  refine z_getr (c := 0) (kI := 5) (r2 := 3) d_M_pour_45 fd_M_trayMany fl_M_20 rfl rfl rfl (ks_M_0 hx) (kl_M_0 hx) (kr_M_0_5 hx) ?_
                  refine z_iload_n (i := 3) 3 d_M_pour_48 rfl rfl ?_
                  obtain ⟨c10, h⟩ := h
                  refine z_iald (c := 3) (m := 4) d_M_pour_49 rfl (ks_M_3 hx) (kl_M_3 hx) rfl (by decide) c10 ?_
                  refine z_iconst (n := (-1)) d_M_pour_50 (by decide) ?_
                  refine z_icmp_ne (tgt := 60) d_M_pour_51 (by decide) (fun c11 => ?_) (fun c11 => ?_)
                  · have h := h.2 c11
                    refine z_aload_n (i := 0) (c := 0) 0 d_M_pour_60 rfl rfl rfl ?_
                    refine z_getr (c := 0) (kI := 4) (r2 := 2) d_M_pour_61 fd_M_sort fl_M_17 rfl rfl rfl (ks_M_0 hx) (kl_M_0 hx) (kr_M_0_4 hx) ?_
                    refine z_iload_n (i := 1) 1 d_M_pour_64 rfl rfl ?_
                    refine z_iald (c := 2) (m := 4) d_M_pour_65 rfl (ks_M_2 hx) (kl_M_2 hx) rfl (by decide) c8 ?_
                    refine z_aload_n (i := 0) (c := 0) 0 d_M_pour_66 rfl rfl rfl ?_
                    refine z_getr (c := 0) (kI := 4) (r2 := 2) d_M_pour_67 fd_M_sort fl_M_17 rfl rfl rfl (ks_M_0 hx) (kl_M_0 hx) (kr_M_0_4 hx) ?_
                    refine z_iload_n (i := 3) 3 d_M_pour_70 rfl rfl ?_
                    refine z_iald (c := 2) (m := 4) d_M_pour_71 rfl (ks_M_2 hx) (kl_M_2 hx) rfl (by decide) c10 ?_
                    refine z_icmp_eq (tgt := 82) d_M_pour_72 (by decide) (fun c12 => ?_) (fun c12 => ?_)
                    · have h := h.1 c12
                      refine z_iload 5 d_M_pour_82 rfl ?_
                      refine z_aload_n (i := 0) (c := 0) 0 d_M_pour_84 rfl rfl rfl ?_
                      refine z_getr (c := 0) (kI := 5) (r2 := 3) d_M_pour_85 fd_M_trayMany fl_M_20 rfl rfl rfl (ks_M_0 hx) (kl_M_0 hx) (kr_M_0_5 hx) ?_
                      refine z_iload_n (i := 1) 1 d_M_pour_88 rfl rfl ?_
                      refine z_iald (c := 3) (m := 4) d_M_pour_89 rfl (ks_M_3 hx) (kl_M_3 hx) rfl (by decide) c8 ?_
                      refine z_iload_n (i := 2) 2 d_M_pour_90 rfl rfl ?_
                      obtain ⟨c13, h⟩ := h
                      refine z_isub d_M_pour_91 c13 ?_
                      refine z_icmp_gt (tgt := 109) d_M_pour_92 (by decide) (fun c14 => ?_) (fun c14 => ?_)
                      · have h := h.1 c14
                        refine z_aload_n (i := 0) (c := 0) 0 d_M_pour_109 rfl rfl rfl ?_
                        refine z_iconst (n := 3) d_M_pour_110 (by decide) ?_
                        refine z_cV (c := 0) (as := [(0, 3)]) (d' := 1) (st := []) d_M_pour_111 mi_M_is ml_M_94 mv_M_is se_M_is rfl rfl rfl rfl (ks_M_0 hx) rfl rfl (kl_M_0 hx) rfl rfl (b_M_is_0 hx ?_)
                        refine ⟨fun c => absurd c (by decide), fun _ => ?_⟩
                        intro _
                        show z_U X 2 m_M_pour 114 [(0, (2, 0)), (1, (0, a1)), (2, (0, a2)), (3, (0, a3)), (4, (0, a4)), (5, (0, a5))] [(0, 0)] N σ (z_up g 0 1 3) Q
                        exact z_zret d_M_pour_114 rfl (by decide) (by decide) (by decide) ⟨rfl, rfl, h⟩
                      · have h := h.2 c14
                        refine z_iload 5 d_M_pour_95 rfl ?_
                        refine z_aload_n (i := 0) (c := 0) 0 d_M_pour_97 rfl rfl rfl ?_
                        refine z_getr (c := 0) (kI := 5) (r2 := 3) d_M_pour_98 fd_M_trayMany fl_M_20 rfl rfl rfl (ks_M_0 hx) (kl_M_0 hx) (kr_M_0_5 hx) ?_
                        refine z_iload_n (i := 3) 3 d_M_pour_101 rfl rfl ?_
                        refine z_iald (c := 3) (m := 4) d_M_pour_102 rfl (ks_M_3 hx) (kl_M_3 hx) rfl (by decide) c10 ?_
                        refine z_iload 4 d_M_pour_103 rfl ?_
                        obtain ⟨c15, h⟩ := h
                        refine z_isub d_M_pour_105 c15 ?_
                        refine z_icmp_le (tgt := 115) d_M_pour_106 (by decide) (fun c16 => ?_) (fun c16 => ?_)
                        · have h := h.1 c16
                          refine z_iconst (n := 0) d_M_pour_115 (by decide) ?_
                          refine z_istore (ls' := [(6, (0, 0)), (0, (2, 0)), (1, (0, a1)), (2, (0, a2)), (3, (0, a3)), (4, (0, a4)), (5, (0, a5))]) d_M_pour_116 rfl rfl ?_
                          refine z_sub (ls' := [(0, (2, 0)), (1, (0, a1)), (2, (0, a2)), (3, (0, a3)), (4, (0, a4)), (5, (0, a5)), (6, (0, 0))]) [1, 2, 3, 4, 5, 6, 0] rfl ?_
                          exact h
                        · have h := h.2 c16
                          refine z_aload_n (i := 0) (c := 0) 0 d_M_pour_109 rfl rfl rfl ?_
                          refine z_iconst (n := 3) d_M_pour_110 (by decide) ?_
                          refine z_cV (c := 0) (as := [(0, 3)]) (d' := 1) (st := []) d_M_pour_111 mi_M_is ml_M_94 mv_M_is se_M_is rfl rfl rfl rfl (ks_M_0 hx) rfl rfl (kl_M_0 hx) rfl rfl (b_M_is_0 hx ?_)
                          refine ⟨fun c => absurd c (by decide), fun _ => ?_⟩
                          intro _
                          show z_U X 2 m_M_pour 114 [(0, (2, 0)), (1, (0, a1)), (2, (0, a2)), (3, (0, a3)), (4, (0, a4)), (5, (0, a5))] [(0, 0)] N σ (z_up g 0 1 3) Q
                          exact z_zret d_M_pour_114 rfl (by decide) (by decide) (by decide) ⟨rfl, rfl, h⟩
                    · have h := h.2 c12
                      refine z_aload_n (i := 0) (c := 0) 0 d_M_pour_75 rfl rfl rfl ?_
                      refine z_bipush (n := 8) d_M_pour_76 (by decide) (by decide) ?_
                      refine z_cV (c := 0) (as := [(0, 8)]) (d' := 1) (st := []) d_M_pour_78 mi_M_is ml_M_94 mv_M_is se_M_is rfl rfl rfl rfl (ks_M_0 hx) rfl rfl (kl_M_0 hx) rfl rfl (b_M_is_0 hx ?_)
                      refine ⟨fun c => absurd c (by decide), fun _ => ?_⟩
                      intro _
                      show z_U X 2 m_M_pour 81 [(0, (2, 0)), (1, (0, a1)), (2, (0, a2)), (3, (0, a3)), (4, (0, a4)), (5, (0, a5))] [(0, 0)] N σ (z_up g 0 1 8) Q
                      exact z_zret d_M_pour_81 rfl (by decide) (by decide) (by decide) ⟨rfl, rfl, h⟩
                  · have h := h.1 c11
                    refine z_aload_n (i := 0) (c := 0) 0 d_M_pour_54 rfl rfl rfl ?_
                    refine z_iconst (n := 2) d_M_pour_55 (by decide) ?_
                    refine z_cV (c := 0) (as := [(0, 2)]) (d' := 1) (st := []) d_M_pour_56 mi_M_is ml_M_94 mv_M_is se_M_is rfl rfl rfl rfl (ks_M_0 hx) rfl rfl (kl_M_0 hx) rfl rfl (b_M_is_0 hx ?_)
                    refine ⟨fun c => absurd c (by decide), fun _ => ?_⟩
                    intro _
                    show z_U X 2 m_M_pour 59 [(0, (2, 0)), (1, (0, a1)), (2, (0, a2)), (3, (0, a3)), (4, (0, a4)), (5, (0, a5))] [(0, 0)] N σ (z_up g 0 1 2) Q
                    exact z_zret d_M_pour_59 rfl (by decide) (by decide) (by decide) ⟨rfl, rfl, h⟩
              · have h := h.2 c7
                refine z_aload_n (i := 0) (c := 0) 0 d_M_pour_28 rfl rfl rfl ?_
                refine z_iconst (n := 1) d_M_pour_29 (by decide) ?_
                refine z_cV (c := 0) (as := [(0, 1)]) (d' := 1) (st := []) d_M_pour_30 mi_M_is ml_M_94 mv_M_is se_M_is rfl rfl rfl rfl (ks_M_0 hx) rfl rfl (kl_M_0 hx) rfl rfl (b_M_is_0 hx ?_)
                refine ⟨fun c => absurd c (by decide), fun _ => ?_⟩
                intro _
                show z_U X 2 m_M_pour 33 [(0, (2, 0)), (1, (0, a1)), (2, (0, a2)), (3, (0, a3)), (4, (0, a4)), (5, (0, a5))] [(0, 0)] N σ (z_up g 0 1 1) Q
                exact z_zret d_M_pour_33 rfl (by decide) (by decide) (by decide) ⟨rfl, rfl, h⟩
set_option maxRecDepth 8000 in
theorem b_M_pour_118 {X : z_X} {N : Nat} {σ g : z_G} {Q : z_P} {x1 x2 x3 x4 x5 x6 : Int} (hx : z_lay X N σ 0 z_SM z_RM) (h : ((x5 ≤ x6) → Q 1 (z_up g 0 1 0)) ∧ (¬ (x5 ≤ x6) → (((x4 ≤ x2) → ((-2147483648 ≤ (60 * x3) ∧ (60 * x3) ≤ 2147483647) ∧ ((-2147483648 ≤ ((60 * x3) + x4) ∧ ((60 * x3) + x4) ≤ 2147483647) ∧ ((-2147483648 ≤ (((60 * x3) + x4) + x6) ∧ (((60 * x3) + x4) + x6) ≤ 2147483647) ∧ ((-2147483648 ≤ (60 * x1) ∧ (60 * x1) ≤ 2147483647) ∧ ((-2147483648 ≤ ((60 * x1) + x2) ∧ ((60 * x1) + x2) ≤ 2147483647) ∧ ((-2147483648 ≤ (((60 * x1) + x2) + x6) ∧ (((60 * x1) + x2) + x6) ≤ 2147483647) ∧ ((0 ≤ (((60 * x1) + x2) + x6) ∧ (((60 * x1) + x2) + x6) < 240) ∧ ((0 ≤ (((60 * x3) + x4) + x6) ∧ (((60 * x3) + x4) + x6) < 240) ∧ ((-2147483648 ≤ (x6 + 1) ∧ (x6 + 1) ≤ 2147483647) ∧ L_M_pour_118 X N σ x1 x2 x3 x4 x5 (x6 + 1) (z_up g 4 (((60 * x3) + x4) + x6) (g 4 (((60 * x1) + x2) + x6))) Q)))))))))) ∧ (¬ (x4 ≤ x2) → ((-2147483648 ≤ (x5 - 1) ∧ (x5 - 1) ≤ 2147483647) ∧ ((-2147483648 ≤ ((x5 - 1) - x6) ∧ ((x5 - 1) - x6) ≤ 2147483647) ∧ ((-2147483648 ≤ (60 * x3) ∧ (60 * x3) ≤ 2147483647) ∧ ((-2147483648 ≤ ((60 * x3) + x4) ∧ ((60 * x3) + x4) ≤ 2147483647) ∧ ((-2147483648 ≤ (((60 * x3) + x4) + ((x5 - 1) - x6)) ∧ (((60 * x3) + x4) + ((x5 - 1) - x6)) ≤ 2147483647) ∧ ((-2147483648 ≤ (60 * x1) ∧ (60 * x1) ≤ 2147483647) ∧ ((-2147483648 ≤ ((60 * x1) + x2) ∧ ((60 * x1) + x2) ≤ 2147483647) ∧ ((-2147483648 ≤ (((60 * x1) + x2) + ((x5 - 1) - x6)) ∧ (((60 * x1) + x2) + ((x5 - 1) - x6)) ≤ 2147483647) ∧ ((0 ≤ (((60 * x1) + x2) + ((x5 - 1) - x6)) ∧ (((60 * x1) + x2) + ((x5 - 1) - x6)) < 240) ∧ ((0 ≤ (((60 * x3) + x4) + ((x5 - 1) - x6)) ∧ (((60 * x3) + x4) + ((x5 - 1) - x6)) < 240) ∧ ((-2147483648 ≤ (x6 + 1) ∧ (x6 + 1) ≤ 2147483647) ∧ L_M_pour_118 X N σ x1 x2 x3 x4 x5 (x6 + 1) (z_up g 4 (((60 * x3) + x4) + ((x5 - 1) - x6)) (g 4 (((60 * x1) + x2) + ((x5 - 1) - x6)))) Q))))))))))))))) : L_M_pour_118 X N σ x1 x2 x3 x4 x5 x6 g Q := by
  refine z_iload 6 d_M_pour_118 rfl ?_
  refine z_iload 5 d_M_pour_120 rfl ?_
  refine z_icmp_ge (tgt := 180) d_M_pour_122 (by decide) (fun c1 => ?_) (fun c1 => ?_)
  · have h := h.1 c1
    refine z_aload_n (i := 0) (c := 0) 0 d_M_pour_180 rfl rfl rfl ?_
    refine z_iconst (n := 0) d_M_pour_181 (by decide) ?_
    refine z_cV (c := 0) (as := [(0, 0)]) (d' := 1) (st := []) d_M_pour_182 mi_M_is ml_M_94 mv_M_is se_M_is rfl rfl rfl rfl (ks_M_0 hx) rfl rfl (kl_M_0 hx) rfl rfl (b_M_is_0 hx ?_)
    refine ⟨fun _ => ?_, fun c => absurd (by decide) c⟩
    intro _
    show z_U X 2 m_M_pour 185 [(0, (2, 0)), (1, (0, x1)), (2, (0, x2)), (3, (0, x3)), (4, (0, x4)), (5, (0, x5)), (6, (0, x6))] [(0, 1)] N σ (z_up g 0 1 0) Q
    exact z_zret d_M_pour_185 rfl (by decide) (by decide) (by decide) ⟨rfl, rfl, h⟩
  · have h := h.2 c1
    refine z_iload_n (i := 2) 2 d_M_pour_125 rfl rfl ?_
    refine z_iload 4 d_M_pour_126 rfl ?_
    refine z_icmp_ge (tgt := 141) d_M_pour_128 (by decide) (fun c2 => ?_) (fun c2 => ?_)
    · have h := h.1 c2
      refine z_iload 6 d_M_pour_141 rfl ?_
      refine z_istore (ls' := [(7, (0, x6)), (0, (2, 0)), (1, (0, x1)), (2, (0, x2)), (3, (0, x3)), (4, (0, x4)), (5, (0, x5)), (6, (0, x6))]) d_M_pour_143 rfl rfl ?_
      refine z_aload_n (i := 0) (c := 0) 1 d_M_pour_145 rfl rfl rfl ?_
      refine z_getr (c := 0) (kI := 6) (r2 := 4) d_M_pour_146 fd_M_trays fl_M_23 rfl rfl rfl (ks_M_0 hx) (kl_M_0 hx) (kr_M_0_6 hx) ?_
      refine z_bipush (n := 60) d_M_pour_149 (by decide) (by decide) ?_
      refine z_iload_n (i := 3) 4 d_M_pour_151 rfl rfl ?_
      obtain ⟨c3, h⟩ := h
      refine z_imul d_M_pour_152 c3 ?_
      refine z_iload 5 d_M_pour_153 rfl ?_
      obtain ⟨c4, h⟩ := h
      refine z_iadd d_M_pour_155 c4 ?_
      refine z_iload 0 d_M_pour_156 rfl ?_
      obtain ⟨c5, h⟩ := h
      refine z_iadd d_M_pour_158 c5 ?_
      refine z_aload_n (i := 0) (c := 0) 1 d_M_pour_159 rfl rfl rfl ?_
      refine z_getr (c := 0) (kI := 6) (r2 := 4) d_M_pour_160 fd_M_trays fl_M_23 rfl rfl rfl (ks_M_0 hx) (kl_M_0 hx) (kr_M_0_6 hx) ?_
      refine z_bipush (n := 60) d_M_pour_163 (by decide) (by decide) ?_
      refine z_iload_n (i := 1) 2 d_M_pour_165 rfl rfl ?_
      obtain ⟨c6, h⟩ := h
      refine z_imul d_M_pour_166 c6 ?_
      refine z_iload_n (i := 2) 3 d_M_pour_167 rfl rfl ?_
      obtain ⟨c7, h⟩ := h
      refine z_iadd d_M_pour_168 c7 ?_
      refine z_iload 0 d_M_pour_169 rfl ?_
      obtain ⟨c8, h⟩ := h
      refine z_iadd d_M_pour_171 c8 ?_
      obtain ⟨c9, h⟩ := h
      refine z_lald (c := 4) (m := 240) d_M_pour_172 rfl (ks_M_4 hx) (kl_M_4 hx) rfl (by decide) c9 ?_
      obtain ⟨c10, h⟩ := h
      refine z_last (c := 4) (m := 240) d_M_pour_173 rfl (ks_M_4 hx) (kl_M_4 hx) rfl (by decide) c10 ?_
      obtain ⟨c11, h⟩ := h
      refine z_iinc (n := 1) (ls' := [(6, (0, x6 + 1)), (7, (0, x6)), (0, (2, 0)), (1, (0, x1)), (2, (0, x2)), (3, (0, x3)), (4, (0, x4)), (5, (0, x5))]) 7 d_M_pour_174 rfl c11 rfl rfl ?_
      refine z_goto (tgt := 118) d_M_pour_177 (by decide) ?_
      refine z_sub (ls' := [(0, (2, 0)), (1, (0, x1)), (2, (0, x2)), (3, (0, x3)), (4, (0, x4)), (5, (0, x5)), (6, (0, x6 + 1))]) [2, 3, 4, 5, 6, 7, 0] rfl ?_
      exact h
    · have h := h.2 c2
      refine z_iload 5 d_M_pour_131 rfl ?_
      refine z_iconst (n := 1) d_M_pour_133 (by decide) ?_
      obtain ⟨c12, h⟩ := h
      refine z_isub d_M_pour_134 c12 ?_
      refine z_iload 6 d_M_pour_135 rfl ?_
      obtain ⟨c13, h⟩ := h
      refine z_isub d_M_pour_137 c13 ?_
      refine z_goto (tgt := 143) d_M_pour_138 (by decide) ?_
      refine z_istore (ls' := [(7, (0, (x5 - 1) - x6)), (0, (2, 0)), (1, (0, x1)), (2, (0, x2)), (3, (0, x3)), (4, (0, x4)), (5, (0, x5)), (6, (0, x6))]) d_M_pour_143 rfl rfl ?_
      refine z_aload_n (i := 0) (c := 0) 1 d_M_pour_145 rfl rfl rfl ?_
      refine z_getr (c := 0) (kI := 6) (r2 := 4) d_M_pour_146 fd_M_trays fl_M_23 rfl rfl rfl (ks_M_0 hx) (kl_M_0 hx) (kr_M_0_6 hx) ?_
      refine z_bipush (n := 60) d_M_pour_149 (by decide) (by decide) ?_
      refine z_iload_n (i := 3) 4 d_M_pour_151 rfl rfl ?_
      obtain ⟨c14, h⟩ := h
      refine z_imul d_M_pour_152 c14 ?_
      refine z_iload 5 d_M_pour_153 rfl ?_
      obtain ⟨c15, h⟩ := h
      refine z_iadd d_M_pour_155 c15 ?_
      refine z_iload 0 d_M_pour_156 rfl ?_
      obtain ⟨c16, h⟩ := h
      refine z_iadd d_M_pour_158 c16 ?_
      refine z_aload_n (i := 0) (c := 0) 1 d_M_pour_159 rfl rfl rfl ?_
      refine z_getr (c := 0) (kI := 6) (r2 := 4) d_M_pour_160 fd_M_trays fl_M_23 rfl rfl rfl (ks_M_0 hx) (kl_M_0 hx) (kr_M_0_6 hx) ?_
      refine z_bipush (n := 60) d_M_pour_163 (by decide) (by decide) ?_
      refine z_iload_n (i := 1) 2 d_M_pour_165 rfl rfl ?_
      obtain ⟨c17, h⟩ := h
      refine z_imul d_M_pour_166 c17 ?_
      refine z_iload_n (i := 2) 3 d_M_pour_167 rfl rfl ?_
      obtain ⟨c18, h⟩ := h
      refine z_iadd d_M_pour_168 c18 ?_
      refine z_iload 0 d_M_pour_169 rfl ?_
      obtain ⟨c19, h⟩ := h
      refine z_iadd d_M_pour_171 c19 ?_
      obtain ⟨c20, h⟩ := h
      refine z_lald (c := 4) (m := 240) d_M_pour_172 rfl (ks_M_4 hx) (kl_M_4 hx) rfl (by decide) c20 ?_
      obtain ⟨c21, h⟩ := h
      refine z_last (c := 4) (m := 240) d_M_pour_173 rfl (ks_M_4 hx) (kl_M_4 hx) rfl (by decide) c21 ?_
      obtain ⟨c22, h⟩ := h
      refine z_iinc (n := 1) (ls' := [(6, (0, x6 + 1)), (7, (0, (x5 - 1) - x6)), (0, (2, 0)), (1, (0, x1)), (2, (0, x2)), (3, (0, x3)), (4, (0, x4)), (5, (0, x5))]) 7 d_M_pour_174 rfl c22 rfl rfl ?_
      refine z_goto (tgt := 118) d_M_pour_177 (by decide) ?_
      refine z_sub (ls' := [(0, (2, 0)), (1, (0, x1)), (2, (0, x2)), (3, (0, x3)), (4, (0, x4)), (5, (0, x5)), (6, (0, x6 + 1))]) [2, 3, 4, 5, 6, 7, 0] rfl ?_
      exact h
theorem d_M_taken_0 : decode (z_c m_M_taken) 0 = .ok (.aload_n 0, 1) := by decide +kernel
theorem d_M_taken_1 : decode (z_c m_M_taken) 1 = .ok (.aload_n 0, 1) := by decide +kernel
theorem d_M_taken_2 : decode (z_c m_M_taken) 2 = .ok (.getfield 157, 3) := by decide +kernel
theorem d_M_taken_5 : decode (z_c m_M_taken) 5 = .ok (.putfield 34, 3) := by decide +kernel
theorem d_M_taken_8 : decode (z_c m_M_taken) 8 = .ok (.aload_n 0, 1) := by decide +kernel
theorem d_M_taken_9 : decode (z_c m_M_taken) 9 = .ok (.getfield 157, 3) := by decide +kernel
theorem d_M_taken_12 : decode (z_c m_M_taken) 12 = .ok (.ifCond .le 12, 3) := by decide +kernel
theorem d_M_taken_15 : decode (z_c m_M_taken) 15 = .ok (.aload_n 0, 1) := by decide +kernel
theorem d_M_taken_16 : decode (z_c m_M_taken) 16 = .ok (.bipush 9, 2) := by decide +kernel
theorem d_M_taken_18 : decode (z_c m_M_taken) 18 = .ok (.invokevirtual 87, 3) := by decide +kernel
theorem d_M_taken_21 : decode (z_c m_M_taken) 21 = .ok (.goto 8, 3) := by decide +kernel
theorem d_M_taken_24 : decode (z_c m_M_taken) 24 = .ok (.aload_n 0, 1) := by decide +kernel
theorem d_M_taken_25 : decode (z_c m_M_taken) 25 = .ok (.iload_n 1, 1) := by decide +kernel
theorem d_M_taken_26 : decode (z_c m_M_taken) 26 = .ok (.invokevirtual 91, 3) := by decide +kernel
theorem d_M_taken_29 : decode (z_c m_M_taken) 29 = .ok (.ireturn, 1) := by decide +kernel
set_option maxRecDepth 8000 in
theorem b_M_taken_0 {X : z_X} {N : Nat} {σ g : z_G} {Q : z_P} {a1 : Int} (hx : z_lay X N σ 0 z_SM z_RM) (h : (((g 0 17) ≤ 0) → Q a1 (z_up (z_up g 0 15 (g 0 17)) 0 1 0)) ∧ (¬ ((g 0 17) ≤ 0) → Q (-1) (z_up (z_up g 0 15 (g 0 17)) 0 1 9))) : z_O X 2 m_M_taken [(2, 0), (0, a1)] N σ g Q := by
  refine z_Oenter mi_M_taken rfl (fun _ => ?_)
  show z_U X 2 m_M_taken 0 [(0, (2, 0)), (1, (0, a1))] [] N σ g Q
  refine z_aload_n (i := 0) (c := 0) 0 d_M_taken_0 rfl rfl rfl ?_
  refine z_aload_n (i := 0) (c := 0) 0 d_M_taken_1 rfl rfl rfl ?_
  refine z_geti (c := 0) (kI := 17) d_M_taken_2 fd_M_faults fl_M_157 (Or.inl rfl) rfl rfl (ks_M_0 hx) (kl_M_0 hx) ?_
  refine z_puti (c := 0) (kI := 15) d_M_taken_5 fd_M_faultKind fl_M_34 pf_M_faultKind rfl rfl rfl rfl (ks_M_0 hx) (kl_M_0 hx) ?_
  refine z_aload_n (i := 0) (c := 0) 0 d_M_taken_8 rfl rfl rfl ?_
  refine z_geti (c := 0) (kI := 17) d_M_taken_9 fd_M_faults fl_M_157 (Or.inl rfl) rfl rfl (ks_M_0 hx) (kl_M_0 hx) ?_
  refine z_ti (b := g 0 17) (by simp [z_up]) ?_
  refine z_if_le (tgt := 24) d_M_taken_12 (by decide) (fun c1 => ?_) (fun c1 => ?_)
  · have h := h.1 c1
    refine z_aload_n (i := 0) (c := 0) 0 d_M_taken_24 rfl rfl rfl ?_
    refine z_iload_n (i := 1) 1 d_M_taken_25 rfl rfl ?_
    refine z_cV (c := 0) (as := [(0, a1)]) (d' := 1) (st := []) d_M_taken_26 mi_M_gives ml_M_91 mv_M_gives se_M_gives rfl rfl rfl rfl (ks_M_0 hx) rfl rfl (kl_M_0 hx) rfl rfl (b_M_gives_0 hx ?_)
    intro _
    show z_U X 2 m_M_taken 29 [(0, (2, 0)), (1, (0, a1))] [(0, a1)] N σ (z_up (z_up g 0 15 (g 0 17)) 0 1 0) Q
    exact z_iret d_M_taken_29 rfl (by decide) (by decide) ⟨rfl, rfl, h⟩
  · have h := h.2 c1
    refine z_aload_n (i := 0) (c := 0) 0 d_M_taken_15 rfl rfl rfl ?_
    refine z_bipush (n := 9) d_M_taken_16 (by decide) (by decide) ?_
    refine z_cV (c := 0) (as := [(0, 9)]) (d' := 1) (st := []) d_M_taken_18 mi_M_refuse ml_M_87 mv_M_refuse se_M_refuse rfl rfl rfl rfl (ks_M_0 hx) rfl rfl (kl_M_0 hx) rfl rfl (b_M_refuse_0 hx ?_)
    intro _
    show z_U X 2 m_M_taken 21 [(0, (2, 0)), (1, (0, a1))] [(0, (-1))] N σ (z_up (z_up g 0 15 (g 0 17)) 0 1 9) Q
    refine z_goto (tgt := 29) d_M_taken_21 (by decide) ?_
    exact z_iret d_M_taken_29 rfl (by decide) (by decide) ⟨rfl, rfl, h⟩
theorem d_M_tellsBy_0 : decode (z_c m_M_tellsBy) 0 = .ok (.lload_n 1, 1) := by decide +kernel
theorem d_M_tellsBy_1 : decode (z_c m_M_tellsBy) 1 = .ok (.lstore 5, 2) := by decide +kernel
theorem d_M_tellsBy_3 : decode (z_c m_M_tellsBy) 3 = .ok (.lload_n 3, 1) := by decide +kernel
theorem d_M_tellsBy_4 : decode (z_c m_M_tellsBy) 4 = .ok (.lstore 7, 2) := by decide +kernel
theorem d_M_tellsBy_6 : decode (z_c m_M_tellsBy) 6 = .ok (.lload 7, 2) := by decide +kernel
theorem d_M_tellsBy_8 : decode (z_c m_M_tellsBy) 8 = .ok (.lconst 0, 1) := by decide +kernel
theorem d_M_tellsBy_9 : decode (z_c m_M_tellsBy) 9 = .ok (.lcmp, 1) := by decide +kernel
theorem d_M_tellsBy_10 : decode (z_c m_M_tellsBy) 10 = .ok (.ifCond .eq 21, 3) := by decide +kernel
theorem d_M_tellsBy_13 : decode (z_c m_M_tellsBy) 13 = .ok (.lload 5, 2) := by decide +kernel
theorem d_M_tellsBy_15 : decode (z_c m_M_tellsBy) 15 = .ok (.lload 7, 2) := by decide +kernel
theorem d_M_tellsBy_17 : decode (z_c m_M_tellsBy) 17 = .ok (.lrem, 1) := by decide +kernel
theorem d_M_tellsBy_18 : decode (z_c m_M_tellsBy) 18 = .ok (.lstore 9, 2) := by decide +kernel
theorem d_M_tellsBy_20 : decode (z_c m_M_tellsBy) 20 = .ok (.lload 7, 2) := by decide +kernel
theorem d_M_tellsBy_22 : decode (z_c m_M_tellsBy) 22 = .ok (.lstore 5, 2) := by decide +kernel
theorem d_M_tellsBy_24 : decode (z_c m_M_tellsBy) 24 = .ok (.lload 9, 2) := by decide +kernel
theorem d_M_tellsBy_26 : decode (z_c m_M_tellsBy) 26 = .ok (.lstore 7, 2) := by decide +kernel
theorem d_M_tellsBy_28 : decode (z_c m_M_tellsBy) 28 = .ok (.goto (-22), 3) := by decide +kernel
theorem d_M_tellsBy_31 : decode (z_c m_M_tellsBy) 31 = .ok (.aload_n 0, 1) := by decide +kernel
theorem d_M_tellsBy_32 : decode (z_c m_M_tellsBy) 32 = .ok (.lload_n 1, 1) := by decide +kernel
theorem d_M_tellsBy_33 : decode (z_c m_M_tellsBy) 33 = .ok (.lload 5, 2) := by decide +kernel
theorem d_M_tellsBy_35 : decode (z_c m_M_tellsBy) 35 = .ok (.ldiv, 1) := by decide +kernel
theorem d_M_tellsBy_36 : decode (z_c m_M_tellsBy) 36 = .ok (.putfield 84, 3) := by decide +kernel
theorem d_M_tellsBy_39 : decode (z_c m_M_tellsBy) 39 = .ok (.aload_n 0, 1) := by decide +kernel
theorem d_M_tellsBy_40 : decode (z_c m_M_tellsBy) 40 = .ok (.lload_n 3, 1) := by decide +kernel
theorem d_M_tellsBy_41 : decode (z_c m_M_tellsBy) 41 = .ok (.lload 5, 2) := by decide +kernel
theorem d_M_tellsBy_43 : decode (z_c m_M_tellsBy) 43 = .ok (.ldiv, 1) := by decide +kernel
theorem d_M_tellsBy_44 : decode (z_c m_M_tellsBy) 44 = .ok (.putfield 13, 3) := by decide +kernel
theorem d_M_tellsBy_47 : decode (z_c m_M_tellsBy) 47 = .ok (.aload_n 0, 1) := by decide +kernel
theorem d_M_tellsBy_48 : decode (z_c m_M_tellsBy) 48 = .ok (.iconst 0, 1) := by decide +kernel
theorem d_M_tellsBy_49 : decode (z_c m_M_tellsBy) 49 = .ok (.invokevirtual 94, 3) := by decide +kernel
theorem d_M_tellsBy_52 : decode (z_c m_M_tellsBy) 52 = .ok (.ireturn, 1) := by decide +kernel
abbrev L_M_tellsBy_6 (X : z_X) (N : Nat) (σ : z_G) (x1 x3 x5 x7 : Int) (g : z_G) (Q : z_P) : Prop := z_U X 2 m_M_tellsBy 6 [(0, (2, 0)), (1, (1, x1)), (3, (1, x3)), (5, (1, x5)), (7, (1, x7))] [] N σ g Q
set_option maxRecDepth 8000 in
theorem b_M_tellsBy_0 {X : z_X} {N : Nat} {σ g : z_G} {Q : z_P} {a1 a3 : Int} (hx : z_lay X N σ 0 z_SM z_RM) (h : L_M_tellsBy_6 X N σ a1 a3 a1 a3 g Q) : z_O X 2 m_M_tellsBy [(2, 0), (1, a1), (1, a3)] N σ g Q := by
  refine z_Oenter mi_M_tellsBy rfl (fun _ => ?_)
  show z_U X 2 m_M_tellsBy 0 [(0, (2, 0)), (1, (1, a1)), (3, (1, a3))] [] N σ g Q
  refine z_lload_n (i := 1) 1 d_M_tellsBy_0 rfl rfl ?_
  refine z_lstore (ls' := [(5, (1, a1)), (0, (2, 0)), (1, (1, a1)), (3, (1, a3))]) d_M_tellsBy_1 rfl rfl ?_
  refine z_lload_n (i := 3) 3 d_M_tellsBy_3 rfl rfl ?_
  refine z_lstore (ls' := [(7, (1, a3)), (5, (1, a1)), (0, (2, 0)), (1, (1, a1)), (3, (1, a3))]) d_M_tellsBy_4 rfl rfl ?_
  refine z_sub (ls' := [(0, (2, 0)), (1, (1, a1)), (3, (1, a3)), (5, (1, a1)), (7, (1, a3))]) [2, 3, 4, 1, 0] rfl ?_
  exact h
set_option maxRecDepth 8000 in
theorem b_M_tellsBy_6 {X : z_X} {N : Nat} {σ g : z_G} {Q : z_P} {x1 x3 x5 x7 : Int} (hx : z_lay X N σ 0 z_SM z_RM) (h : ((x7 = 0) → ((0 < x5) ∧ Q 1 (z_up (z_up (z_up g 0 2 (Int.tdiv x1 x5)) 0 3 (Int.tdiv x3 x5)) 0 1 0))) ∧ (¬ (x7 = 0) → ((0 < x7) ∧ L_M_tellsBy_6 X N σ x1 x3 x7 (Int.tmod x5 x7) g Q))) : L_M_tellsBy_6 X N σ x1 x3 x5 x7 g Q := by
  refine z_lload 4 d_M_tellsBy_6 rfl ?_
  refine z_lconst (v := 0) d_M_tellsBy_8 (by decide) (by decide) ?_
  refine z_lcmp_eq (tgt := 31) d_M_tellsBy_9 d_M_tellsBy_10 (by decide) (fun c1 => ?_) (fun c1 => ?_)
  · have h := h.1 c1
    refine z_aload_n (i := 0) (c := 0) 0 d_M_tellsBy_31 rfl rfl rfl ?_
    refine z_lload_n (i := 1) 1 d_M_tellsBy_32 rfl rfl ?_
    refine z_lload 3 d_M_tellsBy_33 rfl ?_
    obtain ⟨c2, h⟩ := h
    refine z_ldiv d_M_tellsBy_35 c2 ?_
    refine z_putl (c := 0) (kI := 2) d_M_tellsBy_36 fd_M_top fl_M_84 pf_M_top rfl rfl rfl rfl (ks_M_0 hx) (kl_M_0 hx) ?_
    refine z_aload_n (i := 0) (c := 0) 0 d_M_tellsBy_39 rfl rfl rfl ?_
    refine z_lload_n (i := 3) 2 d_M_tellsBy_40 rfl rfl ?_
    refine z_lload 3 d_M_tellsBy_41 rfl ?_
    refine z_ldiv d_M_tellsBy_43 c2 ?_
    refine z_putl (c := 0) (kI := 3) d_M_tellsBy_44 fd_M_bottom fl_M_13 pf_M_bottom rfl rfl rfl rfl (ks_M_0 hx) (kl_M_0 hx) ?_
    refine z_aload_n (i := 0) (c := 0) 0 d_M_tellsBy_47 rfl rfl rfl ?_
    refine z_iconst (n := 0) d_M_tellsBy_48 (by decide) ?_
    refine z_cV (c := 0) (as := [(0, 0)]) (d' := 1) (st := []) d_M_tellsBy_49 mi_M_is ml_M_94 mv_M_is se_M_is rfl rfl rfl rfl (ks_M_0 hx) rfl rfl (kl_M_0 hx) rfl rfl (b_M_is_0 hx ?_)
    refine ⟨fun _ => ?_, fun c => absurd (by decide) c⟩
    intro _
    show z_U X 2 m_M_tellsBy 52 [(0, (2, 0)), (1, (1, x1)), (3, (1, x3)), (5, (1, x5)), (7, (1, x7))] [(0, 1)] N σ (z_up (z_up (z_up g 0 2 (Int.tdiv x1 x5)) 0 3 (Int.tdiv x3 x5)) 0 1 0) Q
    exact z_zret d_M_tellsBy_52 rfl (by decide) (by decide) (by decide) ⟨rfl, rfl, h⟩
  · have h := h.2 c1
    refine z_lload 3 d_M_tellsBy_13 rfl ?_
    refine z_lload 4 d_M_tellsBy_15 rfl ?_
    obtain ⟨c3, h⟩ := h
    refine z_lrem d_M_tellsBy_17 c3 ?_
    refine z_lstore (ls' := [(9, (1, Int.tmod x5 x7)), (0, (2, 0)), (1, (1, x1)), (3, (1, x3)), (5, (1, x5)), (7, (1, x7))]) d_M_tellsBy_18 rfl rfl ?_
    refine z_lload 5 d_M_tellsBy_20 rfl ?_
    refine z_lstore (ls' := [(5, (1, x7)), (9, (1, Int.tmod x5 x7)), (0, (2, 0)), (1, (1, x1)), (3, (1, x3)), (7, (1, x7))]) d_M_tellsBy_22 rfl rfl ?_
    refine z_lload 1 d_M_tellsBy_24 rfl ?_
    refine z_lstore (ls' := [(7, (1, Int.tmod x5 x7)), (5, (1, x7)), (9, (1, Int.tmod x5 x7)), (0, (2, 0)), (1, (1, x1)), (3, (1, x3))]) d_M_tellsBy_26 rfl rfl ?_
    refine z_goto (tgt := 6) d_M_tellsBy_28 (by decide) ?_
    refine z_sub (ls' := [(0, (2, 0)), (1, (1, x1)), (3, (1, x3)), (5, (1, x7)), (7, (1, Int.tmod x5 x7))]) [3, 4, 5, 1, 0] rfl ?_
    exact h
theorem d_M_termAt_0 : decode (z_c m_M_termAt) 0 = .ok (.iload_n 1, 1) := by decide +kernel
theorem d_M_termAt_1 : decode (z_c m_M_termAt) 1 = .ok (.iload_n 2, 1) := by decide +kernel
theorem d_M_termAt_2 : decode (z_c m_M_termAt) 2 = .ok (.invokestatic 272, 3) := by decide +kernel
theorem d_M_termAt_5 : decode (z_c m_M_termAt) 5 = .ok (.ifCond .eq 7, 3) := by decide +kernel
theorem d_M_termAt_8 : decode (z_c m_M_termAt) 8 = .ok (.iload_n 3, 1) := by decide +kernel
theorem d_M_termAt_9 : decode (z_c m_M_termAt) 9 = .ok (.ifCond .ge 9, 3) := by decide +kernel
theorem d_M_termAt_12 : decode (z_c m_M_termAt) 12 = .ok (.aload_n 0, 1) := by decide +kernel
theorem d_M_termAt_13 : decode (z_c m_M_termAt) 13 = .ok (.iconst 1, 1) := by decide +kernel
theorem d_M_termAt_14 : decode (z_c m_M_termAt) 14 = .ok (.invokevirtual 87, 3) := by decide +kernel
theorem d_M_termAt_17 : decode (z_c m_M_termAt) 17 = .ok (.ireturn, 1) := by decide +kernel
theorem d_M_termAt_18 : decode (z_c m_M_termAt) 18 = .ok (.aload_n 0, 1) := by decide +kernel
theorem d_M_termAt_19 : decode (z_c m_M_termAt) 19 = .ok (.iload_n 1, 1) := by decide +kernel
theorem d_M_termAt_20 : decode (z_c m_M_termAt) 20 = .ok (.iload_n 2, 1) := by decide +kernel
theorem d_M_termAt_21 : decode (z_c m_M_termAt) 21 = .ok (.invokevirtual 291, 3) := by decide +kernel
theorem d_M_termAt_24 : decode (z_c m_M_termAt) 24 = .ok (.iload_n 3, 1) := by decide +kernel
theorem d_M_termAt_25 : decode (z_c m_M_termAt) 25 = .ok (.aload_n 0, 1) := by decide +kernel
theorem d_M_termAt_26 : decode (z_c m_M_termAt) 26 = .ok (.getfield 288, 3) := by decide +kernel
theorem d_M_termAt_29 : decode (z_c m_M_termAt) 29 = .ok (.if_icmp .ge 16, 3) := by decide +kernel
theorem d_M_termAt_32 : decode (z_c m_M_termAt) 32 = .ok (.aload_n 0, 1) := by decide +kernel
theorem d_M_termAt_33 : decode (z_c m_M_termAt) 33 = .ok (.aload_n 0, 1) := by decide +kernel
theorem d_M_termAt_34 : decode (z_c m_M_termAt) 34 = .ok (.getfield 50, 3) := by decide +kernel
theorem d_M_termAt_37 : decode (z_c m_M_termAt) 37 = .ok (.iload_n 3, 1) := by decide +kernel
theorem d_M_termAt_38 : decode (z_c m_M_termAt) 38 = .ok (.iaload, 1) := by decide +kernel
theorem d_M_termAt_39 : decode (z_c m_M_termAt) 39 = .ok (.invokevirtual 91, 3) := by decide +kernel
theorem d_M_termAt_42 : decode (z_c m_M_termAt) 42 = .ok (.goto 9, 3) := by decide +kernel
theorem d_M_termAt_45 : decode (z_c m_M_termAt) 45 = .ok (.aload_n 0, 1) := by decide +kernel
theorem d_M_termAt_46 : decode (z_c m_M_termAt) 46 = .ok (.bipush 6, 2) := by decide +kernel
theorem d_M_termAt_48 : decode (z_c m_M_termAt) 48 = .ok (.invokevirtual 87, 3) := by decide +kernel
theorem d_M_termAt_51 : decode (z_c m_M_termAt) 51 = .ok (.ireturn, 1) := by decide +kernel
set_option maxRecDepth 8000 in
theorem b_M_termAt_0 {X : z_X} {N : Nat} {σ g : z_G} {Q : z_P} {a1 a2 a3 : Int} (hx : z_lay X N σ 0 z_SM z_RM) (h : ((a2 < 1) → Q (-1) (z_up g 0 1 1)) ∧ (¬ (a2 < 1) → (((9999 < a2) → Q (-1) (z_up g 0 1 1)) ∧ (¬ (9999 < a2) → (((a1 < 0) → Q (-1) (z_up g 0 1 1)) ∧ (¬ (a1 < 0) → (((a2 < a1) → Q (-1) (z_up g 0 1 1)) ∧ (¬ (a2 < a1) → (((0 ≤ a3) → (z_O X 1 m_M_laysTerms [(2, 0), (0, a1), (0, a2)] N σ g (fun r0 g0 => ((((g0 0 27) ≤ a3) → Q (-1) (z_up g0 0 1 6)) ∧ (¬ ((g0 0 27) ≤ a3) → ((0 ≤ a3 ∧ a3 < 40) ∧ Q (g0 10 a3) (z_up g0 0 1 0))))))) ∧ (¬ (0 ≤ a3) → Q (-1) (z_up g 0 1 1))))))))))) : z_O X 2 m_M_termAt [(2, 0), (0, a1), (0, a2), (0, a3)] N σ g Q := by
  refine z_Oenter mi_M_termAt rfl (fun _ => ?_)
  show z_U X 2 m_M_termAt 0 [(0, (2, 0)), (1, (0, a1)), (2, (0, a2)), (3, (0, a3))] [] N σ g Q
  refine z_iload_n (i := 1) 1 d_M_termAt_0 rfl rfl ?_
  refine z_iload_n (i := 2) 2 d_M_termAt_1 rfl rfl ?_
  refine z_cS (as := [(0, a1), (0, a2)]) (d' := 1) (st := []) d_M_termAt_2 mi_M_isValue ml_M_272 ms_M_isValue rfl rfl rfl rfl rfl (b_M_isValue_0  ?_)
  refine ⟨fun c1 => ?_, fun c1 => ?_⟩
  · have h := h.1 c1
    intro _
    show z_U X 2 m_M_termAt 5 [(0, (2, 0)), (1, (0, a1)), (2, (0, a2)), (3, (0, a3))] [(0, 0)] N σ g Q
    refine z_if_eq (tgt := 12) d_M_termAt_5 (by decide) (fun _ => ?_) (fun c => absurd (by decide) c)
    refine z_aload_n (i := 0) (c := 0) 0 d_M_termAt_12 rfl rfl rfl ?_
    refine z_iconst (n := 1) d_M_termAt_13 (by decide) ?_
    refine z_cV (c := 0) (as := [(0, 1)]) (d' := 1) (st := []) d_M_termAt_14 mi_M_refuse ml_M_87 mv_M_refuse se_M_refuse rfl rfl rfl rfl (ks_M_0 hx) rfl rfl (kl_M_0 hx) rfl rfl (b_M_refuse_0 hx ?_)
    intro _
    show z_U X 2 m_M_termAt 17 [(0, (2, 0)), (1, (0, a1)), (2, (0, a2)), (3, (0, a3))] [(0, (-1))] N σ (z_up g 0 1 1) Q
    exact z_iret d_M_termAt_17 rfl (by decide) (by decide) ⟨rfl, rfl, h⟩
  · have h := h.2 c1
    refine ⟨fun c2 => ?_, fun c2 => ?_⟩
    · have h := h.1 c2
      intro _
      show z_U X 2 m_M_termAt 5 [(0, (2, 0)), (1, (0, a1)), (2, (0, a2)), (3, (0, a3))] [(0, 0)] N σ g Q
      refine z_if_eq (tgt := 12) d_M_termAt_5 (by decide) (fun _ => ?_) (fun c => absurd (by decide) c)
      refine z_aload_n (i := 0) (c := 0) 0 d_M_termAt_12 rfl rfl rfl ?_
      refine z_iconst (n := 1) d_M_termAt_13 (by decide) ?_
      refine z_cV (c := 0) (as := [(0, 1)]) (d' := 1) (st := []) d_M_termAt_14 mi_M_refuse ml_M_87 mv_M_refuse se_M_refuse rfl rfl rfl rfl (ks_M_0 hx) rfl rfl (kl_M_0 hx) rfl rfl (b_M_refuse_0 hx ?_)
      intro _
      show z_U X 2 m_M_termAt 17 [(0, (2, 0)), (1, (0, a1)), (2, (0, a2)), (3, (0, a3))] [(0, (-1))] N σ (z_up g 0 1 1) Q
      exact z_iret d_M_termAt_17 rfl (by decide) (by decide) ⟨rfl, rfl, h⟩
    · have h := h.2 c2
      refine ⟨fun c3 => ?_, fun c3 => ?_⟩
      · have h := h.1 c3
        intro _
        show z_U X 2 m_M_termAt 5 [(0, (2, 0)), (1, (0, a1)), (2, (0, a2)), (3, (0, a3))] [(0, 0)] N σ g Q
        refine z_if_eq (tgt := 12) d_M_termAt_5 (by decide) (fun _ => ?_) (fun c => absurd (by decide) c)
        refine z_aload_n (i := 0) (c := 0) 0 d_M_termAt_12 rfl rfl rfl ?_
        refine z_iconst (n := 1) d_M_termAt_13 (by decide) ?_
        refine z_cV (c := 0) (as := [(0, 1)]) (d' := 1) (st := []) d_M_termAt_14 mi_M_refuse ml_M_87 mv_M_refuse se_M_refuse rfl rfl rfl rfl (ks_M_0 hx) rfl rfl (kl_M_0 hx) rfl rfl (b_M_refuse_0 hx ?_)
        intro _
        show z_U X 2 m_M_termAt 17 [(0, (2, 0)), (1, (0, a1)), (2, (0, a2)), (3, (0, a3))] [(0, (-1))] N σ (z_up g 0 1 1) Q
        exact z_iret d_M_termAt_17 rfl (by decide) (by decide) ⟨rfl, rfl, h⟩
      · have h := h.2 c3
        refine ⟨fun c4 => ?_, fun c4 => ?_⟩
        · have h := h.1 c4
          intro _
          show z_U X 2 m_M_termAt 5 [(0, (2, 0)), (1, (0, a1)), (2, (0, a2)), (3, (0, a3))] [(0, 0)] N σ g Q
          refine z_if_eq (tgt := 12) d_M_termAt_5 (by decide) (fun _ => ?_) (fun c => absurd (by decide) c)
          refine z_aload_n (i := 0) (c := 0) 0 d_M_termAt_12 rfl rfl rfl ?_
          refine z_iconst (n := 1) d_M_termAt_13 (by decide) ?_
          refine z_cV (c := 0) (as := [(0, 1)]) (d' := 1) (st := []) d_M_termAt_14 mi_M_refuse ml_M_87 mv_M_refuse se_M_refuse rfl rfl rfl rfl (ks_M_0 hx) rfl rfl (kl_M_0 hx) rfl rfl (b_M_refuse_0 hx ?_)
          intro _
          show z_U X 2 m_M_termAt 17 [(0, (2, 0)), (1, (0, a1)), (2, (0, a2)), (3, (0, a3))] [(0, (-1))] N σ (z_up g 0 1 1) Q
          exact z_iret d_M_termAt_17 rfl (by decide) (by decide) ⟨rfl, rfl, h⟩
        · have h := h.2 c4
          intro _
          show z_U X 2 m_M_termAt 5 [(0, (2, 0)), (1, (0, a1)), (2, (0, a2)), (3, (0, a3))] [(0, 1)] N σ g Q
          refine z_if_eq (tgt := 12) d_M_termAt_5 (by decide) (fun c => absurd c (by decide)) (fun _ => ?_)
          refine z_iload_n (i := 3) 3 d_M_termAt_8 rfl rfl ?_
          refine z_if_ge (tgt := 18) d_M_termAt_9 (by decide) (fun c5 => ?_) (fun c5 => ?_)
          · have h := h.1 c5
            refine z_aload_n (i := 0) (c := 0) 0 d_M_termAt_18 rfl rfl rfl ?_
            refine z_iload_n (i := 1) 1 d_M_termAt_19 rfl rfl ?_
            refine z_iload_n (i := 2) 2 d_M_termAt_20 rfl rfl ?_
            refine z_cV (c := 0) (as := [(0, a1), (0, a2)]) (d' := 1) (st := []) d_M_termAt_21 mi_M_laysTerms ml_M_291 mv_M_laysTerms se_M_laysTerms rfl rfl rfl rfl (ks_M_0 hx) rfl rfl (kl_M_0 hx) rfl rfl (z_Omono h (fun r0 g0 _ h hro => ?_))
            show z_U X 2 m_M_termAt 24 [(0, (2, 0)), (1, (0, a1)), (2, (0, a2)), (3, (0, a3))] [] N σ g0 Q
            refine z_iload_n (i := 3) 3 d_M_termAt_24 rfl rfl ?_
            refine z_aload_n (i := 0) (c := 0) 0 d_M_termAt_25 rfl rfl rfl ?_
            refine z_geti (c := 0) (kI := 27) d_M_termAt_26 fd_M_termMany fl_M_288 (Or.inl rfl) rfl rfl (ks_M_0 hx) (kl_M_0 hx) ?_
            refine z_icmp_ge (tgt := 45) d_M_termAt_29 (by decide) (fun c6 => ?_) (fun c6 => ?_)
            · have h := h.1 c6
              refine z_aload_n (i := 0) (c := 0) 0 d_M_termAt_45 rfl rfl rfl ?_
              refine z_bipush (n := 6) d_M_termAt_46 (by decide) (by decide) ?_
              refine z_cV (c := 0) (as := [(0, 6)]) (d' := 1) (st := []) d_M_termAt_48 mi_M_refuse ml_M_87 mv_M_refuse se_M_refuse rfl rfl rfl rfl (ks_M_0 hx) rfl rfl (kl_M_0 hx) rfl rfl (b_M_refuse_0 hx ?_)
              intro _
              show z_U X 2 m_M_termAt 51 [(0, (2, 0)), (1, (0, a1)), (2, (0, a2)), (3, (0, a3))] [(0, (-1))] N σ (z_up g0 0 1 6) Q
              exact z_iret d_M_termAt_51 rfl (by decide) (by decide) ⟨rfl, rfl, h⟩
            · have h := h.2 c6
              refine z_aload_n (i := 0) (c := 0) 0 d_M_termAt_32 rfl rfl rfl ?_
              refine z_aload_n (i := 0) (c := 0) 0 d_M_termAt_33 rfl rfl rfl ?_
              refine z_getr (c := 0) (kI := 26) (r2 := 10) d_M_termAt_34 fd_M_termBy fl_M_50 rfl rfl rfl (ks_M_0 hx) (kl_M_0 hx) (kr_M_0_26 hx) ?_
              refine z_iload_n (i := 3) 3 d_M_termAt_37 rfl rfl ?_
              obtain ⟨c7, h⟩ := h
              refine z_iald (c := 10) (m := 40) d_M_termAt_38 rfl (ks_M_10 hx) (kl_M_10 hx) rfl (by decide) c7 ?_
              refine z_cV (c := 0) (as := [(0, g0 10 a3)]) (d' := 1) (st := []) d_M_termAt_39 mi_M_gives ml_M_91 mv_M_gives se_M_gives rfl rfl rfl rfl (ks_M_0 hx) rfl rfl (kl_M_0 hx) rfl rfl (b_M_gives_0 hx ?_)
              intro _
              show z_U X 2 m_M_termAt 42 [(0, (2, 0)), (1, (0, a1)), (2, (0, a2)), (3, (0, a3))] [(0, g0 10 a3)] N σ (z_up g0 0 1 0) Q
              refine z_goto (tgt := 51) d_M_termAt_42 (by decide) ?_
              exact z_iret d_M_termAt_51 rfl (by decide) (by decide) ⟨rfl, rfl, h⟩
          · have h := h.2 c5
            refine z_aload_n (i := 0) (c := 0) 0 d_M_termAt_12 rfl rfl rfl ?_
            refine z_iconst (n := 1) d_M_termAt_13 (by decide) ?_
            refine z_cV (c := 0) (as := [(0, 1)]) (d' := 1) (st := []) d_M_termAt_14 mi_M_refuse ml_M_87 mv_M_refuse se_M_refuse rfl rfl rfl rfl (ks_M_0 hx) rfl rfl (kl_M_0 hx) rfl rfl (b_M_refuse_0 hx ?_)
            intro _
            show z_U X 2 m_M_termAt 17 [(0, (2, 0)), (1, (0, a1)), (2, (0, a2)), (3, (0, a3))] [(0, (-1))] N σ (z_up g 0 1 1) Q
            exact z_iret d_M_termAt_17 rfl (by decide) (by decide) ⟨rfl, rfl, h⟩
theorem d_M_terms_0 : decode (z_c m_M_terms) 0 = .ok (.iload_n 1, 1) := by decide +kernel
theorem d_M_terms_1 : decode (z_c m_M_terms) 1 = .ok (.iload_n 2, 1) := by decide +kernel
theorem d_M_terms_2 : decode (z_c m_M_terms) 2 = .ok (.invokestatic 272, 3) := by decide +kernel
theorem d_M_terms_5 : decode (z_c m_M_terms) 5 = .ok (.ifCond .ne 9, 3) := by decide +kernel
theorem d_M_terms_8 : decode (z_c m_M_terms) 8 = .ok (.aload_n 0, 1) := by decide +kernel
theorem d_M_terms_9 : decode (z_c m_M_terms) 9 = .ok (.iconst 1, 1) := by decide +kernel
theorem d_M_terms_10 : decode (z_c m_M_terms) 10 = .ok (.invokevirtual 87, 3) := by decide +kernel
theorem d_M_terms_13 : decode (z_c m_M_terms) 13 = .ok (.ireturn, 1) := by decide +kernel
theorem d_M_terms_14 : decode (z_c m_M_terms) 14 = .ok (.aload_n 0, 1) := by decide +kernel
theorem d_M_terms_15 : decode (z_c m_M_terms) 15 = .ok (.iload_n 1, 1) := by decide +kernel
theorem d_M_terms_16 : decode (z_c m_M_terms) 16 = .ok (.iload_n 2, 1) := by decide +kernel
theorem d_M_terms_17 : decode (z_c m_M_terms) 17 = .ok (.invokevirtual 291, 3) := by decide +kernel
theorem d_M_terms_20 : decode (z_c m_M_terms) 20 = .ok (.aload_n 0, 1) := by decide +kernel
theorem d_M_terms_21 : decode (z_c m_M_terms) 21 = .ok (.aload_n 0, 1) := by decide +kernel
theorem d_M_terms_22 : decode (z_c m_M_terms) 22 = .ok (.getfield 288, 3) := by decide +kernel
theorem d_M_terms_25 : decode (z_c m_M_terms) 25 = .ok (.invokevirtual 91, 3) := by decide +kernel
theorem d_M_terms_28 : decode (z_c m_M_terms) 28 = .ok (.ireturn, 1) := by decide +kernel
set_option maxRecDepth 8000 in
theorem b_M_terms_0 {X : z_X} {N : Nat} {σ g : z_G} {Q : z_P} {a1 a2 : Int} (hx : z_lay X N σ 0 z_SM z_RM) (h : ((a2 < 1) → Q (-1) (z_up g 0 1 1)) ∧ (¬ (a2 < 1) → (((9999 < a2) → Q (-1) (z_up g 0 1 1)) ∧ (¬ (9999 < a2) → (((a1 < 0) → Q (-1) (z_up g 0 1 1)) ∧ (¬ (a1 < 0) → (((a2 < a1) → Q (-1) (z_up g 0 1 1)) ∧ (¬ (a2 < a1) → (z_O X 1 m_M_laysTerms [(2, 0), (0, a1), (0, a2)] N σ g (fun r0 g0 => Q (g0 0 27) (z_up g0 0 1 0))))))))))) : z_O X 2 m_M_terms [(2, 0), (0, a1), (0, a2)] N σ g Q := by
  refine z_Oenter mi_M_terms rfl (fun _ => ?_)
  show z_U X 2 m_M_terms 0 [(0, (2, 0)), (1, (0, a1)), (2, (0, a2))] [] N σ g Q
  refine z_iload_n (i := 1) 1 d_M_terms_0 rfl rfl ?_
  refine z_iload_n (i := 2) 2 d_M_terms_1 rfl rfl ?_
  refine z_cS (as := [(0, a1), (0, a2)]) (d' := 1) (st := []) d_M_terms_2 mi_M_isValue ml_M_272 ms_M_isValue rfl rfl rfl rfl rfl (b_M_isValue_0  ?_)
  refine ⟨fun c1 => ?_, fun c1 => ?_⟩
  · have h := h.1 c1
    intro _
    show z_U X 2 m_M_terms 5 [(0, (2, 0)), (1, (0, a1)), (2, (0, a2))] [(0, 0)] N σ g Q
    refine z_if_ne (tgt := 14) d_M_terms_5 (by decide) (fun c => absurd (by decide) c) (fun _ => ?_)
    refine z_aload_n (i := 0) (c := 0) 0 d_M_terms_8 rfl rfl rfl ?_
    refine z_iconst (n := 1) d_M_terms_9 (by decide) ?_
    refine z_cV (c := 0) (as := [(0, 1)]) (d' := 1) (st := []) d_M_terms_10 mi_M_refuse ml_M_87 mv_M_refuse se_M_refuse rfl rfl rfl rfl (ks_M_0 hx) rfl rfl (kl_M_0 hx) rfl rfl (b_M_refuse_0 hx ?_)
    intro _
    show z_U X 2 m_M_terms 13 [(0, (2, 0)), (1, (0, a1)), (2, (0, a2))] [(0, (-1))] N σ (z_up g 0 1 1) Q
    exact z_iret d_M_terms_13 rfl (by decide) (by decide) ⟨rfl, rfl, h⟩
  · have h := h.2 c1
    refine ⟨fun c2 => ?_, fun c2 => ?_⟩
    · have h := h.1 c2
      intro _
      show z_U X 2 m_M_terms 5 [(0, (2, 0)), (1, (0, a1)), (2, (0, a2))] [(0, 0)] N σ g Q
      refine z_if_ne (tgt := 14) d_M_terms_5 (by decide) (fun c => absurd (by decide) c) (fun _ => ?_)
      refine z_aload_n (i := 0) (c := 0) 0 d_M_terms_8 rfl rfl rfl ?_
      refine z_iconst (n := 1) d_M_terms_9 (by decide) ?_
      refine z_cV (c := 0) (as := [(0, 1)]) (d' := 1) (st := []) d_M_terms_10 mi_M_refuse ml_M_87 mv_M_refuse se_M_refuse rfl rfl rfl rfl (ks_M_0 hx) rfl rfl (kl_M_0 hx) rfl rfl (b_M_refuse_0 hx ?_)
      intro _
      show z_U X 2 m_M_terms 13 [(0, (2, 0)), (1, (0, a1)), (2, (0, a2))] [(0, (-1))] N σ (z_up g 0 1 1) Q
      exact z_iret d_M_terms_13 rfl (by decide) (by decide) ⟨rfl, rfl, h⟩
    · have h := h.2 c2
      refine ⟨fun c3 => ?_, fun c3 => ?_⟩
      · have h := h.1 c3
        intro _
        show z_U X 2 m_M_terms 5 [(0, (2, 0)), (1, (0, a1)), (2, (0, a2))] [(0, 0)] N σ g Q
        refine z_if_ne (tgt := 14) d_M_terms_5 (by decide) (fun c => absurd (by decide) c) (fun _ => ?_)
        refine z_aload_n (i := 0) (c := 0) 0 d_M_terms_8 rfl rfl rfl ?_
        refine z_iconst (n := 1) d_M_terms_9 (by decide) ?_
        refine z_cV (c := 0) (as := [(0, 1)]) (d' := 1) (st := []) d_M_terms_10 mi_M_refuse ml_M_87 mv_M_refuse se_M_refuse rfl rfl rfl rfl (ks_M_0 hx) rfl rfl (kl_M_0 hx) rfl rfl (b_M_refuse_0 hx ?_)
        intro _
        show z_U X 2 m_M_terms 13 [(0, (2, 0)), (1, (0, a1)), (2, (0, a2))] [(0, (-1))] N σ (z_up g 0 1 1) Q
        exact z_iret d_M_terms_13 rfl (by decide) (by decide) ⟨rfl, rfl, h⟩
      · have h := h.2 c3
        refine ⟨fun c4 => ?_, fun c4 => ?_⟩
        · have h := h.1 c4
          intro _
          show z_U X 2 m_M_terms 5 [(0, (2, 0)), (1, (0, a1)), (2, (0, a2))] [(0, 0)] N σ g Q
          refine z_if_ne (tgt := 14) d_M_terms_5 (by decide) (fun c => absurd (by decide) c) (fun _ => ?_)
          refine z_aload_n (i := 0) (c := 0) 0 d_M_terms_8 rfl rfl rfl ?_
          refine z_iconst (n := 1) d_M_terms_9 (by decide) ?_
          refine z_cV (c := 0) (as := [(0, 1)]) (d' := 1) (st := []) d_M_terms_10 mi_M_refuse ml_M_87 mv_M_refuse se_M_refuse rfl rfl rfl rfl (ks_M_0 hx) rfl rfl (kl_M_0 hx) rfl rfl (b_M_refuse_0 hx ?_)
          intro _
          show z_U X 2 m_M_terms 13 [(0, (2, 0)), (1, (0, a1)), (2, (0, a2))] [(0, (-1))] N σ (z_up g 0 1 1) Q
          exact z_iret d_M_terms_13 rfl (by decide) (by decide) ⟨rfl, rfl, h⟩
        · have h := h.2 c4
          intro _
          show z_U X 2 m_M_terms 5 [(0, (2, 0)), (1, (0, a1)), (2, (0, a2))] [(0, 1)] N σ g Q
          refine z_if_ne (tgt := 14) d_M_terms_5 (by decide) (fun _ => ?_) (fun c => absurd c (by decide))
          refine z_aload_n (i := 0) (c := 0) 0 d_M_terms_14 rfl rfl rfl ?_
          refine z_iload_n (i := 1) 1 d_M_terms_15 rfl rfl ?_
          refine z_iload_n (i := 2) 2 d_M_terms_16 rfl rfl ?_
          refine z_cV (c := 0) (as := [(0, a1), (0, a2)]) (d' := 1) (st := []) d_M_terms_17 mi_M_laysTerms ml_M_291 mv_M_laysTerms se_M_laysTerms rfl rfl rfl rfl (ks_M_0 hx) rfl rfl (kl_M_0 hx) rfl rfl (z_Omono h (fun r0 g0 _ h hro => ?_))
          show z_U X 2 m_M_terms 20 [(0, (2, 0)), (1, (0, a1)), (2, (0, a2))] [] N σ g0 Q
          refine z_aload_n (i := 0) (c := 0) 0 d_M_terms_20 rfl rfl rfl ?_
          refine z_aload_n (i := 0) (c := 0) 0 d_M_terms_21 rfl rfl rfl ?_
          refine z_geti (c := 0) (kI := 27) d_M_terms_22 fd_M_termMany fl_M_288 (Or.inl rfl) rfl rfl (ks_M_0 hx) (kl_M_0 hx) ?_
          refine z_cV (c := 0) (as := [(0, g0 0 27)]) (d' := 1) (st := []) d_M_terms_25 mi_M_gives ml_M_91 mv_M_gives se_M_gives rfl rfl rfl rfl (ks_M_0 hx) rfl rfl (kl_M_0 hx) rfl rfl (b_M_gives_0 hx ?_)
          intro _
          show z_U X 2 m_M_terms 28 [(0, (2, 0)), (1, (0, a1)), (2, (0, a2))] [(0, g0 0 27)] N σ (z_up g0 0 1 0) Q
          exact z_iret d_M_terms_28 rfl (by decide) (by decide) ⟨rfl, rfl, h⟩
theorem d_M_topOf_0 : decode (z_c m_M_topOf) 0 = .ok (.aload_n 0, 1) := by decide +kernel
theorem d_M_topOf_1 : decode (z_c m_M_topOf) 1 = .ok (.getfield 7, 3) := by decide +kernel
theorem d_M_topOf_4 : decode (z_c m_M_topOf) 4 = .ok (.iload_n 1, 1) := by decide +kernel
theorem d_M_topOf_5 : decode (z_c m_M_topOf) 5 = .ok (.invokestatic 346, 3) := by decide +kernel
theorem d_M_topOf_8 : decode (z_c m_M_topOf) 8 = .ok (.iaload, 1) := by decide +kernel
theorem d_M_topOf_9 : decode (z_c m_M_topOf) 9 = .ok (.ireturn, 1) := by decide +kernel
set_option maxRecDepth 8000 in
theorem b_M_topOf_0 {X : z_X} {N : Nat} {σ g : z_G} {Q : z_P} {a1 : Int} (hx : z_lay X N σ 0 z_SM z_RM) (h : (-2147483648 ≤ (3 * a1) ∧ (3 * a1) ≤ 2147483647) ∧ ((-2147483648 ≤ (10 + (3 * a1)) ∧ (10 + (3 * a1)) ≤ 2147483647) ∧ ((0 ≤ (10 + (3 * a1)) ∧ (10 + (3 * a1)) < 3296) ∧ Q (g 1 (10 + (3 * a1))) g))) : z_O X 2 m_M_topOf [(2, 0), (0, a1)] N σ g Q := by
  refine z_Oenter mi_M_topOf rfl (fun _ => ?_)
  show z_U X 2 m_M_topOf 0 [(0, (2, 0)), (1, (0, a1))] [] N σ g Q
  refine z_aload_n (i := 0) (c := 0) 0 d_M_topOf_0 rfl rfl rfl ?_
  refine z_getr (c := 0) (kI := 0) (r2 := 1) d_M_topOf_1 fd_M_at fl_M_7 rfl rfl rfl (ks_M_0 hx) (kl_M_0 hx) (kr_M_0_0 hx) ?_
  refine z_iload_n (i := 1) 1 d_M_topOf_4 rfl rfl ?_
  refine z_cS (as := [(0, a1)]) (d' := 1) (st := [(2, 1)]) d_M_topOf_5 mi_M_rowOf ml_M_346 ms_M_rowOf rfl rfl rfl rfl rfl (b_M_rowOf_0  ?_)
  obtain ⟨c1, h⟩ := h
  refine ⟨c1, ?_⟩
  obtain ⟨c2, h⟩ := h
  refine ⟨c2, ?_⟩
  intro _
  show z_U X 2 m_M_topOf 8 [(0, (2, 0)), (1, (0, a1))] [(0, 10 + (3 * a1)), (2, 1)] N σ g Q
  obtain ⟨c3, h⟩ := h
  refine z_iald (c := 1) (m := 3296) d_M_topOf_8 rfl (ks_M_1 hx) (kl_M_1 hx) rfl (by decide) c3 ?_
  exact z_iret d_M_topOf_9 rfl (by decide) (by decide) ⟨rfl, rfl, h⟩
theorem d_M_tray_0 : decode (z_c m_M_tray) 0 = .ok (.iload_n 1, 1) := by decide +kernel
theorem d_M_tray_1 : decode (z_c m_M_tray) 1 = .ok (.invokestatic 98, 3) := by decide +kernel
theorem d_M_tray_4 : decode (z_c m_M_tray) 4 = .ok (.ifCond .eq 22, 3) := by decide +kernel
theorem d_M_tray_7 : decode (z_c m_M_tray) 7 = .ok (.iload_n 2, 1) := by decide +kernel
theorem d_M_tray_8 : decode (z_c m_M_tray) 8 = .ok (.ifCond .lt 18, 3) := by decide +kernel
theorem d_M_tray_11 : decode (z_c m_M_tray) 11 = .ok (.iload_n 2, 1) := by decide +kernel
theorem d_M_tray_12 : decode (z_c m_M_tray) 12 = .ok (.iconst 3, 1) := by decide +kernel
theorem d_M_tray_13 : decode (z_c m_M_tray) 13 = .ok (.if_icmp .gt 13, 3) := by decide +kernel
theorem d_M_tray_16 : decode (z_c m_M_tray) 16 = .ok (.iload_n 3, 1) := by decide +kernel
theorem d_M_tray_17 : decode (z_c m_M_tray) 17 = .ok (.ifCond .lt 9, 3) := by decide +kernel
theorem d_M_tray_20 : decode (z_c m_M_tray) 20 = .ok (.iload_n 3, 1) := by decide +kernel
theorem d_M_tray_21 : decode (z_c m_M_tray) 21 = .ok (.bipush 60, 2) := by decide +kernel
theorem d_M_tray_23 : decode (z_c m_M_tray) 23 = .ok (.if_icmp .le 9, 3) := by decide +kernel
theorem d_M_tray_26 : decode (z_c m_M_tray) 26 = .ok (.aload_n 0, 1) := by decide +kernel
theorem d_M_tray_27 : decode (z_c m_M_tray) 27 = .ok (.iconst 1, 1) := by decide +kernel
theorem d_M_tray_28 : decode (z_c m_M_tray) 28 = .ok (.invokevirtual 94, 3) := by decide +kernel
theorem d_M_tray_31 : decode (z_c m_M_tray) 31 = .ok (.ireturn, 1) := by decide +kernel
theorem d_M_tray_32 : decode (z_c m_M_tray) 32 = .ok (.aload_n 0, 1) := by decide +kernel
theorem d_M_tray_33 : decode (z_c m_M_tray) 33 = .ok (.getfield 17, 3) := by decide +kernel
theorem d_M_tray_36 : decode (z_c m_M_tray) 36 = .ok (.iload_n 1, 1) := by decide +kernel
theorem d_M_tray_37 : decode (z_c m_M_tray) 37 = .ok (.iload_n 2, 1) := by decide +kernel
theorem d_M_tray_38 : decode (z_c m_M_tray) 38 = .ok (.iastore, 1) := by decide +kernel
theorem d_M_tray_39 : decode (z_c m_M_tray) 39 = .ok (.aload_n 0, 1) := by decide +kernel
theorem d_M_tray_40 : decode (z_c m_M_tray) 40 = .ok (.getfield 20, 3) := by decide +kernel
theorem d_M_tray_43 : decode (z_c m_M_tray) 43 = .ok (.iload_n 1, 1) := by decide +kernel
theorem d_M_tray_44 : decode (z_c m_M_tray) 44 = .ok (.iload_n 3, 1) := by decide +kernel
theorem d_M_tray_45 : decode (z_c m_M_tray) 45 = .ok (.iastore, 1) := by decide +kernel
theorem d_M_tray_46 : decode (z_c m_M_tray) 46 = .ok (.iconst 0, 1) := by decide +kernel
theorem d_M_tray_47 : decode (z_c m_M_tray) 47 = .ok (.istore 4, 2) := by decide +kernel
theorem d_M_tray_49 : decode (z_c m_M_tray) 49 = .ok (.iload 4, 2) := by decide +kernel
theorem d_M_tray_51 : decode (z_c m_M_tray) 51 = .ok (.iload_n 3, 1) := by decide +kernel
theorem d_M_tray_52 : decode (z_c m_M_tray) 52 = .ok (.if_icmp .ge 22, 3) := by decide +kernel
theorem d_M_tray_55 : decode (z_c m_M_tray) 55 = .ok (.aload_n 0, 1) := by decide +kernel
theorem d_M_tray_56 : decode (z_c m_M_tray) 56 = .ok (.getfield 23, 3) := by decide +kernel
theorem d_M_tray_59 : decode (z_c m_M_tray) 59 = .ok (.bipush 60, 2) := by decide +kernel
theorem d_M_tray_61 : decode (z_c m_M_tray) 61 = .ok (.iload_n 1, 1) := by decide +kernel
theorem d_M_tray_62 : decode (z_c m_M_tray) 62 = .ok (.imul, 1) := by decide +kernel
theorem d_M_tray_63 : decode (z_c m_M_tray) 63 = .ok (.iload 4, 2) := by decide +kernel
theorem d_M_tray_65 : decode (z_c m_M_tray) 65 = .ok (.iadd, 1) := by decide +kernel
theorem d_M_tray_66 : decode (z_c m_M_tray) 66 = .ok (.lconst 0, 1) := by decide +kernel
theorem d_M_tray_67 : decode (z_c m_M_tray) 67 = .ok (.lastore, 1) := by decide +kernel
theorem d_M_tray_68 : decode (z_c m_M_tray) 68 = .ok (.iinc 4 1, 3) := by decide +kernel
theorem d_M_tray_71 : decode (z_c m_M_tray) 71 = .ok (.goto (-22), 3) := by decide +kernel
theorem d_M_tray_74 : decode (z_c m_M_tray) 74 = .ok (.aload_n 0, 1) := by decide +kernel
theorem d_M_tray_75 : decode (z_c m_M_tray) 75 = .ok (.iconst 0, 1) := by decide +kernel
theorem d_M_tray_76 : decode (z_c m_M_tray) 76 = .ok (.invokevirtual 94, 3) := by decide +kernel
theorem d_M_tray_79 : decode (z_c m_M_tray) 79 = .ok (.ireturn, 1) := by decide +kernel
abbrev L_M_tray_49 (X : z_X) (N : Nat) (σ : z_G) (x1 x3 x4 : Int) (g : z_G) (Q : z_P) : Prop := z_U X 2 m_M_tray 49 [(0, (2, 0)), (1, (0, x1)), (3, (0, x3)), (4, (0, x4))] [] N σ g Q
set_option maxRecDepth 8000 in
theorem b_M_tray_0 {X : z_X} {N : Nat} {σ g : z_G} {Q : z_P} {a1 a2 a3 : Int} (hx : z_lay X N σ 0 z_SM z_RM) (h : ((a1 < 0) → Q 0 (z_up g 0 1 1)) ∧ (¬ (a1 < 0) → (((4 ≤ a1) → Q 0 (z_up g 0 1 1)) ∧ (¬ (4 ≤ a1) → (((a2 < 0) → Q 0 (z_up g 0 1 1)) ∧ (¬ (a2 < 0) → (((3 < a2) → Q 0 (z_up g 0 1 1)) ∧ (¬ (3 < a2) → (((a3 < 0) → Q 0 (z_up g 0 1 1)) ∧ (¬ (a3 < 0) → (((a3 ≤ 60) → ((0 ≤ a1 ∧ a1 < 4) ∧ L_M_tray_49 X N σ a1 a3 0 (z_up (z_up g 2 a1 a2) 3 a1 a3) Q)) ∧ (¬ (a3 ≤ 60) → Q 0 (z_up g 0 1 1))))))))))))) : z_O X 2 m_M_tray [(2, 0), (0, a1), (0, a2), (0, a3)] N σ g Q := by
  refine z_Oenter mi_M_tray rfl (fun _ => ?_)
  show z_U X 2 m_M_tray 0 [(0, (2, 0)), (1, (0, a1)), (2, (0, a2)), (3, (0, a3))] [] N σ g Q
  refine z_iload_n (i := 1) 1 d_M_tray_0 rfl rfl ?_
  refine z_cS (as := [(0, a1)]) (d' := 1) (st := []) d_M_tray_1 mi_M_isTray ml_M_98 ms_M_isTray rfl rfl rfl rfl rfl (b_M_isTray_0  ?_)
  refine ⟨fun c1 => ?_, fun c1 => ?_⟩
  · have h := h.1 c1
    intro _
    show z_U X 2 m_M_tray 4 [(0, (2, 0)), (1, (0, a1)), (2, (0, a2)), (3, (0, a3))] [(0, 0)] N σ g Q
    refine z_if_eq (tgt := 26) d_M_tray_4 (by decide) (fun _ => ?_) (fun c => absurd (by decide) c)
    refine z_aload_n (i := 0) (c := 0) 0 d_M_tray_26 rfl rfl rfl ?_
    refine z_iconst (n := 1) d_M_tray_27 (by decide) ?_
    refine z_cV (c := 0) (as := [(0, 1)]) (d' := 1) (st := []) d_M_tray_28 mi_M_is ml_M_94 mv_M_is se_M_is rfl rfl rfl rfl (ks_M_0 hx) rfl rfl (kl_M_0 hx) rfl rfl (b_M_is_0 hx ?_)
    refine ⟨fun c => absurd c (by decide), fun _ => ?_⟩
    intro _
    show z_U X 2 m_M_tray 31 [(0, (2, 0)), (1, (0, a1)), (2, (0, a2)), (3, (0, a3))] [(0, 0)] N σ (z_up g 0 1 1) Q
    exact z_zret d_M_tray_31 rfl (by decide) (by decide) (by decide) ⟨rfl, rfl, h⟩
  · have h := h.2 c1
    refine ⟨fun c2 => ?_, fun c2 => ?_⟩
    · have h := h.1 c2
      intro _
      show z_U X 2 m_M_tray 4 [(0, (2, 0)), (1, (0, a1)), (2, (0, a2)), (3, (0, a3))] [(0, 0)] N σ g Q
      refine z_if_eq (tgt := 26) d_M_tray_4 (by decide) (fun _ => ?_) (fun c => absurd (by decide) c)
      refine z_aload_n (i := 0) (c := 0) 0 d_M_tray_26 rfl rfl rfl ?_
      refine z_iconst (n := 1) d_M_tray_27 (by decide) ?_
      refine z_cV (c := 0) (as := [(0, 1)]) (d' := 1) (st := []) d_M_tray_28 mi_M_is ml_M_94 mv_M_is se_M_is rfl rfl rfl rfl (ks_M_0 hx) rfl rfl (kl_M_0 hx) rfl rfl (b_M_is_0 hx ?_)
      refine ⟨fun c => absurd c (by decide), fun _ => ?_⟩
      intro _
      show z_U X 2 m_M_tray 31 [(0, (2, 0)), (1, (0, a1)), (2, (0, a2)), (3, (0, a3))] [(0, 0)] N σ (z_up g 0 1 1) Q
      exact z_zret d_M_tray_31 rfl (by decide) (by decide) (by decide) ⟨rfl, rfl, h⟩
    · have h := h.2 c2
      intro _
      show z_U X 2 m_M_tray 4 [(0, (2, 0)), (1, (0, a1)), (2, (0, a2)), (3, (0, a3))] [(0, 1)] N σ g Q
      refine z_if_eq (tgt := 26) d_M_tray_4 (by decide) (fun c => absurd c (by decide)) (fun _ => ?_)
      refine z_iload_n (i := 2) 2 d_M_tray_7 rfl rfl ?_
      refine z_if_lt (tgt := 26) d_M_tray_8 (by decide) (fun c3 => ?_) (fun c3 => ?_)
      · have h := h.1 c3
        refine z_aload_n (i := 0) (c := 0) 0 d_M_tray_26 rfl rfl rfl ?_
        refine z_iconst (n := 1) d_M_tray_27 (by decide) ?_
        refine z_cV (c := 0) (as := [(0, 1)]) (d' := 1) (st := []) d_M_tray_28 mi_M_is ml_M_94 mv_M_is se_M_is rfl rfl rfl rfl (ks_M_0 hx) rfl rfl (kl_M_0 hx) rfl rfl (b_M_is_0 hx ?_)
        refine ⟨fun c => absurd c (by decide), fun _ => ?_⟩
        intro _
        show z_U X 2 m_M_tray 31 [(0, (2, 0)), (1, (0, a1)), (2, (0, a2)), (3, (0, a3))] [(0, 0)] N σ (z_up g 0 1 1) Q
        exact z_zret d_M_tray_31 rfl (by decide) (by decide) (by decide) ⟨rfl, rfl, h⟩
      · have h := h.2 c3
        refine z_iload_n (i := 2) 2 d_M_tray_11 rfl rfl ?_
        refine z_iconst (n := 3) d_M_tray_12 (by decide) ?_
        refine z_icmp_gt (tgt := 26) d_M_tray_13 (by decide) (fun c4 => ?_) (fun c4 => ?_)
        · have h := h.1 c4
          refine z_aload_n (i := 0) (c := 0) 0 d_M_tray_26 rfl rfl rfl ?_
          refine z_iconst (n := 1) d_M_tray_27 (by decide) ?_
          refine z_cV (c := 0) (as := [(0, 1)]) (d' := 1) (st := []) d_M_tray_28 mi_M_is ml_M_94 mv_M_is se_M_is rfl rfl rfl rfl (ks_M_0 hx) rfl rfl (kl_M_0 hx) rfl rfl (b_M_is_0 hx ?_)
          refine ⟨fun c => absurd c (by decide), fun _ => ?_⟩
          intro _
          show z_U X 2 m_M_tray 31 [(0, (2, 0)), (1, (0, a1)), (2, (0, a2)), (3, (0, a3))] [(0, 0)] N σ (z_up g 0 1 1) Q
          exact z_zret d_M_tray_31 rfl (by decide) (by decide) (by decide) ⟨rfl, rfl, h⟩
        · have h := h.2 c4
          refine z_iload_n (i := 3) 3 d_M_tray_16 rfl rfl ?_
          refine z_if_lt (tgt := 26) d_M_tray_17 (by decide) (fun c5 => ?_) (fun c5 => ?_)
          · have h := h.1 c5
            refine z_aload_n (i := 0) (c := 0) 0 d_M_tray_26 rfl rfl rfl ?_
            refine z_iconst (n := 1) d_M_tray_27 (by decide) ?_
            refine z_cV (c := 0) (as := [(0, 1)]) (d' := 1) (st := []) d_M_tray_28 mi_M_is ml_M_94 mv_M_is se_M_is rfl rfl rfl rfl (ks_M_0 hx) rfl rfl (kl_M_0 hx) rfl rfl (b_M_is_0 hx ?_)
            refine ⟨fun c => absurd c (by decide), fun _ => ?_⟩
            intro _
            show z_U X 2 m_M_tray 31 [(0, (2, 0)), (1, (0, a1)), (2, (0, a2)), (3, (0, a3))] [(0, 0)] N σ (z_up g 0 1 1) Q
            exact z_zret d_M_tray_31 rfl (by decide) (by decide) (by decide) ⟨rfl, rfl, h⟩
          · have h := h.2 c5
            refine z_iload_n (i := 3) 3 d_M_tray_20 rfl rfl ?_
            refine z_bipush (n := 60) d_M_tray_21 (by decide) (by decide) ?_
            refine z_icmp_le (tgt := 32) d_M_tray_23 (by decide) (fun c6 => ?_) (fun c6 => ?_)
            · have h := h.1 c6
              refine z_aload_n (i := 0) (c := 0) 0 d_M_tray_32 rfl rfl rfl ?_
              refine z_getr (c := 0) (kI := 4) (r2 := 2) d_M_tray_33 fd_M_sort fl_M_17 rfl rfl rfl (ks_M_0 hx) (kl_M_0 hx) (kr_M_0_4 hx) ?_
              refine z_iload_n (i := 1) 1 d_M_tray_36 rfl rfl ?_
              refine z_iload_n (i := 2) 2 d_M_tray_37 rfl rfl ?_
              obtain ⟨c7, h⟩ := h
              refine z_iast (c := 2) (m := 4) d_M_tray_38 rfl (ks_M_2 hx) (kl_M_2 hx) rfl (by decide) c7 ?_
              refine z_aload_n (i := 0) (c := 0) 0 d_M_tray_39 rfl rfl rfl ?_
              refine z_getr (c := 0) (kI := 5) (r2 := 3) d_M_tray_40 fd_M_trayMany fl_M_20 rfl rfl rfl (ks_M_0 hx) (kl_M_0 hx) (kr_M_0_5 hx) ?_
              refine z_iload_n (i := 1) 1 d_M_tray_43 rfl rfl ?_
              refine z_iload_n (i := 3) 3 d_M_tray_44 rfl rfl ?_
              refine z_iast (c := 3) (m := 4) d_M_tray_45 rfl (ks_M_3 hx) (kl_M_3 hx) rfl (by decide) c7 ?_
              refine z_iconst (n := 0) d_M_tray_46 (by decide) ?_
              refine z_istore (ls' := [(4, (0, 0)), (0, (2, 0)), (1, (0, a1)), (2, (0, a2)), (3, (0, a3))]) d_M_tray_47 rfl rfl ?_
              refine z_sub (ls' := [(0, (2, 0)), (1, (0, a1)), (3, (0, a3)), (4, (0, 0))]) [1, 2, 4, 0] rfl ?_
              exact h
            · have h := h.2 c6
              refine z_aload_n (i := 0) (c := 0) 0 d_M_tray_26 rfl rfl rfl ?_
              refine z_iconst (n := 1) d_M_tray_27 (by decide) ?_
              refine z_cV (c := 0) (as := [(0, 1)]) (d' := 1) (st := []) d_M_tray_28 mi_M_is ml_M_94 mv_M_is se_M_is rfl rfl rfl rfl (ks_M_0 hx) rfl rfl (kl_M_0 hx) rfl rfl (b_M_is_0 hx ?_)
              refine ⟨fun c => absurd c (by decide), fun _ => ?_⟩
              intro _
              show z_U X 2 m_M_tray 31 [(0, (2, 0)), (1, (0, a1)), (2, (0, a2)), (3, (0, a3))] [(0, 0)] N σ (z_up g 0 1 1) Q
              exact z_zret d_M_tray_31 rfl (by decide) (by decide) (by decide) ⟨rfl, rfl, h⟩
set_option maxRecDepth 8000 in
theorem b_M_tray_49 {X : z_X} {N : Nat} {σ g : z_G} {Q : z_P} {x1 x3 x4 : Int} (hx : z_lay X N σ 0 z_SM z_RM) (h : ((x3 ≤ x4) → Q 1 (z_up g 0 1 0)) ∧ (¬ (x3 ≤ x4) → ((-2147483648 ≤ (60 * x1) ∧ (60 * x1) ≤ 2147483647) ∧ ((-2147483648 ≤ ((60 * x1) + x4) ∧ ((60 * x1) + x4) ≤ 2147483647) ∧ ((0 ≤ ((60 * x1) + x4) ∧ ((60 * x1) + x4) < 240) ∧ ((-2147483648 ≤ (x4 + 1) ∧ (x4 + 1) ≤ 2147483647) ∧ L_M_tray_49 X N σ x1 x3 (x4 + 1) (z_up g 4 ((60 * x1) + x4) 0) Q)))))) : L_M_tray_49 X N σ x1 x3 x4 g Q := by
  refine z_iload 3 d_M_tray_49 rfl ?_
  refine z_iload_n (i := 3) 2 d_M_tray_51 rfl rfl ?_
  refine z_icmp_ge (tgt := 74) d_M_tray_52 (by decide) (fun c1 => ?_) (fun c1 => ?_)
  · have h := h.1 c1
    refine z_aload_n (i := 0) (c := 0) 0 d_M_tray_74 rfl rfl rfl ?_
    refine z_iconst (n := 0) d_M_tray_75 (by decide) ?_
    refine z_cV (c := 0) (as := [(0, 0)]) (d' := 1) (st := []) d_M_tray_76 mi_M_is ml_M_94 mv_M_is se_M_is rfl rfl rfl rfl (ks_M_0 hx) rfl rfl (kl_M_0 hx) rfl rfl (b_M_is_0 hx ?_)
    refine ⟨fun _ => ?_, fun c => absurd (by decide) c⟩
    intro _
    show z_U X 2 m_M_tray 79 [(0, (2, 0)), (1, (0, x1)), (3, (0, x3)), (4, (0, x4))] [(0, 1)] N σ (z_up g 0 1 0) Q
    exact z_zret d_M_tray_79 rfl (by decide) (by decide) (by decide) ⟨rfl, rfl, h⟩
  · have h := h.2 c1
    refine z_aload_n (i := 0) (c := 0) 0 d_M_tray_55 rfl rfl rfl ?_
    refine z_getr (c := 0) (kI := 6) (r2 := 4) d_M_tray_56 fd_M_trays fl_M_23 rfl rfl rfl (ks_M_0 hx) (kl_M_0 hx) (kr_M_0_6 hx) ?_
    refine z_bipush (n := 60) d_M_tray_59 (by decide) (by decide) ?_
    refine z_iload_n (i := 1) 1 d_M_tray_61 rfl rfl ?_
    obtain ⟨c2, h⟩ := h
    refine z_imul d_M_tray_62 c2 ?_
    refine z_iload 3 d_M_tray_63 rfl ?_
    obtain ⟨c3, h⟩ := h
    refine z_iadd d_M_tray_65 c3 ?_
    refine z_lconst (v := 0) d_M_tray_66 (by decide) (by decide) ?_
    obtain ⟨c4, h⟩ := h
    refine z_last (c := 4) (m := 240) d_M_tray_67 rfl (ks_M_4 hx) (kl_M_4 hx) rfl (by decide) c4 ?_
    obtain ⟨c5, h⟩ := h
    refine z_iinc (n := 1) (ls' := [(4, (0, x4 + 1)), (0, (2, 0)), (1, (0, x1)), (3, (0, x3))]) 3 d_M_tray_68 rfl c5 rfl rfl ?_
    refine z_goto (tgt := 49) d_M_tray_71 (by decide) ?_
    refine z_sub (ls' := [(0, (2, 0)), (1, (0, x1)), (3, (0, x3)), (4, (0, x4 + 1))]) [1, 2, 3, 0] rfl ?_
    exact h
theorem d_M_turnAt_0 : decode (z_c m_M_turnAt) 0 = .ok (.iload_n 1, 1) := by decide +kernel
theorem d_M_turnAt_1 : decode (z_c m_M_turnAt) 1 = .ok (.iload_n 2, 1) := by decide +kernel
theorem d_M_turnAt_2 : decode (z_c m_M_turnAt) 2 = .ok (.invokestatic 272, 3) := by decide +kernel
theorem d_M_turnAt_5 : decode (z_c m_M_turnAt) 5 = .ok (.ifCond .eq 7, 3) := by decide +kernel
theorem d_M_turnAt_8 : decode (z_c m_M_turnAt) 8 = .ok (.iload_n 3, 1) := by decide +kernel
theorem d_M_turnAt_9 : decode (z_c m_M_turnAt) 9 = .ok (.ifCond .ge 9, 3) := by decide +kernel
theorem d_M_turnAt_12 : decode (z_c m_M_turnAt) 12 = .ok (.aload_n 0, 1) := by decide +kernel
theorem d_M_turnAt_13 : decode (z_c m_M_turnAt) 13 = .ok (.iconst 1, 1) := by decide +kernel
theorem d_M_turnAt_14 : decode (z_c m_M_turnAt) 14 = .ok (.invokevirtual 87, 3) := by decide +kernel
theorem d_M_turnAt_17 : decode (z_c m_M_turnAt) 17 = .ok (.ireturn, 1) := by decide +kernel
theorem d_M_turnAt_18 : decode (z_c m_M_turnAt) 18 = .ok (.iload_n 1, 1) := by decide +kernel
theorem d_M_turnAt_19 : decode (z_c m_M_turnAt) 19 = .ok (.iload_n 2, 1) := by decide +kernel
theorem d_M_turnAt_20 : decode (z_c m_M_turnAt) 20 = .ok (.invokestatic 297, 3) := by decide +kernel
theorem d_M_turnAt_23 : decode (z_c m_M_turnAt) 23 = .ok (.ifCond .ne 10, 3) := by decide +kernel
theorem d_M_turnAt_26 : decode (z_c m_M_turnAt) 26 = .ok (.aload_n 0, 1) := by decide +kernel
theorem d_M_turnAt_27 : decode (z_c m_M_turnAt) 27 = .ok (.bipush 7, 2) := by decide +kernel
theorem d_M_turnAt_29 : decode (z_c m_M_turnAt) 29 = .ok (.invokevirtual 87, 3) := by decide +kernel
theorem d_M_turnAt_32 : decode (z_c m_M_turnAt) 32 = .ok (.ireturn, 1) := by decide +kernel
theorem d_M_turnAt_33 : decode (z_c m_M_turnAt) 33 = .ok (.iload_n 3, 1) := by decide +kernel
theorem d_M_turnAt_34 : decode (z_c m_M_turnAt) 34 = .ok (.istore 4, 2) := by decide +kernel
theorem d_M_turnAt_36 : decode (z_c m_M_turnAt) 36 = .ok (.aload_n 0, 1) := by decide +kernel
theorem d_M_turnAt_37 : decode (z_c m_M_turnAt) 37 = .ok (.iload_n 1, 1) := by decide +kernel
theorem d_M_turnAt_38 : decode (z_c m_M_turnAt) 38 = .ok (.iload_n 2, 1) := by decide +kernel
theorem d_M_turnAt_39 : decode (z_c m_M_turnAt) 39 = .ok (.invokevirtual 291, 3) := by decide +kernel
theorem d_M_turnAt_42 : decode (z_c m_M_turnAt) 42 = .ok (.iconst 1, 1) := by decide +kernel
theorem d_M_turnAt_43 : decode (z_c m_M_turnAt) 43 = .ok (.istore 5, 2) := by decide +kernel
theorem d_M_turnAt_45 : decode (z_c m_M_turnAt) 45 = .ok (.iload 5, 2) := by decide +kernel
theorem d_M_turnAt_47 : decode (z_c m_M_turnAt) 47 = .ok (.aload_n 0, 1) := by decide +kernel
theorem d_M_turnAt_48 : decode (z_c m_M_turnAt) 48 = .ok (.getfield 288, 3) := by decide +kernel
theorem d_M_turnAt_51 : decode (z_c m_M_turnAt) 51 = .ok (.if_icmp .ge 49, 3) := by decide +kernel
theorem d_M_turnAt_54 : decode (z_c m_M_turnAt) 54 = .ok (.iload 4, 2) := by decide +kernel
theorem d_M_turnAt_56 : decode (z_c m_M_turnAt) 56 = .ok (.aload_n 0, 1) := by decide +kernel
theorem d_M_turnAt_57 : decode (z_c m_M_turnAt) 57 = .ok (.iload 5, 2) := by decide +kernel
theorem d_M_turnAt_59 : decode (z_c m_M_turnAt) 59 = .ok (.invokevirtual 294, 3) := by decide +kernel
theorem d_M_turnAt_62 : decode (z_c m_M_turnAt) 62 = .ok (.if_icmp .ge 21, 3) := by decide +kernel
theorem d_M_turnAt_65 : decode (z_c m_M_turnAt) 65 = .ok (.aload_n 0, 1) := by decide +kernel
theorem d_M_turnAt_66 : decode (z_c m_M_turnAt) 66 = .ok (.iload 5, 2) := by decide +kernel
theorem d_M_turnAt_68 : decode (z_c m_M_turnAt) 68 = .ok (.iconst 2, 1) := by decide +kernel
theorem d_M_turnAt_69 : decode (z_c m_M_turnAt) 69 = .ok (.irem, 1) := by decide +kernel
theorem d_M_turnAt_70 : decode (z_c m_M_turnAt) 70 = .ok (.iconst 1, 1) := by decide +kernel
theorem d_M_turnAt_71 : decode (z_c m_M_turnAt) 71 = .ok (.if_icmp .ne 7, 3) := by decide +kernel
theorem d_M_turnAt_74 : decode (z_c m_M_turnAt) 74 = .ok (.iconst 0, 1) := by decide +kernel
theorem d_M_turnAt_75 : decode (z_c m_M_turnAt) 75 = .ok (.goto 4, 3) := by decide +kernel
theorem d_M_turnAt_78 : decode (z_c m_M_turnAt) 78 = .ok (.iconst 1, 1) := by decide +kernel
theorem d_M_turnAt_79 : decode (z_c m_M_turnAt) 79 = .ok (.invokevirtual 91, 3) := by decide +kernel
theorem d_M_turnAt_82 : decode (z_c m_M_turnAt) 82 = .ok (.ireturn, 1) := by decide +kernel
theorem d_M_turnAt_83 : decode (z_c m_M_turnAt) 83 = .ok (.iload 4, 2) := by decide +kernel
theorem d_M_turnAt_85 : decode (z_c m_M_turnAt) 85 = .ok (.aload_n 0, 1) := by decide +kernel
theorem d_M_turnAt_86 : decode (z_c m_M_turnAt) 86 = .ok (.iload 5, 2) := by decide +kernel
theorem d_M_turnAt_88 : decode (z_c m_M_turnAt) 88 = .ok (.invokevirtual 294, 3) := by decide +kernel
theorem d_M_turnAt_91 : decode (z_c m_M_turnAt) 91 = .ok (.isub, 1) := by decide +kernel
theorem d_M_turnAt_92 : decode (z_c m_M_turnAt) 92 = .ok (.istore 4, 2) := by decide +kernel
theorem d_M_turnAt_94 : decode (z_c m_M_turnAt) 94 = .ok (.iinc 5 1, 3) := by decide +kernel
theorem d_M_turnAt_97 : decode (z_c m_M_turnAt) 97 = .ok (.goto (-52), 3) := by decide +kernel
theorem d_M_turnAt_100 : decode (z_c m_M_turnAt) 100 = .ok (.aload_n 0, 1) := by decide +kernel
theorem d_M_turnAt_101 : decode (z_c m_M_turnAt) 101 = .ok (.bipush 6, 2) := by decide +kernel
theorem d_M_turnAt_103 : decode (z_c m_M_turnAt) 103 = .ok (.invokevirtual 87, 3) := by decide +kernel
theorem d_M_turnAt_106 : decode (z_c m_M_turnAt) 106 = .ok (.ireturn, 1) := by decide +kernel
abbrev L_M_turnAt_45 (X : z_X) (N : Nat) (σ : z_G) (x4 x5 : Int) (g : z_G) (Q : z_P) : Prop := z_U X 2 m_M_turnAt 45 [(0, (2, 0)), (4, (0, x4)), (5, (0, x5))] [] N σ g Q
set_option maxRecDepth 8000 in
theorem b_M_turnAt_0 {X : z_X} {N : Nat} {σ g : z_G} {Q : z_P} {a1 a2 a3 : Int} (hx : z_lay X N σ 0 z_SM z_RM) (h : ((a2 < 1) → Q (-1) (z_up g 0 1 1)) ∧ (¬ (a2 < 1) → (((9999 < a2) → Q (-1) (z_up g 0 1 1)) ∧ (¬ (9999 < a2) → (((a1 < 0) → Q (-1) (z_up g 0 1 1)) ∧ (¬ (a1 < 0) → (((a2 < a1) → Q (-1) (z_up g 0 1 1)) ∧ (¬ (a2 < a1) → (((0 ≤ a3) → (((a1 ≤ 0) → Q (-1) (z_up g 0 1 7)) ∧ (¬ (a1 ≤ 0) → (((a2 ≤ a1) → Q (-1) (z_up g 0 1 7)) ∧ (¬ (a2 ≤ a1) → (z_O X 1 m_M_laysTerms [(2, 0), (0, a1), (0, a2)] N σ g (fun r0 g0 => L_M_turnAt_45 X N σ a3 1 g0 Q))))))) ∧ (¬ (0 ≤ a3) → Q (-1) (z_up g 0 1 1))))))))))) : z_O X 2 m_M_turnAt [(2, 0), (0, a1), (0, a2), (0, a3)] N σ g Q := by
  refine z_Oenter mi_M_turnAt rfl (fun _ => ?_)
  show z_U X 2 m_M_turnAt 0 [(0, (2, 0)), (1, (0, a1)), (2, (0, a2)), (3, (0, a3))] [] N σ g Q
  refine z_iload_n (i := 1) 1 d_M_turnAt_0 rfl rfl ?_
  refine z_iload_n (i := 2) 2 d_M_turnAt_1 rfl rfl ?_
  refine z_cS (as := [(0, a1), (0, a2)]) (d' := 1) (st := []) d_M_turnAt_2 mi_M_isValue ml_M_272 ms_M_isValue rfl rfl rfl rfl rfl (b_M_isValue_0  ?_)
  refine ⟨fun c1 => ?_, fun c1 => ?_⟩
  · have h := h.1 c1
    intro _
    show z_U X 2 m_M_turnAt 5 [(0, (2, 0)), (1, (0, a1)), (2, (0, a2)), (3, (0, a3))] [(0, 0)] N σ g Q
    refine z_if_eq (tgt := 12) d_M_turnAt_5 (by decide) (fun _ => ?_) (fun c => absurd (by decide) c)
    refine z_aload_n (i := 0) (c := 0) 0 d_M_turnAt_12 rfl rfl rfl ?_
    refine z_iconst (n := 1) d_M_turnAt_13 (by decide) ?_
    refine z_cV (c := 0) (as := [(0, 1)]) (d' := 1) (st := []) d_M_turnAt_14 mi_M_refuse ml_M_87 mv_M_refuse se_M_refuse rfl rfl rfl rfl (ks_M_0 hx) rfl rfl (kl_M_0 hx) rfl rfl (b_M_refuse_0 hx ?_)
    intro _
    show z_U X 2 m_M_turnAt 17 [(0, (2, 0)), (1, (0, a1)), (2, (0, a2)), (3, (0, a3))] [(0, (-1))] N σ (z_up g 0 1 1) Q
    exact z_iret d_M_turnAt_17 rfl (by decide) (by decide) ⟨rfl, rfl, h⟩
  · have h := h.2 c1
    refine ⟨fun c2 => ?_, fun c2 => ?_⟩
    · have h := h.1 c2
      intro _
      show z_U X 2 m_M_turnAt 5 [(0, (2, 0)), (1, (0, a1)), (2, (0, a2)), (3, (0, a3))] [(0, 0)] N σ g Q
      refine z_if_eq (tgt := 12) d_M_turnAt_5 (by decide) (fun _ => ?_) (fun c => absurd (by decide) c)
      refine z_aload_n (i := 0) (c := 0) 0 d_M_turnAt_12 rfl rfl rfl ?_
      refine z_iconst (n := 1) d_M_turnAt_13 (by decide) ?_
      refine z_cV (c := 0) (as := [(0, 1)]) (d' := 1) (st := []) d_M_turnAt_14 mi_M_refuse ml_M_87 mv_M_refuse se_M_refuse rfl rfl rfl rfl (ks_M_0 hx) rfl rfl (kl_M_0 hx) rfl rfl (b_M_refuse_0 hx ?_)
      intro _
      show z_U X 2 m_M_turnAt 17 [(0, (2, 0)), (1, (0, a1)), (2, (0, a2)), (3, (0, a3))] [(0, (-1))] N σ (z_up g 0 1 1) Q
      exact z_iret d_M_turnAt_17 rfl (by decide) (by decide) ⟨rfl, rfl, h⟩
    · have h := h.2 c2
      refine ⟨fun c3 => ?_, fun c3 => ?_⟩
      · have h := h.1 c3
        intro _
        show z_U X 2 m_M_turnAt 5 [(0, (2, 0)), (1, (0, a1)), (2, (0, a2)), (3, (0, a3))] [(0, 0)] N σ g Q
        refine z_if_eq (tgt := 12) d_M_turnAt_5 (by decide) (fun _ => ?_) (fun c => absurd (by decide) c)
        refine z_aload_n (i := 0) (c := 0) 0 d_M_turnAt_12 rfl rfl rfl ?_
        refine z_iconst (n := 1) d_M_turnAt_13 (by decide) ?_
        refine z_cV (c := 0) (as := [(0, 1)]) (d' := 1) (st := []) d_M_turnAt_14 mi_M_refuse ml_M_87 mv_M_refuse se_M_refuse rfl rfl rfl rfl (ks_M_0 hx) rfl rfl (kl_M_0 hx) rfl rfl (b_M_refuse_0 hx ?_)
        intro _
        show z_U X 2 m_M_turnAt 17 [(0, (2, 0)), (1, (0, a1)), (2, (0, a2)), (3, (0, a3))] [(0, (-1))] N σ (z_up g 0 1 1) Q
        exact z_iret d_M_turnAt_17 rfl (by decide) (by decide) ⟨rfl, rfl, h⟩
      · have h := h.2 c3
        refine ⟨fun c4 => ?_, fun c4 => ?_⟩
        · have h := h.1 c4
          intro _
          show z_U X 2 m_M_turnAt 5 [(0, (2, 0)), (1, (0, a1)), (2, (0, a2)), (3, (0, a3))] [(0, 0)] N σ g Q
          refine z_if_eq (tgt := 12) d_M_turnAt_5 (by decide) (fun _ => ?_) (fun c => absurd (by decide) c)
          refine z_aload_n (i := 0) (c := 0) 0 d_M_turnAt_12 rfl rfl rfl ?_
          refine z_iconst (n := 1) d_M_turnAt_13 (by decide) ?_
          refine z_cV (c := 0) (as := [(0, 1)]) (d' := 1) (st := []) d_M_turnAt_14 mi_M_refuse ml_M_87 mv_M_refuse se_M_refuse rfl rfl rfl rfl (ks_M_0 hx) rfl rfl (kl_M_0 hx) rfl rfl (b_M_refuse_0 hx ?_)
          intro _
          show z_U X 2 m_M_turnAt 17 [(0, (2, 0)), (1, (0, a1)), (2, (0, a2)), (3, (0, a3))] [(0, (-1))] N σ (z_up g 0 1 1) Q
          exact z_iret d_M_turnAt_17 rfl (by decide) (by decide) ⟨rfl, rfl, h⟩
        · have h := h.2 c4
          intro _
          show z_U X 2 m_M_turnAt 5 [(0, (2, 0)), (1, (0, a1)), (2, (0, a2)), (3, (0, a3))] [(0, 1)] N σ g Q
          refine z_if_eq (tgt := 12) d_M_turnAt_5 (by decide) (fun c => absurd c (by decide)) (fun _ => ?_)
          refine z_iload_n (i := 3) 3 d_M_turnAt_8 rfl rfl ?_
          refine z_if_ge (tgt := 18) d_M_turnAt_9 (by decide) (fun c5 => ?_) (fun c5 => ?_)
          · have h := h.1 c5
            refine z_iload_n (i := 1) 1 d_M_turnAt_18 rfl rfl ?_
            refine z_iload_n (i := 2) 2 d_M_turnAt_19 rfl rfl ?_
            refine z_cS (as := [(0, a1), (0, a2)]) (d' := 1) (st := []) d_M_turnAt_20 mi_M_isOfTree ml_M_297 ms_M_isOfTree rfl rfl rfl rfl rfl (b_M_isOfTree_0  ?_)
            refine ⟨fun c6 => ?_, fun c6 => ?_⟩
            · have h := h.1 c6
              intro _
              show z_U X 2 m_M_turnAt 23 [(0, (2, 0)), (1, (0, a1)), (2, (0, a2)), (3, (0, a3))] [(0, 0)] N σ g Q
              refine z_if_ne (tgt := 33) d_M_turnAt_23 (by decide) (fun c => absurd (by decide) c) (fun _ => ?_)
              refine z_aload_n (i := 0) (c := 0) 0 d_M_turnAt_26 rfl rfl rfl ?_
              refine z_bipush (n := 7) d_M_turnAt_27 (by decide) (by decide) ?_
              refine z_cV (c := 0) (as := [(0, 7)]) (d' := 1) (st := []) d_M_turnAt_29 mi_M_refuse ml_M_87 mv_M_refuse se_M_refuse rfl rfl rfl rfl (ks_M_0 hx) rfl rfl (kl_M_0 hx) rfl rfl (b_M_refuse_0 hx ?_)
              intro _
              show z_U X 2 m_M_turnAt 32 [(0, (2, 0)), (1, (0, a1)), (2, (0, a2)), (3, (0, a3))] [(0, (-1))] N σ (z_up g 0 1 7) Q
              exact z_iret d_M_turnAt_32 rfl (by decide) (by decide) ⟨rfl, rfl, h⟩
            · have h := h.2 c6
              refine ⟨fun c7 => ?_, fun c7 => ?_⟩
              · have h := h.1 c7
                intro _
                show z_U X 2 m_M_turnAt 23 [(0, (2, 0)), (1, (0, a1)), (2, (0, a2)), (3, (0, a3))] [(0, 0)] N σ g Q
                refine z_if_ne (tgt := 33) d_M_turnAt_23 (by decide) (fun c => absurd (by decide) c) (fun _ => ?_)
                refine z_aload_n (i := 0) (c := 0) 0 d_M_turnAt_26 rfl rfl rfl ?_
                refine z_bipush (n := 7) d_M_turnAt_27 (by decide) (by decide) ?_
                refine z_cV (c := 0) (as := [(0, 7)]) (d' := 1) (st := []) d_M_turnAt_29 mi_M_refuse ml_M_87 mv_M_refuse se_M_refuse rfl rfl rfl rfl (ks_M_0 hx) rfl rfl (kl_M_0 hx) rfl rfl (b_M_refuse_0 hx ?_)
                intro _
                show z_U X 2 m_M_turnAt 32 [(0, (2, 0)), (1, (0, a1)), (2, (0, a2)), (3, (0, a3))] [(0, (-1))] N σ (z_up g 0 1 7) Q
                exact z_iret d_M_turnAt_32 rfl (by decide) (by decide) ⟨rfl, rfl, h⟩
              · have h := h.2 c7
                intro _
                show z_U X 2 m_M_turnAt 23 [(0, (2, 0)), (1, (0, a1)), (2, (0, a2)), (3, (0, a3))] [(0, 1)] N σ g Q
                refine z_if_ne (tgt := 33) d_M_turnAt_23 (by decide) (fun _ => ?_) (fun c => absurd c (by decide))
                refine z_iload_n (i := 3) 3 d_M_turnAt_33 rfl rfl ?_
                refine z_istore (ls' := [(4, (0, a3)), (0, (2, 0)), (1, (0, a1)), (2, (0, a2)), (3, (0, a3))]) d_M_turnAt_34 rfl rfl ?_
                refine z_aload_n (i := 0) (c := 0) 1 d_M_turnAt_36 rfl rfl rfl ?_
                refine z_iload_n (i := 1) 2 d_M_turnAt_37 rfl rfl ?_
                refine z_iload_n (i := 2) 3 d_M_turnAt_38 rfl rfl ?_
                refine z_cV (c := 0) (as := [(0, a1), (0, a2)]) (d' := 1) (st := []) d_M_turnAt_39 mi_M_laysTerms ml_M_291 mv_M_laysTerms se_M_laysTerms rfl rfl rfl rfl (ks_M_0 hx) rfl rfl (kl_M_0 hx) rfl rfl (z_Omono h (fun r0 g0 _ h hro => ?_))
                show z_U X 2 m_M_turnAt 42 [(4, (0, a3)), (0, (2, 0)), (1, (0, a1)), (2, (0, a2)), (3, (0, a3))] [] N σ g0 Q
                refine z_iconst (n := 1) d_M_turnAt_42 (by decide) ?_
                refine z_istore (ls' := [(5, (0, 1)), (4, (0, a3)), (0, (2, 0)), (1, (0, a1)), (2, (0, a2)), (3, (0, a3))]) d_M_turnAt_43 rfl rfl ?_
                refine z_sub (ls' := [(0, (2, 0)), (4, (0, a3)), (5, (0, 1))]) [2, 1, 0] rfl ?_
                exact h
          · have h := h.2 c5
            refine z_aload_n (i := 0) (c := 0) 0 d_M_turnAt_12 rfl rfl rfl ?_
            refine z_iconst (n := 1) d_M_turnAt_13 (by decide) ?_
            refine z_cV (c := 0) (as := [(0, 1)]) (d' := 1) (st := []) d_M_turnAt_14 mi_M_refuse ml_M_87 mv_M_refuse se_M_refuse rfl rfl rfl rfl (ks_M_0 hx) rfl rfl (kl_M_0 hx) rfl rfl (b_M_refuse_0 hx ?_)
            intro _
            show z_U X 2 m_M_turnAt 17 [(0, (2, 0)), (1, (0, a1)), (2, (0, a2)), (3, (0, a3))] [(0, (-1))] N σ (z_up g 0 1 1) Q
            exact z_iret d_M_turnAt_17 rfl (by decide) (by decide) ⟨rfl, rfl, h⟩
set_option maxRecDepth 8000 in
theorem b_M_turnAt_45 {X : z_X} {N : Nat} {σ g : z_G} {Q : z_P} {x4 x5 : Int} (hx : z_lay X N σ 0 z_SM z_RM) (h : (((g 0 27) ≤ x5) → Q (-1) (z_up g 0 1 6)) ∧ (¬ ((g 0 27) ≤ x5) → ((0 ≤ x5 ∧ x5 < 40) ∧ (((x5 = 1) → ((-2147483648 ≤ ((g 10 x5) - 1) ∧ ((g 10 x5) - 1) ≤ 2147483647) ∧ ((-2147483648 ≤ ((g 0 27) - 1) ∧ ((g 0 27) - 1) ≤ 2147483647) ∧ (((x5 = ((g 0 27) - 1)) → ((-2147483648 ≤ (((g 10 x5) - 1) - 1) ∧ (((g 10 x5) - 1) - 1) ≤ 2147483647) ∧ ((((((g 10 x5) - 1) - 1) ≤ x4) → ((-2147483648 ≤ (x4 - (((g 10 x5) - 1) - 1)) ∧ (x4 - (((g 10 x5) - 1) - 1)) ≤ 2147483647) ∧ ((-2147483648 ≤ (x5 + 1) ∧ (x5 + 1) ≤ 2147483647) ∧ L_M_turnAt_45 X N σ (x4 - (((g 10 x5) - 1) - 1)) (x5 + 1) g Q))) ∧ (¬ ((((g 10 x5) - 1) - 1) ≤ x4) → ((((Int.tmod x5 2) = 1) → Q 0 (z_up g 0 1 0)) ∧ (¬ ((Int.tmod x5 2) = 1) → Q 1 (z_up g 0 1 0))))))) ∧ (¬ (x5 = ((g 0 27) - 1)) → ((-2147483648 ≤ (((g 10 x5) - 1) - 0) ∧ (((g 10 x5) - 1) - 0) ≤ 2147483647) ∧ ((((((g 10 x5) - 1) - 0) ≤ x4) → ((-2147483648 ≤ (x4 - (((g 10 x5) - 1) - 0)) ∧ (x4 - (((g 10 x5) - 1) - 0)) ≤ 2147483647) ∧ ((-2147483648 ≤ (x5 + 1) ∧ (x5 + 1) ≤ 2147483647) ∧ L_M_turnAt_45 X N σ (x4 - (((g 10 x5) - 1) - 0)) (x5 + 1) g Q))) ∧ (¬ ((((g 10 x5) - 1) - 0) ≤ x4) → ((((Int.tmod x5 2) = 1) → Q 0 (z_up g 0 1 0)) ∧ (¬ ((Int.tmod x5 2) = 1) → Q 1 (z_up g 0 1 0))))))))))) ∧ (¬ (x5 = 1) → ((-2147483648 ≤ ((g 10 x5) - 0) ∧ ((g 10 x5) - 0) ≤ 2147483647) ∧ ((-2147483648 ≤ ((g 0 27) - 1) ∧ ((g 0 27) - 1) ≤ 2147483647) ∧ (((x5 = ((g 0 27) - 1)) → ((-2147483648 ≤ (((g 10 x5) - 0) - 1) ∧ (((g 10 x5) - 0) - 1) ≤ 2147483647) ∧ ((((((g 10 x5) - 0) - 1) ≤ x4) → ((-2147483648 ≤ (x4 - (((g 10 x5) - 0) - 1)) ∧ (x4 - (((g 10 x5) - 0) - 1)) ≤ 2147483647) ∧ ((-2147483648 ≤ (x5 + 1) ∧ (x5 + 1) ≤ 2147483647) ∧ L_M_turnAt_45 X N σ (x4 - (((g 10 x5) - 0) - 1)) (x5 + 1) g Q))) ∧ (¬ ((((g 10 x5) - 0) - 1) ≤ x4) → ((((Int.tmod x5 2) = 1) → Q 0 (z_up g 0 1 0)) ∧ (¬ ((Int.tmod x5 2) = 1) → Q 1 (z_up g 0 1 0))))))) ∧ (¬ (x5 = ((g 0 27) - 1)) → ((-2147483648 ≤ (((g 10 x5) - 0) - 0) ∧ (((g 10 x5) - 0) - 0) ≤ 2147483647) ∧ ((((((g 10 x5) - 0) - 0) ≤ x4) → ((-2147483648 ≤ (x4 - (((g 10 x5) - 0) - 0)) ∧ (x4 - (((g 10 x5) - 0) - 0)) ≤ 2147483647) ∧ ((-2147483648 ≤ (x5 + 1) ∧ (x5 + 1) ≤ 2147483647) ∧ L_M_turnAt_45 X N σ (x4 - (((g 10 x5) - 0) - 0)) (x5 + 1) g Q))) ∧ (¬ ((((g 10 x5) - 0) - 0) ≤ x4) → ((((Int.tmod x5 2) = 1) → Q 0 (z_up g 0 1 0)) ∧ (¬ ((Int.tmod x5 2) = 1) → Q 1 (z_up g 0 1 0))))))))))))))) : L_M_turnAt_45 X N σ x4 x5 g Q := by
  refine z_iload 2 d_M_turnAt_45 rfl ?_
  refine z_aload_n (i := 0) (c := 0) 0 d_M_turnAt_47 rfl rfl rfl ?_
  refine z_geti (c := 0) (kI := 27) d_M_turnAt_48 fd_M_termMany fl_M_288 (Or.inl rfl) rfl rfl (ks_M_0 hx) (kl_M_0 hx) ?_
  refine z_icmp_ge (tgt := 100) d_M_turnAt_51 (by decide) (fun c1 => ?_) (fun c1 => ?_)
  · have h := h.1 c1
    refine z_aload_n (i := 0) (c := 0) 0 d_M_turnAt_100 rfl rfl rfl ?_
    refine z_bipush (n := 6) d_M_turnAt_101 (by decide) (by decide) ?_
    refine z_cV (c := 0) (as := [(0, 6)]) (d' := 1) (st := []) d_M_turnAt_103 mi_M_refuse ml_M_87 mv_M_refuse se_M_refuse rfl rfl rfl rfl (ks_M_0 hx) rfl rfl (kl_M_0 hx) rfl rfl (b_M_refuse_0 hx ?_)
    intro _
    show z_U X 2 m_M_turnAt 106 [(0, (2, 0)), (4, (0, x4)), (5, (0, x5))] [(0, (-1))] N σ (z_up g 0 1 6) Q
    exact z_iret d_M_turnAt_106 rfl (by decide) (by decide) ⟨rfl, rfl, h⟩
  · have h := h.2 c1
    refine z_iload 1 d_M_turnAt_54 rfl ?_
    refine z_aload_n (i := 0) (c := 0) 0 d_M_turnAt_56 rfl rfl rfl ?_
    refine z_iload 2 d_M_turnAt_57 rfl ?_
    refine z_cV (c := 0) (as := [(0, x5)]) (d' := 1) (st := [(0, x4)]) d_M_turnAt_59 mi_M_turnsOf ml_M_294 mv_M_turnsOf se_M_turnsOf rfl rfl rfl rfl (ks_M_0 hx) rfl rfl (kl_M_0 hx) rfl rfl (b_M_turnsOf_0 hx ?_)
    obtain ⟨c2, h⟩ := h
    refine ⟨c2, ?_⟩
    refine ⟨fun c3 => ?_, fun c3 => ?_⟩
    · have h := h.1 c3
      obtain ⟨c4, h⟩ := h
      refine ⟨c4, ?_⟩
      obtain ⟨c5, h⟩ := h
      refine ⟨c5, ?_⟩
      refine ⟨fun c6 => ?_, fun c6 => ?_⟩
      · have h := h.1 c6
        obtain ⟨c7, h⟩ := h
        refine ⟨c7, ?_⟩
        intro _
        show z_U X 2 m_M_turnAt 62 [(0, (2, 0)), (4, (0, x4)), (5, (0, x5))] [(0, ((g 10 x5) - 1) - 1), (0, x4)] N σ g Q
        refine z_icmp_ge (tgt := 83) d_M_turnAt_62 (by decide) (fun c8 => ?_) (fun c8 => ?_)
        · have h := h.1 c8
          refine z_iload 1 d_M_turnAt_83 rfl ?_
          refine z_aload_n (i := 0) (c := 0) 0 d_M_turnAt_85 rfl rfl rfl ?_
          refine z_iload 2 d_M_turnAt_86 rfl ?_
          refine z_cV (c := 0) (as := [(0, x5)]) (d' := 1) (st := [(0, x4)]) d_M_turnAt_88 mi_M_turnsOf ml_M_294 mv_M_turnsOf se_M_turnsOf rfl rfl rfl rfl (ks_M_0 hx) rfl rfl (kl_M_0 hx) rfl rfl (b_M_turnsOf_0 hx ?_)
          refine ⟨c2, ?_⟩
          refine ⟨fun _ => ?_, fun c => absurd c3 c⟩
          refine ⟨c4, ?_⟩
          refine ⟨c5, ?_⟩
          refine ⟨fun _ => ?_, fun c => absurd c6 c⟩
          refine ⟨c7, ?_⟩
          intro _
          show z_U X 2 m_M_turnAt 91 [(0, (2, 0)), (4, (0, x4)), (5, (0, x5))] [(0, ((g 10 x5) - 1) - 1), (0, x4)] N σ g Q
          obtain ⟨c9, h⟩ := h
          refine z_isub d_M_turnAt_91 c9 ?_
          refine z_istore (ls' := [(4, (0, x4 - (((g 10 x5) - 1) - 1))), (0, (2, 0)), (5, (0, x5))]) d_M_turnAt_92 rfl rfl ?_
          obtain ⟨c10, h⟩ := h
          refine z_iinc (n := 1) (ls' := [(5, (0, x5 + 1)), (4, (0, x4 - (((g 10 x5) - 1) - 1))), (0, (2, 0))]) 2 d_M_turnAt_94 rfl c10 rfl rfl ?_
          refine z_goto (tgt := 45) d_M_turnAt_97 (by decide) ?_
          refine z_sub (ls' := [(0, (2, 0)), (4, (0, x4 - (((g 10 x5) - 1) - 1))), (5, (0, x5 + 1))]) [2, 1, 0] rfl ?_
          exact h
        · have h := h.2 c8
          refine z_aload_n (i := 0) (c := 0) 0 d_M_turnAt_65 rfl rfl rfl ?_
          refine z_iload 2 d_M_turnAt_66 rfl ?_
          refine z_iconst (n := 2) d_M_turnAt_68 (by decide) ?_
          refine z_irem d_M_turnAt_69 (by decide) ?_
          refine z_iconst (n := 1) d_M_turnAt_70 (by decide) ?_
          refine z_icmp_ne (tgt := 78) d_M_turnAt_71 (by decide) (fun c11 => ?_) (fun c11 => ?_)
          · have h := h.2 c11
            refine z_iconst (n := 1) d_M_turnAt_78 (by decide) ?_
            refine z_cV (c := 0) (as := [(0, 1)]) (d' := 1) (st := []) d_M_turnAt_79 mi_M_gives ml_M_91 mv_M_gives se_M_gives rfl rfl rfl rfl (ks_M_0 hx) rfl rfl (kl_M_0 hx) rfl rfl (b_M_gives_0 hx ?_)
            intro _
            show z_U X 2 m_M_turnAt 82 [(0, (2, 0)), (4, (0, x4)), (5, (0, x5))] [(0, 1)] N σ (z_up g 0 1 0) Q
            exact z_iret d_M_turnAt_82 rfl (by decide) (by decide) ⟨rfl, rfl, h⟩
          · have h := h.1 c11
            refine z_iconst (n := 0) d_M_turnAt_74 (by decide) ?_
            refine z_goto (tgt := 79) d_M_turnAt_75 (by decide) ?_
            refine z_cV (c := 0) (as := [(0, 0)]) (d' := 1) (st := []) d_M_turnAt_79 mi_M_gives ml_M_91 mv_M_gives se_M_gives rfl rfl rfl rfl (ks_M_0 hx) rfl rfl (kl_M_0 hx) rfl rfl (b_M_gives_0 hx ?_)
            intro _
            show z_U X 2 m_M_turnAt 82 [(0, (2, 0)), (4, (0, x4)), (5, (0, x5))] [(0, 0)] N σ (z_up g 0 1 0) Q
            exact z_iret d_M_turnAt_82 rfl (by decide) (by decide) ⟨rfl, rfl, h⟩
      · have h := h.2 c6
        obtain ⟨c12, h⟩ := h
        refine ⟨c12, ?_⟩
        intro _
        show z_U X 2 m_M_turnAt 62 [(0, (2, 0)), (4, (0, x4)), (5, (0, x5))] [(0, ((g 10 x5) - 1) - 0), (0, x4)] N σ g Q
        refine z_icmp_ge (tgt := 83) d_M_turnAt_62 (by decide) (fun c13 => ?_) (fun c13 => ?_)
        · have h := h.1 c13
          refine z_iload 1 d_M_turnAt_83 rfl ?_
          refine z_aload_n (i := 0) (c := 0) 0 d_M_turnAt_85 rfl rfl rfl ?_
          refine z_iload 2 d_M_turnAt_86 rfl ?_
          refine z_cV (c := 0) (as := [(0, x5)]) (d' := 1) (st := [(0, x4)]) d_M_turnAt_88 mi_M_turnsOf ml_M_294 mv_M_turnsOf se_M_turnsOf rfl rfl rfl rfl (ks_M_0 hx) rfl rfl (kl_M_0 hx) rfl rfl (b_M_turnsOf_0 hx ?_)
          refine ⟨c2, ?_⟩
          refine ⟨fun _ => ?_, fun c => absurd c3 c⟩
          refine ⟨c4, ?_⟩
          refine ⟨c5, ?_⟩
          refine ⟨fun c => absurd c c6, fun _ => ?_⟩
          refine ⟨c12, ?_⟩
          intro _
          show z_U X 2 m_M_turnAt 91 [(0, (2, 0)), (4, (0, x4)), (5, (0, x5))] [(0, ((g 10 x5) - 1) - 0), (0, x4)] N σ g Q
          obtain ⟨c14, h⟩ := h
          refine z_isub d_M_turnAt_91 c14 ?_
          refine z_istore (ls' := [(4, (0, x4 - (((g 10 x5) - 1) - 0))), (0, (2, 0)), (5, (0, x5))]) d_M_turnAt_92 rfl rfl ?_
          obtain ⟨c15, h⟩ := h
          refine z_iinc (n := 1) (ls' := [(5, (0, x5 + 1)), (4, (0, x4 - (((g 10 x5) - 1) - 0))), (0, (2, 0))]) 2 d_M_turnAt_94 rfl c15 rfl rfl ?_
          refine z_goto (tgt := 45) d_M_turnAt_97 (by decide) ?_
          refine z_sub (ls' := [(0, (2, 0)), (4, (0, x4 - (((g 10 x5) - 1) - 0))), (5, (0, x5 + 1))]) [2, 1, 0] rfl ?_
          exact h
        · have h := h.2 c13
          refine z_aload_n (i := 0) (c := 0) 0 d_M_turnAt_65 rfl rfl rfl ?_
          refine z_iload 2 d_M_turnAt_66 rfl ?_
          refine z_iconst (n := 2) d_M_turnAt_68 (by decide) ?_
          refine z_irem d_M_turnAt_69 (by decide) ?_
          refine z_iconst (n := 1) d_M_turnAt_70 (by decide) ?_
          refine z_icmp_ne (tgt := 78) d_M_turnAt_71 (by decide) (fun c16 => ?_) (fun c16 => ?_)
          · have h := h.2 c16
            refine z_iconst (n := 1) d_M_turnAt_78 (by decide) ?_
            refine z_cV (c := 0) (as := [(0, 1)]) (d' := 1) (st := []) d_M_turnAt_79 mi_M_gives ml_M_91 mv_M_gives se_M_gives rfl rfl rfl rfl (ks_M_0 hx) rfl rfl (kl_M_0 hx) rfl rfl (b_M_gives_0 hx ?_)
            intro _
            show z_U X 2 m_M_turnAt 82 [(0, (2, 0)), (4, (0, x4)), (5, (0, x5))] [(0, 1)] N σ (z_up g 0 1 0) Q
            exact z_iret d_M_turnAt_82 rfl (by decide) (by decide) ⟨rfl, rfl, h⟩
          · have h := h.1 c16
            refine z_iconst (n := 0) d_M_turnAt_74 (by decide) ?_
            refine z_goto (tgt := 79) d_M_turnAt_75 (by decide) ?_
            refine z_cV (c := 0) (as := [(0, 0)]) (d' := 1) (st := []) d_M_turnAt_79 mi_M_gives ml_M_91 mv_M_gives se_M_gives rfl rfl rfl rfl (ks_M_0 hx) rfl rfl (kl_M_0 hx) rfl rfl (b_M_gives_0 hx ?_)
            intro _
            show z_U X 2 m_M_turnAt 82 [(0, (2, 0)), (4, (0, x4)), (5, (0, x5))] [(0, 0)] N σ (z_up g 0 1 0) Q
            exact z_iret d_M_turnAt_82 rfl (by decide) (by decide) ⟨rfl, rfl, h⟩
    · have h := h.2 c3
      obtain ⟨c17, h⟩ := h
      refine ⟨c17, ?_⟩
      obtain ⟨c18, h⟩ := h
      refine ⟨c18, ?_⟩
      refine ⟨fun c19 => ?_, fun c19 => ?_⟩
      · have h := h.1 c19
        obtain ⟨c20, h⟩ := h
        refine ⟨c20, ?_⟩
        intro _
        show z_U X 2 m_M_turnAt 62 [(0, (2, 0)), (4, (0, x4)), (5, (0, x5))] [(0, ((g 10 x5) - 0) - 1), (0, x4)] N σ g Q
        refine z_icmp_ge (tgt := 83) d_M_turnAt_62 (by decide) (fun c21 => ?_) (fun c21 => ?_)
        · have h := h.1 c21
          refine z_iload 1 d_M_turnAt_83 rfl ?_
          refine z_aload_n (i := 0) (c := 0) 0 d_M_turnAt_85 rfl rfl rfl ?_
          refine z_iload 2 d_M_turnAt_86 rfl ?_
          refine z_cV (c := 0) (as := [(0, x5)]) (d' := 1) (st := [(0, x4)]) d_M_turnAt_88 mi_M_turnsOf ml_M_294 mv_M_turnsOf se_M_turnsOf rfl rfl rfl rfl (ks_M_0 hx) rfl rfl (kl_M_0 hx) rfl rfl (b_M_turnsOf_0 hx ?_)
          refine ⟨c2, ?_⟩
          refine ⟨fun c => absurd c c3, fun _ => ?_⟩
          refine ⟨c17, ?_⟩
          refine ⟨c18, ?_⟩
          refine ⟨fun _ => ?_, fun c => absurd c19 c⟩
          refine ⟨c20, ?_⟩
          intro _
          show z_U X 2 m_M_turnAt 91 [(0, (2, 0)), (4, (0, x4)), (5, (0, x5))] [(0, ((g 10 x5) - 0) - 1), (0, x4)] N σ g Q
          obtain ⟨c22, h⟩ := h
          refine z_isub d_M_turnAt_91 c22 ?_
          refine z_istore (ls' := [(4, (0, x4 - (((g 10 x5) - 0) - 1))), (0, (2, 0)), (5, (0, x5))]) d_M_turnAt_92 rfl rfl ?_
          obtain ⟨c23, h⟩ := h
          refine z_iinc (n := 1) (ls' := [(5, (0, x5 + 1)), (4, (0, x4 - (((g 10 x5) - 0) - 1))), (0, (2, 0))]) 2 d_M_turnAt_94 rfl c23 rfl rfl ?_
          refine z_goto (tgt := 45) d_M_turnAt_97 (by decide) ?_
          refine z_sub (ls' := [(0, (2, 0)), (4, (0, x4 - (((g 10 x5) - 0) - 1))), (5, (0, x5 + 1))]) [2, 1, 0] rfl ?_
          exact h
        · have h := h.2 c21
          refine z_aload_n (i := 0) (c := 0) 0 d_M_turnAt_65 rfl rfl rfl ?_
          refine z_iload 2 d_M_turnAt_66 rfl ?_
          refine z_iconst (n := 2) d_M_turnAt_68 (by decide) ?_
          refine z_irem d_M_turnAt_69 (by decide) ?_
          refine z_iconst (n := 1) d_M_turnAt_70 (by decide) ?_
          refine z_icmp_ne (tgt := 78) d_M_turnAt_71 (by decide) (fun c24 => ?_) (fun c24 => ?_)
          · have h := h.2 c24
            refine z_iconst (n := 1) d_M_turnAt_78 (by decide) ?_
            refine z_cV (c := 0) (as := [(0, 1)]) (d' := 1) (st := []) d_M_turnAt_79 mi_M_gives ml_M_91 mv_M_gives se_M_gives rfl rfl rfl rfl (ks_M_0 hx) rfl rfl (kl_M_0 hx) rfl rfl (b_M_gives_0 hx ?_)
            intro _
            show z_U X 2 m_M_turnAt 82 [(0, (2, 0)), (4, (0, x4)), (5, (0, x5))] [(0, 1)] N σ (z_up g 0 1 0) Q
            exact z_iret d_M_turnAt_82 rfl (by decide) (by decide) ⟨rfl, rfl, h⟩
          · have h := h.1 c24
            refine z_iconst (n := 0) d_M_turnAt_74 (by decide) ?_
            refine z_goto (tgt := 79) d_M_turnAt_75 (by decide) ?_
            refine z_cV (c := 0) (as := [(0, 0)]) (d' := 1) (st := []) d_M_turnAt_79 mi_M_gives ml_M_91 mv_M_gives se_M_gives rfl rfl rfl rfl (ks_M_0 hx) rfl rfl (kl_M_0 hx) rfl rfl (b_M_gives_0 hx ?_)
            intro _
            show z_U X 2 m_M_turnAt 82 [(0, (2, 0)), (4, (0, x4)), (5, (0, x5))] [(0, 0)] N σ (z_up g 0 1 0) Q
            exact z_iret d_M_turnAt_82 rfl (by decide) (by decide) ⟨rfl, rfl, h⟩
      · have h := h.2 c19
        obtain ⟨c25, h⟩ := h
        refine ⟨c25, ?_⟩
        intro _
        show z_U X 2 m_M_turnAt 62 [(0, (2, 0)), (4, (0, x4)), (5, (0, x5))] [(0, ((g 10 x5) - 0) - 0), (0, x4)] N σ g Q
        refine z_icmp_ge (tgt := 83) d_M_turnAt_62 (by decide) (fun c26 => ?_) (fun c26 => ?_)
        · have h := h.1 c26
          refine z_iload 1 d_M_turnAt_83 rfl ?_
          refine z_aload_n (i := 0) (c := 0) 0 d_M_turnAt_85 rfl rfl rfl ?_
          refine z_iload 2 d_M_turnAt_86 rfl ?_
          refine z_cV (c := 0) (as := [(0, x5)]) (d' := 1) (st := [(0, x4)]) d_M_turnAt_88 mi_M_turnsOf ml_M_294 mv_M_turnsOf se_M_turnsOf rfl rfl rfl rfl (ks_M_0 hx) rfl rfl (kl_M_0 hx) rfl rfl (b_M_turnsOf_0 hx ?_)
          refine ⟨c2, ?_⟩
          refine ⟨fun c => absurd c c3, fun _ => ?_⟩
          refine ⟨c17, ?_⟩
          refine ⟨c18, ?_⟩
          refine ⟨fun c => absurd c c19, fun _ => ?_⟩
          refine ⟨c25, ?_⟩
          intro _
          show z_U X 2 m_M_turnAt 91 [(0, (2, 0)), (4, (0, x4)), (5, (0, x5))] [(0, ((g 10 x5) - 0) - 0), (0, x4)] N σ g Q
          obtain ⟨c27, h⟩ := h
          refine z_isub d_M_turnAt_91 c27 ?_
          refine z_istore (ls' := [(4, (0, x4 - (((g 10 x5) - 0) - 0))), (0, (2, 0)), (5, (0, x5))]) d_M_turnAt_92 rfl rfl ?_
          obtain ⟨c28, h⟩ := h
          refine z_iinc (n := 1) (ls' := [(5, (0, x5 + 1)), (4, (0, x4 - (((g 10 x5) - 0) - 0))), (0, (2, 0))]) 2 d_M_turnAt_94 rfl c28 rfl rfl ?_
          refine z_goto (tgt := 45) d_M_turnAt_97 (by decide) ?_
          refine z_sub (ls' := [(0, (2, 0)), (4, (0, x4 - (((g 10 x5) - 0) - 0))), (5, (0, x5 + 1))]) [2, 1, 0] rfl ?_
          exact h
        · have h := h.2 c26
          refine z_aload_n (i := 0) (c := 0) 0 d_M_turnAt_65 rfl rfl rfl ?_
          refine z_iload 2 d_M_turnAt_66 rfl ?_
          refine z_iconst (n := 2) d_M_turnAt_68 (by decide) ?_
          refine z_irem d_M_turnAt_69 (by decide) ?_
          refine z_iconst (n := 1) d_M_turnAt_70 (by decide) ?_
          refine z_icmp_ne (tgt := 78) d_M_turnAt_71 (by decide) (fun c29 => ?_) (fun c29 => ?_)
          · have h := h.2 c29
            refine z_iconst (n := 1) d_M_turnAt_78 (by decide) ?_
            refine z_cV (c := 0) (as := [(0, 1)]) (d' := 1) (st := []) d_M_turnAt_79 mi_M_gives ml_M_91 mv_M_gives se_M_gives rfl rfl rfl rfl (ks_M_0 hx) rfl rfl (kl_M_0 hx) rfl rfl (b_M_gives_0 hx ?_)
            intro _
            show z_U X 2 m_M_turnAt 82 [(0, (2, 0)), (4, (0, x4)), (5, (0, x5))] [(0, 1)] N σ (z_up g 0 1 0) Q
            exact z_iret d_M_turnAt_82 rfl (by decide) (by decide) ⟨rfl, rfl, h⟩
          · have h := h.1 c29
            refine z_iconst (n := 0) d_M_turnAt_74 (by decide) ?_
            refine z_goto (tgt := 79) d_M_turnAt_75 (by decide) ?_
            refine z_cV (c := 0) (as := [(0, 0)]) (d' := 1) (st := []) d_M_turnAt_79 mi_M_gives ml_M_91 mv_M_gives se_M_gives rfl rfl rfl rfl (ks_M_0 hx) rfl rfl (kl_M_0 hx) rfl rfl (b_M_gives_0 hx ?_)
            intro _
            show z_U X 2 m_M_turnAt 82 [(0, (2, 0)), (4, (0, x4)), (5, (0, x5))] [(0, 0)] N σ (z_up g 0 1 0) Q
            exact z_iret d_M_turnAt_82 rfl (by decide) (by decide) ⟨rfl, rfl, h⟩
theorem d_M_undo_0 : decode (z_c m_M_undo) 0 = .ok (.aload_n 0, 1) := by decide +kernel
theorem d_M_undo_1 : decode (z_c m_M_undo) 1 = .ok (.getfield 427, 3) := by decide +kernel
theorem d_M_undo_4 : decode (z_c m_M_undo) 4 = .ok (.ifCond .ne 10, 3) := by decide +kernel
theorem d_M_undo_7 : decode (z_c m_M_undo) 7 = .ok (.aload_n 0, 1) := by decide +kernel
theorem d_M_undo_8 : decode (z_c m_M_undo) 8 = .ok (.bipush 6, 2) := by decide +kernel
theorem d_M_undo_10 : decode (z_c m_M_undo) 10 = .ok (.invokevirtual 87, 3) := by decide +kernel
theorem d_M_undo_13 : decode (z_c m_M_undo) 13 = .ok (.ireturn, 1) := by decide +kernel
theorem d_M_undo_14 : decode (z_c m_M_undo) 14 = .ok (.aload_n 0, 1) := by decide +kernel
theorem d_M_undo_15 : decode (z_c m_M_undo) 15 = .ok (.aload_n 0, 1) := by decide +kernel
theorem d_M_undo_16 : decode (z_c m_M_undo) 16 = .ok (.getfield 427, 3) := by decide +kernel
theorem d_M_undo_19 : decode (z_c m_M_undo) 19 = .ok (.iconst 0, 1) := by decide +kernel
theorem d_M_undo_20 : decode (z_c m_M_undo) 20 = .ok (.invokevirtual 430, 3) := by decide +kernel
theorem d_M_undo_23 : decode (z_c m_M_undo) 23 = .ok (.aload_n 0, 1) := by decide +kernel
theorem d_M_undo_24 : decode (z_c m_M_undo) 24 = .ok (.dup, 1) := by decide +kernel
theorem d_M_undo_25 : decode (z_c m_M_undo) 25 = .ok (.getfield 427, 3) := by decide +kernel
theorem d_M_undo_28 : decode (z_c m_M_undo) 28 = .ok (.iconst 1, 1) := by decide +kernel
theorem d_M_undo_29 : decode (z_c m_M_undo) 29 = .ok (.isub, 1) := by decide +kernel
theorem d_M_undo_30 : decode (z_c m_M_undo) 30 = .ok (.putfield 427, 3) := by decide +kernel
theorem d_M_undo_33 : decode (z_c m_M_undo) 33 = .ok (.aload_n 0, 1) := by decide +kernel
theorem d_M_undo_34 : decode (z_c m_M_undo) 34 = .ok (.aload_n 0, 1) := by decide +kernel
theorem d_M_undo_35 : decode (z_c m_M_undo) 35 = .ok (.getfield 427, 3) := by decide +kernel
theorem d_M_undo_38 : decode (z_c m_M_undo) 38 = .ok (.invokevirtual 91, 3) := by decide +kernel
theorem d_M_undo_41 : decode (z_c m_M_undo) 41 = .ok (.ireturn, 1) := by decide +kernel
set_option maxRecDepth 8000 in
theorem b_M_undo_0 {X : z_X} {N : Nat} {σ g : z_G} {Q : z_P} (hx : z_lay X N σ 0 z_SM z_RM) (h : (((g 0 41) = 0) → Q (-1) (z_up g 0 1 6)) ∧ (¬ ((g 0 41) = 0) → (z_O X 1 m_M_copies [(2, 0), (0, g 0 41), (0, 0)] N σ g (fun r0 g0 => ((-2147483648 ≤ ((g0 0 41) - 1) ∧ ((g0 0 41) - 1) ≤ 2147483647) ∧ Q ((g0 0 41) - 1) (z_up (z_up g0 0 41 ((g0 0 41) - 1)) 0 1 0)))))) : z_O X 2 m_M_undo [(2, 0)] N σ g Q := by
  refine z_Oenter mi_M_undo rfl (fun _ => ?_)
  show z_U X 2 m_M_undo 0 [(0, (2, 0))] [] N σ g Q
  refine z_aload_n (i := 0) (c := 0) 0 d_M_undo_0 rfl rfl rfl ?_
  refine z_geti (c := 0) (kI := 41) d_M_undo_1 fd_M_marks fl_M_427 (Or.inl rfl) rfl rfl (ks_M_0 hx) (kl_M_0 hx) ?_
  refine z_if_ne (tgt := 14) d_M_undo_4 (by decide) (fun c1 => ?_) (fun c1 => ?_)
  · have h := h.2 c1
    refine z_aload_n (i := 0) (c := 0) 0 d_M_undo_14 rfl rfl rfl ?_
    refine z_aload_n (i := 0) (c := 0) 0 d_M_undo_15 rfl rfl rfl ?_
    refine z_geti (c := 0) (kI := 41) d_M_undo_16 fd_M_marks fl_M_427 (Or.inl rfl) rfl rfl (ks_M_0 hx) (kl_M_0 hx) ?_
    refine z_iconst (n := 0) d_M_undo_19 (by decide) ?_
    refine z_cV (c := 0) (as := [(0, g 0 41), (0, 0)]) (d' := 1) (st := []) d_M_undo_20 mi_M_copies ml_M_430 mv_M_copies se_M_copies rfl rfl rfl rfl (ks_M_0 hx) rfl rfl (kl_M_0 hx) rfl rfl (z_Omono h (fun r0 g0 _ h hro => ?_))
    show z_U X 2 m_M_undo 23 [(0, (2, 0))] [] N σ g0 Q
    refine z_aload_n (i := 0) (c := 0) 0 d_M_undo_23 rfl rfl rfl ?_
    refine z_dup d_M_undo_24 rfl ?_
    refine z_geti (c := 0) (kI := 41) d_M_undo_25 fd_M_marks fl_M_427 (Or.inl rfl) rfl rfl (ks_M_0 hx) (kl_M_0 hx) ?_
    refine z_iconst (n := 1) d_M_undo_28 (by decide) ?_
    obtain ⟨c2, h⟩ := h
    refine z_isub d_M_undo_29 c2 ?_
    refine z_puti (c := 0) (kI := 41) d_M_undo_30 fd_M_marks fl_M_427 pf_M_marks rfl rfl rfl rfl (ks_M_0 hx) (kl_M_0 hx) ?_
    refine z_aload_n (i := 0) (c := 0) 0 d_M_undo_33 rfl rfl rfl ?_
    refine z_aload_n (i := 0) (c := 0) 0 d_M_undo_34 rfl rfl rfl ?_
    refine z_geti (c := 0) (kI := 41) d_M_undo_35 fd_M_marks fl_M_427 (Or.inl rfl) rfl rfl (ks_M_0 hx) (kl_M_0 hx) ?_
    refine z_ti (b := (g0 0 41) - 1) (by simp [z_up]) ?_
    refine z_cV (c := 0) (as := [(0, (g0 0 41) - 1)]) (d' := 1) (st := []) d_M_undo_38 mi_M_gives ml_M_91 mv_M_gives se_M_gives rfl rfl rfl rfl (ks_M_0 hx) rfl rfl (kl_M_0 hx) rfl rfl (b_M_gives_0 hx ?_)
    intro _
    show z_U X 2 m_M_undo 41 [(0, (2, 0))] [(0, (g0 0 41) - 1)] N σ (z_up (z_up g0 0 41 ((g0 0 41) - 1)) 0 1 0) Q
    exact z_iret d_M_undo_41 rfl (by decide) (by decide) ⟨rfl, rfl, h⟩
  · have h := h.1 c1
    refine z_aload_n (i := 0) (c := 0) 0 d_M_undo_7 rfl rfl rfl ?_
    refine z_bipush (n := 6) d_M_undo_8 (by decide) (by decide) ?_
    refine z_cV (c := 0) (as := [(0, 6)]) (d' := 1) (st := []) d_M_undo_10 mi_M_refuse ml_M_87 mv_M_refuse se_M_refuse rfl rfl rfl rfl (ks_M_0 hx) rfl rfl (kl_M_0 hx) rfl rfl (b_M_refuse_0 hx ?_)
    intro _
    show z_U X 2 m_M_undo 13 [(0, (2, 0))] [(0, (-1))] N σ (z_up g 0 1 6) Q
    exact z_iret d_M_undo_13 rfl (by decide) (by decide) ⟨rfl, rfl, h⟩
theorem d_M_wasAt_0 : decode (z_c m_M_wasAt) 0 = .ok (.iload_n 1, 1) := by decide +kernel
theorem d_M_wasAt_1 : decode (z_c m_M_wasAt) 1 = .ok (.iload_n 2, 1) := by decide +kernel
theorem d_M_wasAt_2 : decode (z_c m_M_wasAt) 2 = .ok (.invokestatic 272, 3) := by decide +kernel
theorem d_M_wasAt_5 : decode (z_c m_M_wasAt) 5 = .ok (.ifCond .ne 9, 3) := by decide +kernel
theorem d_M_wasAt_8 : decode (z_c m_M_wasAt) 8 = .ok (.aload_n 0, 1) := by decide +kernel
theorem d_M_wasAt_9 : decode (z_c m_M_wasAt) 9 = .ok (.iconst 1, 1) := by decide +kernel
theorem d_M_wasAt_10 : decode (z_c m_M_wasAt) 10 = .ok (.invokevirtual 87, 3) := by decide +kernel
theorem d_M_wasAt_13 : decode (z_c m_M_wasAt) 13 = .ok (.ireturn, 1) := by decide +kernel
theorem d_M_wasAt_14 : decode (z_c m_M_wasAt) 14 = .ok (.iload_n 1, 1) := by decide +kernel
theorem d_M_wasAt_15 : decode (z_c m_M_wasAt) 15 = .ok (.iload_n 2, 1) := by decide +kernel
theorem d_M_wasAt_16 : decode (z_c m_M_wasAt) 16 = .ok (.invokestatic 182, 3) := by decide +kernel
theorem d_M_wasAt_19 : decode (z_c m_M_wasAt) 19 = .ok (.istore_n 3, 1) := by decide +kernel
theorem d_M_wasAt_20 : decode (z_c m_M_wasAt) 20 = .ok (.sipush 10000, 3) := by decide +kernel
theorem d_M_wasAt_23 : decode (z_c m_M_wasAt) 23 = .ok (.iload_n 1, 1) := by decide +kernel
theorem d_M_wasAt_24 : decode (z_c m_M_wasAt) 24 = .ok (.iload_n 3, 1) := by decide +kernel
theorem d_M_wasAt_25 : decode (z_c m_M_wasAt) 25 = .ok (.idiv, 1) := by decide +kernel
theorem d_M_wasAt_26 : decode (z_c m_M_wasAt) 26 = .ok (.imul, 1) := by decide +kernel
theorem d_M_wasAt_27 : decode (z_c m_M_wasAt) 27 = .ok (.iload_n 2, 1) := by decide +kernel
theorem d_M_wasAt_28 : decode (z_c m_M_wasAt) 28 = .ok (.iload_n 3, 1) := by decide +kernel
theorem d_M_wasAt_29 : decode (z_c m_M_wasAt) 29 = .ok (.idiv, 1) := by decide +kernel
theorem d_M_wasAt_30 : decode (z_c m_M_wasAt) 30 = .ok (.iadd, 1) := by decide +kernel
theorem d_M_wasAt_31 : decode (z_c m_M_wasAt) 31 = .ok (.istore 4, 2) := by decide +kernel
theorem d_M_wasAt_33 : decode (z_c m_M_wasAt) 33 = .ok (.iconst 0, 1) := by decide +kernel
theorem d_M_wasAt_34 : decode (z_c m_M_wasAt) 34 = .ok (.istore 5, 2) := by decide +kernel
theorem d_M_wasAt_36 : decode (z_c m_M_wasAt) 36 = .ok (.iconst 0, 1) := by decide +kernel
theorem d_M_wasAt_37 : decode (z_c m_M_wasAt) 37 = .ok (.istore 6, 2) := by decide +kernel
theorem d_M_wasAt_39 : decode (z_c m_M_wasAt) 39 = .ok (.iload 6, 2) := by decide +kernel
theorem d_M_wasAt_41 : decode (z_c m_M_wasAt) 41 = .ok (.aload_n 0, 1) := by decide +kernel
theorem d_M_wasAt_42 : decode (z_c m_M_wasAt) 42 = .ok (.getfield 7, 3) := by decide +kernel
theorem d_M_wasAt_45 : decode (z_c m_M_wasAt) 45 = .ok (.iconst 5, 1) := by decide +kernel
theorem d_M_wasAt_46 : decode (z_c m_M_wasAt) 46 = .ok (.iaload, 1) := by decide +kernel
theorem d_M_wasAt_47 : decode (z_c m_M_wasAt) 47 = .ok (.if_icmp .ge 34, 3) := by decide +kernel
theorem d_M_wasAt_50 : decode (z_c m_M_wasAt) 50 = .ok (.iload 5, 2) := by decide +kernel
theorem d_M_wasAt_52 : decode (z_c m_M_wasAt) 52 = .ok (.aload_n 0, 1) := by decide +kernel
theorem d_M_wasAt_53 : decode (z_c m_M_wasAt) 53 = .ok (.getfield 7, 3) := by decide +kernel
theorem d_M_wasAt_56 : decode (z_c m_M_wasAt) 56 = .ok (.bipush 46, 2) := by decide +kernel
theorem d_M_wasAt_58 : decode (z_c m_M_wasAt) 58 = .ok (.iload 6, 2) := by decide +kernel
theorem d_M_wasAt_60 : decode (z_c m_M_wasAt) 60 = .ok (.iadd, 1) := by decide +kernel
theorem d_M_wasAt_61 : decode (z_c m_M_wasAt) 61 = .ok (.iaload, 1) := by decide +kernel
theorem d_M_wasAt_62 : decode (z_c m_M_wasAt) 62 = .ok (.iload 4, 2) := by decide +kernel
theorem d_M_wasAt_64 : decode (z_c m_M_wasAt) 64 = .ok (.if_icmp .ne 7, 3) := by decide +kernel
theorem d_M_wasAt_67 : decode (z_c m_M_wasAt) 67 = .ok (.iconst 1, 1) := by decide +kernel
theorem d_M_wasAt_68 : decode (z_c m_M_wasAt) 68 = .ok (.goto 4, 3) := by decide +kernel
theorem d_M_wasAt_71 : decode (z_c m_M_wasAt) 71 = .ok (.iconst 0, 1) := by decide +kernel
theorem d_M_wasAt_72 : decode (z_c m_M_wasAt) 72 = .ok (.iadd, 1) := by decide +kernel
theorem d_M_wasAt_73 : decode (z_c m_M_wasAt) 73 = .ok (.istore 5, 2) := by decide +kernel
theorem d_M_wasAt_75 : decode (z_c m_M_wasAt) 75 = .ok (.iinc 6 1, 3) := by decide +kernel
theorem d_M_wasAt_78 : decode (z_c m_M_wasAt) 78 = .ok (.goto (-39), 3) := by decide +kernel
theorem d_M_wasAt_81 : decode (z_c m_M_wasAt) 81 = .ok (.aload_n 0, 1) := by decide +kernel
theorem d_M_wasAt_82 : decode (z_c m_M_wasAt) 82 = .ok (.iload 5, 2) := by decide +kernel
theorem d_M_wasAt_84 : decode (z_c m_M_wasAt) 84 = .ok (.invokevirtual 91, 3) := by decide +kernel
theorem d_M_wasAt_87 : decode (z_c m_M_wasAt) 87 = .ok (.ireturn, 1) := by decide +kernel
abbrev L_M_wasAt_39 (X : z_X) (N : Nat) (σ : z_G) (x4 x5 x6 : Int) (g : z_G) (Q : z_P) : Prop := z_U X 2 m_M_wasAt 39 [(0, (2, 0)), (4, (0, x4)), (5, (0, x5)), (6, (0, x6))] [] N σ g Q
set_option maxRecDepth 8000 in
theorem b_M_wasAt_0 {X : z_X} {N : Nat} {σ g : z_G} {Q : z_P} {a1 a2 : Int} (hx : z_lay X N σ 0 z_SM z_RM) (h : ((a2 < 1) → Q (-1) (z_up g 0 1 1)) ∧ (¬ (a2 < 1) → (((9999 < a2) → Q (-1) (z_up g 0 1 1)) ∧ (¬ (9999 < a2) → (((a1 < 0) → Q (-1) (z_up g 0 1 1)) ∧ (¬ (a1 < 0) → (((a2 < a1) → Q (-1) (z_up g 0 1 1)) ∧ (¬ (a2 < a1) → (z_O X 1 m_M_common [(0, a1), (0, a2)] N σ g (fun r0 g0 => ((0 < r0) ∧ ((-2147483648 ≤ (10000 * (Int.tdiv a1 r0)) ∧ (10000 * (Int.tdiv a1 r0)) ≤ 2147483647) ∧ ((-2147483648 ≤ ((10000 * (Int.tdiv a1 r0)) + (Int.tdiv a2 r0)) ∧ ((10000 * (Int.tdiv a1 r0)) + (Int.tdiv a2 r0)) ≤ 2147483647) ∧ L_M_wasAt_39 X N σ ((10000 * (Int.tdiv a1 r0)) + (Int.tdiv a2 r0)) 0 0 g0 Q))))))))))))) : z_O X 2 m_M_wasAt [(2, 0), (0, a1), (0, a2)] N σ g Q := by
  refine z_Oenter mi_M_wasAt rfl (fun _ => ?_)
  show z_U X 2 m_M_wasAt 0 [(0, (2, 0)), (1, (0, a1)), (2, (0, a2))] [] N σ g Q
  refine z_iload_n (i := 1) 1 d_M_wasAt_0 rfl rfl ?_
  refine z_iload_n (i := 2) 2 d_M_wasAt_1 rfl rfl ?_
  refine z_cS (as := [(0, a1), (0, a2)]) (d' := 1) (st := []) d_M_wasAt_2 mi_M_isValue ml_M_272 ms_M_isValue rfl rfl rfl rfl rfl (b_M_isValue_0  ?_)
  refine ⟨fun c1 => ?_, fun c1 => ?_⟩
  · have h := h.1 c1
    intro _
    show z_U X 2 m_M_wasAt 5 [(0, (2, 0)), (1, (0, a1)), (2, (0, a2))] [(0, 0)] N σ g Q
    refine z_if_ne (tgt := 14) d_M_wasAt_5 (by decide) (fun c => absurd (by decide) c) (fun _ => ?_)
    refine z_aload_n (i := 0) (c := 0) 0 d_M_wasAt_8 rfl rfl rfl ?_
    refine z_iconst (n := 1) d_M_wasAt_9 (by decide) ?_
    refine z_cV (c := 0) (as := [(0, 1)]) (d' := 1) (st := []) d_M_wasAt_10 mi_M_refuse ml_M_87 mv_M_refuse se_M_refuse rfl rfl rfl rfl (ks_M_0 hx) rfl rfl (kl_M_0 hx) rfl rfl (b_M_refuse_0 hx ?_)
    intro _
    show z_U X 2 m_M_wasAt 13 [(0, (2, 0)), (1, (0, a1)), (2, (0, a2))] [(0, (-1))] N σ (z_up g 0 1 1) Q
    exact z_iret d_M_wasAt_13 rfl (by decide) (by decide) ⟨rfl, rfl, h⟩
  · have h := h.2 c1
    refine ⟨fun c2 => ?_, fun c2 => ?_⟩
    · have h := h.1 c2
      intro _
      show z_U X 2 m_M_wasAt 5 [(0, (2, 0)), (1, (0, a1)), (2, (0, a2))] [(0, 0)] N σ g Q
      refine z_if_ne (tgt := 14) d_M_wasAt_5 (by decide) (fun c => absurd (by decide) c) (fun _ => ?_)
      refine z_aload_n (i := 0) (c := 0) 0 d_M_wasAt_8 rfl rfl rfl ?_
      refine z_iconst (n := 1) d_M_wasAt_9 (by decide) ?_
      refine z_cV (c := 0) (as := [(0, 1)]) (d' := 1) (st := []) d_M_wasAt_10 mi_M_refuse ml_M_87 mv_M_refuse se_M_refuse rfl rfl rfl rfl (ks_M_0 hx) rfl rfl (kl_M_0 hx) rfl rfl (b_M_refuse_0 hx ?_)
      intro _
      show z_U X 2 m_M_wasAt 13 [(0, (2, 0)), (1, (0, a1)), (2, (0, a2))] [(0, (-1))] N σ (z_up g 0 1 1) Q
      exact z_iret d_M_wasAt_13 rfl (by decide) (by decide) ⟨rfl, rfl, h⟩
    · have h := h.2 c2
      refine ⟨fun c3 => ?_, fun c3 => ?_⟩
      · have h := h.1 c3
        intro _
        show z_U X 2 m_M_wasAt 5 [(0, (2, 0)), (1, (0, a1)), (2, (0, a2))] [(0, 0)] N σ g Q
        refine z_if_ne (tgt := 14) d_M_wasAt_5 (by decide) (fun c => absurd (by decide) c) (fun _ => ?_)
        refine z_aload_n (i := 0) (c := 0) 0 d_M_wasAt_8 rfl rfl rfl ?_
        refine z_iconst (n := 1) d_M_wasAt_9 (by decide) ?_
        refine z_cV (c := 0) (as := [(0, 1)]) (d' := 1) (st := []) d_M_wasAt_10 mi_M_refuse ml_M_87 mv_M_refuse se_M_refuse rfl rfl rfl rfl (ks_M_0 hx) rfl rfl (kl_M_0 hx) rfl rfl (b_M_refuse_0 hx ?_)
        intro _
        show z_U X 2 m_M_wasAt 13 [(0, (2, 0)), (1, (0, a1)), (2, (0, a2))] [(0, (-1))] N σ (z_up g 0 1 1) Q
        exact z_iret d_M_wasAt_13 rfl (by decide) (by decide) ⟨rfl, rfl, h⟩
      · have h := h.2 c3
        refine ⟨fun c4 => ?_, fun c4 => ?_⟩
        · have h := h.1 c4
          intro _
          show z_U X 2 m_M_wasAt 5 [(0, (2, 0)), (1, (0, a1)), (2, (0, a2))] [(0, 0)] N σ g Q
          refine z_if_ne (tgt := 14) d_M_wasAt_5 (by decide) (fun c => absurd (by decide) c) (fun _ => ?_)
          refine z_aload_n (i := 0) (c := 0) 0 d_M_wasAt_8 rfl rfl rfl ?_
          refine z_iconst (n := 1) d_M_wasAt_9 (by decide) ?_
          refine z_cV (c := 0) (as := [(0, 1)]) (d' := 1) (st := []) d_M_wasAt_10 mi_M_refuse ml_M_87 mv_M_refuse se_M_refuse rfl rfl rfl rfl (ks_M_0 hx) rfl rfl (kl_M_0 hx) rfl rfl (b_M_refuse_0 hx ?_)
          intro _
          show z_U X 2 m_M_wasAt 13 [(0, (2, 0)), (1, (0, a1)), (2, (0, a2))] [(0, (-1))] N σ (z_up g 0 1 1) Q
          exact z_iret d_M_wasAt_13 rfl (by decide) (by decide) ⟨rfl, rfl, h⟩
        · have h := h.2 c4
          intro _
          show z_U X 2 m_M_wasAt 5 [(0, (2, 0)), (1, (0, a1)), (2, (0, a2))] [(0, 1)] N σ g Q
          refine z_if_ne (tgt := 14) d_M_wasAt_5 (by decide) (fun _ => ?_) (fun c => absurd c (by decide))
          refine z_iload_n (i := 1) 1 d_M_wasAt_14 rfl rfl ?_
          refine z_iload_n (i := 2) 2 d_M_wasAt_15 rfl rfl ?_
          refine z_cS (as := [(0, a1), (0, a2)]) (d' := 1) (st := []) d_M_wasAt_16 mi_M_common ml_M_182 ms_M_common rfl rfl rfl rfl rfl (z_Omono h (fun r0 g0 _ h hro => ?_))
          show z_U X 2 m_M_wasAt 19 [(0, (2, 0)), (1, (0, a1)), (2, (0, a2))] [(0, r0)] N σ g0 Q
          refine z_istore_n (i := 3) (ls' := [(3, (0, r0)), (0, (2, 0)), (1, (0, a1)), (2, (0, a2))]) d_M_wasAt_19 rfl rfl rfl ?_
          refine z_sipush (n := 10000) d_M_wasAt_20 (by decide) (by decide) ?_
          refine z_iload_n (i := 1) 2 d_M_wasAt_23 rfl rfl ?_
          refine z_iload_n (i := 3) 0 d_M_wasAt_24 rfl rfl ?_
          obtain ⟨c5, h⟩ := h
          refine z_idiv d_M_wasAt_25 c5 ?_
          obtain ⟨c6, h⟩ := h
          refine z_imul d_M_wasAt_26 c6 ?_
          refine z_iload_n (i := 2) 3 d_M_wasAt_27 rfl rfl ?_
          refine z_iload_n (i := 3) 0 d_M_wasAt_28 rfl rfl ?_
          refine z_idiv d_M_wasAt_29 c5 ?_
          obtain ⟨c7, h⟩ := h
          refine z_iadd d_M_wasAt_30 c7 ?_
          refine z_istore (ls' := [(4, (0, (10000 * (Int.tdiv a1 r0)) + (Int.tdiv a2 r0))), (3, (0, r0)), (0, (2, 0)), (1, (0, a1)), (2, (0, a2))]) d_M_wasAt_31 rfl rfl ?_
          refine z_iconst (n := 0) d_M_wasAt_33 (by decide) ?_
          refine z_istore (ls' := [(5, (0, 0)), (4, (0, (10000 * (Int.tdiv a1 r0)) + (Int.tdiv a2 r0))), (3, (0, r0)), (0, (2, 0)), (1, (0, a1)), (2, (0, a2))]) d_M_wasAt_34 rfl rfl ?_
          refine z_iconst (n := 0) d_M_wasAt_36 (by decide) ?_
          refine z_istore (ls' := [(6, (0, 0)), (5, (0, 0)), (4, (0, (10000 * (Int.tdiv a1 r0)) + (Int.tdiv a2 r0))), (3, (0, r0)), (0, (2, 0)), (1, (0, a1)), (2, (0, a2))]) d_M_wasAt_37 rfl rfl ?_
          refine z_sub (ls' := [(0, (2, 0)), (4, (0, (10000 * (Int.tdiv a1 r0)) + (Int.tdiv a2 r0))), (5, (0, 0)), (6, (0, 0))]) [4, 2, 1, 0] rfl ?_
          exact h
set_option maxRecDepth 8000 in
theorem b_M_wasAt_39 {X : z_X} {N : Nat} {σ g : z_G} {Q : z_P} {x4 x5 x6 : Int} (hx : z_lay X N σ 0 z_SM z_RM) (h : (((g 1 5) ≤ x6) → Q x5 (z_up g 0 1 0)) ∧ (¬ ((g 1 5) ≤ x6) → ((-2147483648 ≤ (46 + x6) ∧ (46 + x6) ≤ 2147483647) ∧ ((0 ≤ (46 + x6) ∧ (46 + x6) < 3296) ∧ ((((g 1 (46 + x6)) = x4) → ((-2147483648 ≤ (x5 + 1) ∧ (x5 + 1) ≤ 2147483647) ∧ ((-2147483648 ≤ (x6 + 1) ∧ (x6 + 1) ≤ 2147483647) ∧ L_M_wasAt_39 X N σ x4 (x5 + 1) (x6 + 1) g Q))) ∧ (¬ ((g 1 (46 + x6)) = x4) → ((-2147483648 ≤ (x5 + 0) ∧ (x5 + 0) ≤ 2147483647) ∧ ((-2147483648 ≤ (x6 + 1) ∧ (x6 + 1) ≤ 2147483647) ∧ L_M_wasAt_39 X N σ x4 (x5 + 0) (x6 + 1) g Q)))))))) : L_M_wasAt_39 X N σ x4 x5 x6 g Q := by
  refine z_iload 3 d_M_wasAt_39 rfl ?_
  refine z_aload_n (i := 0) (c := 0) 0 d_M_wasAt_41 rfl rfl rfl ?_
  refine z_getr (c := 0) (kI := 0) (r2 := 1) d_M_wasAt_42 fd_M_at fl_M_7 rfl rfl rfl (ks_M_0 hx) (kl_M_0 hx) (kr_M_0_0 hx) ?_
  refine z_iconst (n := 5) d_M_wasAt_45 (by decide) ?_
  refine z_iald (c := 1) (m := 3296) d_M_wasAt_46 rfl (ks_M_1 hx) (kl_M_1 hx) rfl (by decide) (by decide) ?_
  refine z_icmp_ge (tgt := 81) d_M_wasAt_47 (by decide) (fun c1 => ?_) (fun c1 => ?_)
  · have h := h.1 c1
    refine z_aload_n (i := 0) (c := 0) 0 d_M_wasAt_81 rfl rfl rfl ?_
    refine z_iload 2 d_M_wasAt_82 rfl ?_
    refine z_cV (c := 0) (as := [(0, x5)]) (d' := 1) (st := []) d_M_wasAt_84 mi_M_gives ml_M_91 mv_M_gives se_M_gives rfl rfl rfl rfl (ks_M_0 hx) rfl rfl (kl_M_0 hx) rfl rfl (b_M_gives_0 hx ?_)
    intro _
    show z_U X 2 m_M_wasAt 87 [(0, (2, 0)), (4, (0, x4)), (5, (0, x5)), (6, (0, x6))] [(0, x5)] N σ (z_up g 0 1 0) Q
    exact z_iret d_M_wasAt_87 rfl (by decide) (by decide) ⟨rfl, rfl, h⟩
  · have h := h.2 c1
    refine z_iload 2 d_M_wasAt_50 rfl ?_
    refine z_aload_n (i := 0) (c := 0) 0 d_M_wasAt_52 rfl rfl rfl ?_
    refine z_getr (c := 0) (kI := 0) (r2 := 1) d_M_wasAt_53 fd_M_at fl_M_7 rfl rfl rfl (ks_M_0 hx) (kl_M_0 hx) (kr_M_0_0 hx) ?_
    refine z_bipush (n := 46) d_M_wasAt_56 (by decide) (by decide) ?_
    refine z_iload 3 d_M_wasAt_58 rfl ?_
    obtain ⟨c2, h⟩ := h
    refine z_iadd d_M_wasAt_60 c2 ?_
    obtain ⟨c3, h⟩ := h
    refine z_iald (c := 1) (m := 3296) d_M_wasAt_61 rfl (ks_M_1 hx) (kl_M_1 hx) rfl (by decide) c3 ?_
    refine z_iload 1 d_M_wasAt_62 rfl ?_
    refine z_icmp_ne (tgt := 71) d_M_wasAt_64 (by decide) (fun c4 => ?_) (fun c4 => ?_)
    · have h := h.2 c4
      refine z_iconst (n := 0) d_M_wasAt_71 (by decide) ?_
      obtain ⟨c5, h⟩ := h
      refine z_iadd d_M_wasAt_72 c5 ?_
      refine z_istore (ls' := [(5, (0, x5 + 0)), (0, (2, 0)), (4, (0, x4)), (6, (0, x6))]) d_M_wasAt_73 rfl rfl ?_
      obtain ⟨c6, h⟩ := h
      refine z_iinc (n := 1) (ls' := [(6, (0, x6 + 1)), (5, (0, x5 + 0)), (0, (2, 0)), (4, (0, x4))]) 3 d_M_wasAt_75 rfl c6 rfl rfl ?_
      refine z_goto (tgt := 39) d_M_wasAt_78 (by decide) ?_
      refine z_sub (ls' := [(0, (2, 0)), (4, (0, x4)), (5, (0, x5 + 0)), (6, (0, x6 + 1))]) [2, 3, 1, 0] rfl ?_
      exact h
    · have h := h.1 c4
      refine z_iconst (n := 1) d_M_wasAt_67 (by decide) ?_
      refine z_goto (tgt := 72) d_M_wasAt_68 (by decide) ?_
      obtain ⟨c7, h⟩ := h
      refine z_iadd d_M_wasAt_72 c7 ?_
      refine z_istore (ls' := [(5, (0, x5 + 1)), (0, (2, 0)), (4, (0, x4)), (6, (0, x6))]) d_M_wasAt_73 rfl rfl ?_
      obtain ⟨c8, h⟩ := h
      refine z_iinc (n := 1) (ls' := [(6, (0, x6 + 1)), (5, (0, x5 + 1)), (0, (2, 0)), (4, (0, x4))]) 3 d_M_wasAt_75 rfl c8 rfl rfl ?_
      refine z_goto (tgt := 39) d_M_wasAt_78 (by decide) ?_
      refine z_sub (ls' := [(0, (2, 0)), (4, (0, x4)), (5, (0, x5 + 1)), (6, (0, x6 + 1))]) [2, 3, 1, 0] rfl ?_
      exact h
theorem d_M_weightOf_0 : decode (z_c m_M_weightOf) 0 = .ok (.aload_n 0, 1) := by decide +kernel
theorem d_M_weightOf_1 : decode (z_c m_M_weightOf) 1 = .ok (.getfield 7, 3) := by decide +kernel
theorem d_M_weightOf_4 : decode (z_c m_M_weightOf) 4 = .ok (.iload_n 1, 1) := by decide +kernel
theorem d_M_weightOf_5 : decode (z_c m_M_weightOf) 5 = .ok (.invokestatic 346, 3) := by decide +kernel
theorem d_M_weightOf_8 : decode (z_c m_M_weightOf) 8 = .ok (.iconst 2, 1) := by decide +kernel
theorem d_M_weightOf_9 : decode (z_c m_M_weightOf) 9 = .ok (.iadd, 1) := by decide +kernel
theorem d_M_weightOf_10 : decode (z_c m_M_weightOf) 10 = .ok (.iaload, 1) := by decide +kernel
theorem d_M_weightOf_11 : decode (z_c m_M_weightOf) 11 = .ok (.ireturn, 1) := by decide +kernel
set_option maxRecDepth 8000 in
theorem b_M_weightOf_0 {X : z_X} {N : Nat} {σ g : z_G} {Q : z_P} {a1 : Int} (hx : z_lay X N σ 0 z_SM z_RM) (h : (-2147483648 ≤ (3 * a1) ∧ (3 * a1) ≤ 2147483647) ∧ ((-2147483648 ≤ (10 + (3 * a1)) ∧ (10 + (3 * a1)) ≤ 2147483647) ∧ ((-2147483648 ≤ ((10 + (3 * a1)) + 2) ∧ ((10 + (3 * a1)) + 2) ≤ 2147483647) ∧ ((0 ≤ ((10 + (3 * a1)) + 2) ∧ ((10 + (3 * a1)) + 2) < 3296) ∧ Q (g 1 ((10 + (3 * a1)) + 2)) g)))) : z_O X 2 m_M_weightOf [(2, 0), (0, a1)] N σ g Q := by
  refine z_Oenter mi_M_weightOf rfl (fun _ => ?_)
  show z_U X 2 m_M_weightOf 0 [(0, (2, 0)), (1, (0, a1))] [] N σ g Q
  refine z_aload_n (i := 0) (c := 0) 0 d_M_weightOf_0 rfl rfl rfl ?_
  refine z_getr (c := 0) (kI := 0) (r2 := 1) d_M_weightOf_1 fd_M_at fl_M_7 rfl rfl rfl (ks_M_0 hx) (kl_M_0 hx) (kr_M_0_0 hx) ?_
  refine z_iload_n (i := 1) 1 d_M_weightOf_4 rfl rfl ?_
  refine z_cS (as := [(0, a1)]) (d' := 1) (st := [(2, 1)]) d_M_weightOf_5 mi_M_rowOf ml_M_346 ms_M_rowOf rfl rfl rfl rfl rfl (b_M_rowOf_0  ?_)
  obtain ⟨c1, h⟩ := h
  refine ⟨c1, ?_⟩
  obtain ⟨c2, h⟩ := h
  refine ⟨c2, ?_⟩
  intro _
  show z_U X 2 m_M_weightOf 8 [(0, (2, 0)), (1, (0, a1))] [(0, 10 + (3 * a1)), (2, 1)] N σ g Q
  refine z_iconst (n := 2) d_M_weightOf_8 (by decide) ?_
  obtain ⟨c3, h⟩ := h
  refine z_iadd d_M_weightOf_9 c3 ?_
  obtain ⟨c4, h⟩ := h
  refine z_iald (c := 1) (m := 3296) d_M_weightOf_10 rfl (ks_M_1 hx) (kl_M_1 hx) rfl (by decide) c4 ?_
  exact z_iret d_M_weightOf_11 rfl (by decide) (by decide) ⟨rfl, rfl, h⟩
theorem d_M_wide_0 : decode (z_c m_M_wide) 0 = .ok (.iload_n 1, 1) := by decide +kernel
theorem d_M_wide_1 : decode (z_c m_M_wide) 1 = .ok (.iload_n 2, 1) := by decide +kernel
theorem d_M_wide_2 : decode (z_c m_M_wide) 2 = .ok (.invokestatic 272, 3) := by decide +kernel
theorem d_M_wide_5 : decode (z_c m_M_wide) 5 = .ok (.ifCond .eq 12, 3) := by decide +kernel
theorem d_M_wide_8 : decode (z_c m_M_wide) 8 = .ok (.iload_n 3, 1) := by decide +kernel
theorem d_M_wide_9 : decode (z_c m_M_wide) 9 = .ok (.iload 4, 2) := by decide +kernel
theorem d_M_wide_11 : decode (z_c m_M_wide) 11 = .ok (.invokestatic 272, 3) := by decide +kernel
theorem d_M_wide_14 : decode (z_c m_M_wide) 14 = .ok (.ifCond .ne 9, 3) := by decide +kernel
theorem d_M_wide_17 : decode (z_c m_M_wide) 17 = .ok (.aload_n 0, 1) := by decide +kernel
theorem d_M_wide_18 : decode (z_c m_M_wide) 18 = .ok (.iconst 1, 1) := by decide +kernel
theorem d_M_wide_19 : decode (z_c m_M_wide) 19 = .ok (.invokevirtual 87, 3) := by decide +kernel
theorem d_M_wide_22 : decode (z_c m_M_wide) 22 = .ok (.ireturn, 1) := by decide +kernel
theorem d_M_wide_23 : decode (z_c m_M_wide) 23 = .ok (.aload_n 0, 1) := by decide +kernel
theorem d_M_wide_24 : decode (z_c m_M_wide) 24 = .ok (.iload_n 1, 1) := by decide +kernel
theorem d_M_wide_25 : decode (z_c m_M_wide) 25 = .ok (.iload 4, 2) := by decide +kernel
theorem d_M_wide_27 : decode (z_c m_M_wide) 27 = .ok (.imul, 1) := by decide +kernel
theorem d_M_wide_28 : decode (z_c m_M_wide) 28 = .ok (.iload_n 3, 1) := by decide +kernel
theorem d_M_wide_29 : decode (z_c m_M_wide) 29 = .ok (.iload_n 2, 1) := by decide +kernel
theorem d_M_wide_30 : decode (z_c m_M_wide) 30 = .ok (.imul, 1) := by decide +kernel
theorem d_M_wide_31 : decode (z_c m_M_wide) 31 = .ok (.isub, 1) := by decide +kernel
theorem d_M_wide_32 : decode (z_c m_M_wide) 32 = .ok (.invokestatic 285, 3) := by decide +kernel
theorem d_M_wide_35 : decode (z_c m_M_wide) 35 = .ok (.iload_n 1, 1) := by decide +kernel
theorem d_M_wide_36 : decode (z_c m_M_wide) 36 = .ok (.iload_n 2, 1) := by decide +kernel
theorem d_M_wide_37 : decode (z_c m_M_wide) 37 = .ok (.invokestatic 182, 3) := by decide +kernel
theorem d_M_wide_40 : decode (z_c m_M_wide) 40 = .ok (.idiv, 1) := by decide +kernel
theorem d_M_wide_41 : decode (z_c m_M_wide) 41 = .ok (.iload_n 3, 1) := by decide +kernel
theorem d_M_wide_42 : decode (z_c m_M_wide) 42 = .ok (.iload 4, 2) := by decide +kernel
theorem d_M_wide_44 : decode (z_c m_M_wide) 44 = .ok (.invokestatic 182, 3) := by decide +kernel
theorem d_M_wide_47 : decode (z_c m_M_wide) 47 = .ok (.idiv, 1) := by decide +kernel
theorem d_M_wide_48 : decode (z_c m_M_wide) 48 = .ok (.invokevirtual 91, 3) := by decide +kernel
theorem d_M_wide_51 : decode (z_c m_M_wide) 51 = .ok (.ireturn, 1) := by decide +kernel
set_option maxRecDepth 8000 in
theorem b_M_wide_0 {X : z_X} {N : Nat} {σ g : z_G} {Q : z_P} {a1 a2 a3 a4 : Int} (hx : z_lay X N σ 0 z_SM z_RM) (h : ((a2 < 1) → Q (-1) (z_up g 0 1 1)) ∧ (¬ (a2 < 1) → (((9999 < a2) → Q (-1) (z_up g 0 1 1)) ∧ (¬ (9999 < a2) → (((a1 < 0) → Q (-1) (z_up g 0 1 1)) ∧ (¬ (a1 < 0) → (((a2 < a1) → Q (-1) (z_up g 0 1 1)) ∧ (¬ (a2 < a1) → (((a4 < 1) → Q (-1) (z_up g 0 1 1)) ∧ (¬ (a4 < 1) → (((9999 < a4) → Q (-1) (z_up g 0 1 1)) ∧ (¬ (9999 < a4) → (((a3 < 0) → Q (-1) (z_up g 0 1 1)) ∧ (¬ (a3 < 0) → (((a4 < a3) → Q (-1) (z_up g 0 1 1)) ∧ (¬ (a4 < a3) → ((-2147483648 ≤ (a1 * a4) ∧ (a1 * a4) ≤ 2147483647) ∧ ((-2147483648 ≤ (a3 * a2) ∧ (a3 * a2) ≤ 2147483647) ∧ ((-2147483648 ≤ ((a1 * a4) - (a3 * a2)) ∧ ((a1 * a4) - (a3 * a2)) ≤ 2147483647) ∧ ((-2147483648 ≤ (-((a1 * a4) - (a3 * a2))) ∧ (-((a1 * a4) - (a3 * a2))) ≤ 2147483647) ∧ (((0 ≤ ((a1 * a4) - (a3 * a2))) → (z_O X 1 m_M_common [(0, a1), (0, a2)] N σ g (fun r0 g0 => ((0 < r0) ∧ (z_O X 1 m_M_common [(0, a3), (0, a4)] N σ g0 (fun r1 g1 => ((0 < r1) ∧ Q (Int.tdiv (Int.tdiv ((a1 * a4) - (a3 * a2)) r0) r1) (z_up g1 0 1 0)))))))) ∧ (¬ (0 ≤ ((a1 * a4) - (a3 * a2))) → (z_O X 1 m_M_common [(0, a1), (0, a2)] N σ g (fun r2 g2 => ((0 < r2) ∧ (z_O X 1 m_M_common [(0, a3), (0, a4)] N σ g2 (fun r3 g3 => ((0 < r3) ∧ Q (Int.tdiv (Int.tdiv (-((a1 * a4) - (a3 * a2))) r2) r3) (z_up g3 0 1 0))))))))))))))))))))))))))))) : z_O X 2 m_M_wide [(2, 0), (0, a1), (0, a2), (0, a3), (0, a4)] N σ g Q := by
  refine z_Oenter mi_M_wide rfl (fun _ => ?_)
  show z_U X 2 m_M_wide 0 [(0, (2, 0)), (1, (0, a1)), (2, (0, a2)), (3, (0, a3)), (4, (0, a4))] [] N σ g Q
  refine z_iload_n (i := 1) 1 d_M_wide_0 rfl rfl ?_
  refine z_iload_n (i := 2) 2 d_M_wide_1 rfl rfl ?_
  refine z_cS (as := [(0, a1), (0, a2)]) (d' := 1) (st := []) d_M_wide_2 mi_M_isValue ml_M_272 ms_M_isValue rfl rfl rfl rfl rfl (b_M_isValue_0  ?_)
  refine ⟨fun c1 => ?_, fun c1 => ?_⟩
  · have h := h.1 c1
    intro _
    show z_U X 2 m_M_wide 5 [(0, (2, 0)), (1, (0, a1)), (2, (0, a2)), (3, (0, a3)), (4, (0, a4))] [(0, 0)] N σ g Q
    refine z_if_eq (tgt := 17) d_M_wide_5 (by decide) (fun _ => ?_) (fun c => absurd (by decide) c)
    refine z_aload_n (i := 0) (c := 0) 0 d_M_wide_17 rfl rfl rfl ?_
    refine z_iconst (n := 1) d_M_wide_18 (by decide) ?_
    refine z_cV (c := 0) (as := [(0, 1)]) (d' := 1) (st := []) d_M_wide_19 mi_M_refuse ml_M_87 mv_M_refuse se_M_refuse rfl rfl rfl rfl (ks_M_0 hx) rfl rfl (kl_M_0 hx) rfl rfl (b_M_refuse_0 hx ?_)
    intro _
    show z_U X 2 m_M_wide 22 [(0, (2, 0)), (1, (0, a1)), (2, (0, a2)), (3, (0, a3)), (4, (0, a4))] [(0, (-1))] N σ (z_up g 0 1 1) Q
    exact z_iret d_M_wide_22 rfl (by decide) (by decide) ⟨rfl, rfl, h⟩
  · have h := h.2 c1
    refine ⟨fun c2 => ?_, fun c2 => ?_⟩
    · have h := h.1 c2
      intro _
      show z_U X 2 m_M_wide 5 [(0, (2, 0)), (1, (0, a1)), (2, (0, a2)), (3, (0, a3)), (4, (0, a4))] [(0, 0)] N σ g Q
      refine z_if_eq (tgt := 17) d_M_wide_5 (by decide) (fun _ => ?_) (fun c => absurd (by decide) c)
      refine z_aload_n (i := 0) (c := 0) 0 d_M_wide_17 rfl rfl rfl ?_
      refine z_iconst (n := 1) d_M_wide_18 (by decide) ?_
      refine z_cV (c := 0) (as := [(0, 1)]) (d' := 1) (st := []) d_M_wide_19 mi_M_refuse ml_M_87 mv_M_refuse se_M_refuse rfl rfl rfl rfl (ks_M_0 hx) rfl rfl (kl_M_0 hx) rfl rfl (b_M_refuse_0 hx ?_)
      intro _
      show z_U X 2 m_M_wide 22 [(0, (2, 0)), (1, (0, a1)), (2, (0, a2)), (3, (0, a3)), (4, (0, a4))] [(0, (-1))] N σ (z_up g 0 1 1) Q
      exact z_iret d_M_wide_22 rfl (by decide) (by decide) ⟨rfl, rfl, h⟩
    · have h := h.2 c2
      refine ⟨fun c3 => ?_, fun c3 => ?_⟩
      · have h := h.1 c3
        intro _
        show z_U X 2 m_M_wide 5 [(0, (2, 0)), (1, (0, a1)), (2, (0, a2)), (3, (0, a3)), (4, (0, a4))] [(0, 0)] N σ g Q
        refine z_if_eq (tgt := 17) d_M_wide_5 (by decide) (fun _ => ?_) (fun c => absurd (by decide) c)
        refine z_aload_n (i := 0) (c := 0) 0 d_M_wide_17 rfl rfl rfl ?_
        refine z_iconst (n := 1) d_M_wide_18 (by decide) ?_
        refine z_cV (c := 0) (as := [(0, 1)]) (d' := 1) (st := []) d_M_wide_19 mi_M_refuse ml_M_87 mv_M_refuse se_M_refuse rfl rfl rfl rfl (ks_M_0 hx) rfl rfl (kl_M_0 hx) rfl rfl (b_M_refuse_0 hx ?_)
        intro _
        show z_U X 2 m_M_wide 22 [(0, (2, 0)), (1, (0, a1)), (2, (0, a2)), (3, (0, a3)), (4, (0, a4))] [(0, (-1))] N σ (z_up g 0 1 1) Q
        exact z_iret d_M_wide_22 rfl (by decide) (by decide) ⟨rfl, rfl, h⟩
      · have h := h.2 c3
        refine ⟨fun c4 => ?_, fun c4 => ?_⟩
        · have h := h.1 c4
          intro _
          show z_U X 2 m_M_wide 5 [(0, (2, 0)), (1, (0, a1)), (2, (0, a2)), (3, (0, a3)), (4, (0, a4))] [(0, 0)] N σ g Q
          refine z_if_eq (tgt := 17) d_M_wide_5 (by decide) (fun _ => ?_) (fun c => absurd (by decide) c)
          refine z_aload_n (i := 0) (c := 0) 0 d_M_wide_17 rfl rfl rfl ?_
          refine z_iconst (n := 1) d_M_wide_18 (by decide) ?_
          refine z_cV (c := 0) (as := [(0, 1)]) (d' := 1) (st := []) d_M_wide_19 mi_M_refuse ml_M_87 mv_M_refuse se_M_refuse rfl rfl rfl rfl (ks_M_0 hx) rfl rfl (kl_M_0 hx) rfl rfl (b_M_refuse_0 hx ?_)
          intro _
          show z_U X 2 m_M_wide 22 [(0, (2, 0)), (1, (0, a1)), (2, (0, a2)), (3, (0, a3)), (4, (0, a4))] [(0, (-1))] N σ (z_up g 0 1 1) Q
          exact z_iret d_M_wide_22 rfl (by decide) (by decide) ⟨rfl, rfl, h⟩
        · have h := h.2 c4
          intro _
          show z_U X 2 m_M_wide 5 [(0, (2, 0)), (1, (0, a1)), (2, (0, a2)), (3, (0, a3)), (4, (0, a4))] [(0, 1)] N σ g Q
          refine z_if_eq (tgt := 17) d_M_wide_5 (by decide) (fun c => absurd c (by decide)) (fun _ => ?_)
          refine z_iload_n (i := 3) 3 d_M_wide_8 rfl rfl ?_
          refine z_iload 4 d_M_wide_9 rfl ?_
          refine z_cS (as := [(0, a3), (0, a4)]) (d' := 1) (st := []) d_M_wide_11 mi_M_isValue ml_M_272 ms_M_isValue rfl rfl rfl rfl rfl (b_M_isValue_0  ?_)
          refine ⟨fun c5 => ?_, fun c5 => ?_⟩
          · have h := h.1 c5
            intro _
            show z_U X 2 m_M_wide 14 [(0, (2, 0)), (1, (0, a1)), (2, (0, a2)), (3, (0, a3)), (4, (0, a4))] [(0, 0)] N σ g Q
            refine z_if_ne (tgt := 23) d_M_wide_14 (by decide) (fun c => absurd (by decide) c) (fun _ => ?_)
            refine z_aload_n (i := 0) (c := 0) 0 d_M_wide_17 rfl rfl rfl ?_
            refine z_iconst (n := 1) d_M_wide_18 (by decide) ?_
            refine z_cV (c := 0) (as := [(0, 1)]) (d' := 1) (st := []) d_M_wide_19 mi_M_refuse ml_M_87 mv_M_refuse se_M_refuse rfl rfl rfl rfl (ks_M_0 hx) rfl rfl (kl_M_0 hx) rfl rfl (b_M_refuse_0 hx ?_)
            intro _
            show z_U X 2 m_M_wide 22 [(0, (2, 0)), (1, (0, a1)), (2, (0, a2)), (3, (0, a3)), (4, (0, a4))] [(0, (-1))] N σ (z_up g 0 1 1) Q
            exact z_iret d_M_wide_22 rfl (by decide) (by decide) ⟨rfl, rfl, h⟩
          · have h := h.2 c5
            refine ⟨fun c6 => ?_, fun c6 => ?_⟩
            · have h := h.1 c6
              intro _
              show z_U X 2 m_M_wide 14 [(0, (2, 0)), (1, (0, a1)), (2, (0, a2)), (3, (0, a3)), (4, (0, a4))] [(0, 0)] N σ g Q
              refine z_if_ne (tgt := 23) d_M_wide_14 (by decide) (fun c => absurd (by decide) c) (fun _ => ?_)
              refine z_aload_n (i := 0) (c := 0) 0 d_M_wide_17 rfl rfl rfl ?_
              refine z_iconst (n := 1) d_M_wide_18 (by decide) ?_
              refine z_cV (c := 0) (as := [(0, 1)]) (d' := 1) (st := []) d_M_wide_19 mi_M_refuse ml_M_87 mv_M_refuse se_M_refuse rfl rfl rfl rfl (ks_M_0 hx) rfl rfl (kl_M_0 hx) rfl rfl (b_M_refuse_0 hx ?_)
              intro _
              show z_U X 2 m_M_wide 22 [(0, (2, 0)), (1, (0, a1)), (2, (0, a2)), (3, (0, a3)), (4, (0, a4))] [(0, (-1))] N σ (z_up g 0 1 1) Q
              exact z_iret d_M_wide_22 rfl (by decide) (by decide) ⟨rfl, rfl, h⟩
            · have h := h.2 c6
              refine ⟨fun c7 => ?_, fun c7 => ?_⟩
              · have h := h.1 c7
                intro _
                show z_U X 2 m_M_wide 14 [(0, (2, 0)), (1, (0, a1)), (2, (0, a2)), (3, (0, a3)), (4, (0, a4))] [(0, 0)] N σ g Q
                refine z_if_ne (tgt := 23) d_M_wide_14 (by decide) (fun c => absurd (by decide) c) (fun _ => ?_)
                refine z_aload_n (i := 0) (c := 0) 0 d_M_wide_17 rfl rfl rfl ?_
                refine z_iconst (n := 1) d_M_wide_18 (by decide) ?_
                refine z_cV (c := 0) (as := [(0, 1)]) (d' := 1) (st := []) d_M_wide_19 mi_M_refuse ml_M_87 mv_M_refuse se_M_refuse rfl rfl rfl rfl (ks_M_0 hx) rfl rfl (kl_M_0 hx) rfl rfl (b_M_refuse_0 hx ?_)
                intro _
                show z_U X 2 m_M_wide 22 [(0, (2, 0)), (1, (0, a1)), (2, (0, a2)), (3, (0, a3)), (4, (0, a4))] [(0, (-1))] N σ (z_up g 0 1 1) Q
                exact z_iret d_M_wide_22 rfl (by decide) (by decide) ⟨rfl, rfl, h⟩
              · have h := h.2 c7
                refine ⟨fun c8 => ?_, fun c8 => ?_⟩
                · have h := h.1 c8
                  intro _
                  show z_U X 2 m_M_wide 14 [(0, (2, 0)), (1, (0, a1)), (2, (0, a2)), (3, (0, a3)), (4, (0, a4))] [(0, 0)] N σ g Q
                  refine z_if_ne (tgt := 23) d_M_wide_14 (by decide) (fun c => absurd (by decide) c) (fun _ => ?_)
                  refine z_aload_n (i := 0) (c := 0) 0 d_M_wide_17 rfl rfl rfl ?_
                  refine z_iconst (n := 1) d_M_wide_18 (by decide) ?_
                  refine z_cV (c := 0) (as := [(0, 1)]) (d' := 1) (st := []) d_M_wide_19 mi_M_refuse ml_M_87 mv_M_refuse se_M_refuse rfl rfl rfl rfl (ks_M_0 hx) rfl rfl (kl_M_0 hx) rfl rfl (b_M_refuse_0 hx ?_)
                  intro _
                  show z_U X 2 m_M_wide 22 [(0, (2, 0)), (1, (0, a1)), (2, (0, a2)), (3, (0, a3)), (4, (0, a4))] [(0, (-1))] N σ (z_up g 0 1 1) Q
                  exact z_iret d_M_wide_22 rfl (by decide) (by decide) ⟨rfl, rfl, h⟩
                · have h := h.2 c8
                  intro _
                  show z_U X 2 m_M_wide 14 [(0, (2, 0)), (1, (0, a1)), (2, (0, a2)), (3, (0, a3)), (4, (0, a4))] [(0, 1)] N σ g Q
                  refine z_if_ne (tgt := 23) d_M_wide_14 (by decide) (fun _ => ?_) (fun c => absurd c (by decide))
                  refine z_aload_n (i := 0) (c := 0) 0 d_M_wide_23 rfl rfl rfl ?_
                  refine z_iload_n (i := 1) 1 d_M_wide_24 rfl rfl ?_
                  refine z_iload 4 d_M_wide_25 rfl ?_
                  obtain ⟨c9, h⟩ := h
                  refine z_imul d_M_wide_27 c9 ?_
                  refine z_iload_n (i := 3) 3 d_M_wide_28 rfl rfl ?_
                  refine z_iload_n (i := 2) 2 d_M_wide_29 rfl rfl ?_
                  obtain ⟨c10, h⟩ := h
                  refine z_imul d_M_wide_30 c10 ?_
                  obtain ⟨c11, h⟩ := h
                  refine z_isub d_M_wide_31 c11 ?_
                  obtain ⟨c13, h⟩ := h
                  refine z_mabs d_M_wide_32 kmm_abs_M_285 kms_abs kmi kmc_abs (by decide) (Nat.le_of_ble_eq_true rfl) c13 (fun c12 => ?_) (fun c12 => ?_)
                  · have h := h.1 c12
                    refine z_iload_n (i := 1) 1 d_M_wide_35 rfl rfl ?_
                    refine z_iload_n (i := 2) 2 d_M_wide_36 rfl rfl ?_
                    refine z_cS (as := [(0, a1), (0, a2)]) (d' := 1) (st := [(0, (a1 * a4) - (a3 * a2)), (2, 0)]) d_M_wide_37 mi_M_common ml_M_182 ms_M_common rfl rfl rfl rfl rfl (z_Omono h (fun r0 g0 _ h hro => ?_))
                    show z_U X 2 m_M_wide 40 [(0, (2, 0)), (1, (0, a1)), (2, (0, a2)), (3, (0, a3)), (4, (0, a4))] [(0, r0), (0, (a1 * a4) - (a3 * a2)), (2, 0)] N σ g0 Q
                    obtain ⟨c14, h⟩ := h
                    refine z_idiv d_M_wide_40 c14 ?_
                    refine z_iload_n (i := 3) 3 d_M_wide_41 rfl rfl ?_
                    refine z_iload 4 d_M_wide_42 rfl ?_
                    refine z_cS (as := [(0, a3), (0, a4)]) (d' := 1) (st := [(0, Int.tdiv ((a1 * a4) - (a3 * a2)) r0), (2, 0)]) d_M_wide_44 mi_M_common ml_M_182 ms_M_common rfl rfl rfl rfl rfl (z_Omono h (fun r1 g1 _ h hro => ?_))
                    show z_U X 2 m_M_wide 47 [(0, (2, 0)), (1, (0, a1)), (2, (0, a2)), (3, (0, a3)), (4, (0, a4))] [(0, r1), (0, Int.tdiv ((a1 * a4) - (a3 * a2)) r0), (2, 0)] N σ g1 Q
                    obtain ⟨c15, h⟩ := h
                    refine z_idiv d_M_wide_47 c15 ?_
                    refine z_cV (c := 0) (as := [(0, Int.tdiv (Int.tdiv ((a1 * a4) - (a3 * a2)) r0) r1)]) (d' := 1) (st := []) d_M_wide_48 mi_M_gives ml_M_91 mv_M_gives se_M_gives rfl rfl rfl rfl (ks_M_0 hx) rfl rfl (kl_M_0 hx) rfl rfl (b_M_gives_0 hx ?_)
                    intro _
                    show z_U X 2 m_M_wide 51 [(0, (2, 0)), (1, (0, a1)), (2, (0, a2)), (3, (0, a3)), (4, (0, a4))] [(0, Int.tdiv (Int.tdiv ((a1 * a4) - (a3 * a2)) r0) r1)] N σ (z_up g1 0 1 0) Q
                    exact z_iret d_M_wide_51 rfl (by decide) (by decide) ⟨rfl, rfl, h⟩
                  · have h := h.2 c12
                    refine z_iload_n (i := 1) 1 d_M_wide_35 rfl rfl ?_
                    refine z_iload_n (i := 2) 2 d_M_wide_36 rfl rfl ?_
                    refine z_cS (as := [(0, a1), (0, a2)]) (d' := 1) (st := [(0, -((a1 * a4) - (a3 * a2))), (2, 0)]) d_M_wide_37 mi_M_common ml_M_182 ms_M_common rfl rfl rfl rfl rfl (z_Omono h (fun r2 g2 _ h hro => ?_))
                    show z_U X 2 m_M_wide 40 [(0, (2, 0)), (1, (0, a1)), (2, (0, a2)), (3, (0, a3)), (4, (0, a4))] [(0, r2), (0, -((a1 * a4) - (a3 * a2))), (2, 0)] N σ g2 Q
                    obtain ⟨c16, h⟩ := h
                    refine z_idiv d_M_wide_40 c16 ?_
                    refine z_iload_n (i := 3) 3 d_M_wide_41 rfl rfl ?_
                    refine z_iload 4 d_M_wide_42 rfl ?_
                    refine z_cS (as := [(0, a3), (0, a4)]) (d' := 1) (st := [(0, Int.tdiv (-((a1 * a4) - (a3 * a2))) r2), (2, 0)]) d_M_wide_44 mi_M_common ml_M_182 ms_M_common rfl rfl rfl rfl rfl (z_Omono h (fun r3 g3 _ h hro => ?_))
                    show z_U X 2 m_M_wide 47 [(0, (2, 0)), (1, (0, a1)), (2, (0, a2)), (3, (0, a3)), (4, (0, a4))] [(0, r3), (0, Int.tdiv (-((a1 * a4) - (a3 * a2))) r2), (2, 0)] N σ g3 Q
                    obtain ⟨c17, h⟩ := h
                    refine z_idiv d_M_wide_47 c17 ?_
                    refine z_cV (c := 0) (as := [(0, Int.tdiv (Int.tdiv (-((a1 * a4) - (a3 * a2))) r2) r3)]) (d' := 1) (st := []) d_M_wide_48 mi_M_gives ml_M_91 mv_M_gives se_M_gives rfl rfl rfl rfl (ks_M_0 hx) rfl rfl (kl_M_0 hx) rfl rfl (b_M_gives_0 hx ?_)
                    intro _
                    show z_U X 2 m_M_wide 51 [(0, (2, 0)), (1, (0, a1)), (2, (0, a2)), (3, (0, a3)), (4, (0, a4))] [(0, Int.tdiv (Int.tdiv (-((a1 * a4) - (a3 * a2))) r2) r3)] N σ (z_up g3 0 1 0) Q
                    exact z_iret d_M_wide_51 rfl (by decide) (by decide) ⟨rfl, rfl, h⟩

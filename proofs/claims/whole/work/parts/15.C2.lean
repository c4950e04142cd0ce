theorem d_F_wide_0 : decode (z_c m_F_wide) 0 = .ok (.aload_n 0, 1) := by decide +kernel
theorem d_F_wide_1 : decode (z_c m_F_wide) 1 = .ok (.iload_n 1, 1) := by decide +kernel
theorem d_F_wide_2 : decode (z_c m_F_wide) 2 = .ok (.iload_n 2, 1) := by decide +kernel
theorem d_F_wide_3 : decode (z_c m_F_wide) 3 = .ok (.iload_n 3, 1) := by decide +kernel
theorem d_F_wide_4 : decode (z_c m_F_wide) 4 = .ok (.iload 4, 2) := by decide +kernel
theorem d_F_wide_6 : decode (z_c m_F_wide) 6 = .ok (.invokevirtual 267, 3) := by decide +kernel
theorem d_F_wide_9 : decode (z_c m_F_wide) 9 = .ok (.ifCond .ne 9, 3) := by decide +kernel
theorem d_F_wide_12 : decode (z_c m_F_wide) 12 = .ok (.aload_n 0, 1) := by decide +kernel
theorem d_F_wide_13 : decode (z_c m_F_wide) 13 = .ok (.iconst 1, 1) := by decide +kernel
theorem d_F_wide_14 : decode (z_c m_F_wide) 14 = .ok (.invokevirtual 121, 3) := by decide +kernel
theorem d_F_wide_17 : decode (z_c m_F_wide) 17 = .ok (.ireturn, 1) := by decide +kernel
theorem d_F_wide_18 : decode (z_c m_F_wide) 18 = .ok (.aload_n 0, 1) := by decide +kernel
theorem d_F_wide_19 : decode (z_c m_F_wide) 19 = .ok (.aload_n 0, 1) := by decide +kernel
theorem d_F_wide_20 : decode (z_c m_F_wide) 20 = .ok (.getfield 54, 3) := by decide +kernel
theorem d_F_wide_23 : decode (z_c m_F_wide) 23 = .ok (.getfield 244, 3) := by decide +kernel
theorem d_F_wide_26 : decode (z_c m_F_wide) 26 = .ok (.aload_n 0, 1) := by decide +kernel
theorem d_F_wide_27 : decode (z_c m_F_wide) 27 = .ok (.getfield 54, 3) := by decide +kernel
theorem d_F_wide_30 : decode (z_c m_F_wide) 30 = .ok (.getfield 241, 3) := by decide +kernel
theorem d_F_wide_33 : decode (z_c m_F_wide) 33 = .ok (.aload_n 0, 1) := by decide +kernel
theorem d_F_wide_34 : decode (z_c m_F_wide) 34 = .ok (.getfield 50, 3) := by decide +kernel
theorem d_F_wide_37 : decode (z_c m_F_wide) 37 = .ok (.getfield 244, 3) := by decide +kernel
theorem d_F_wide_40 : decode (z_c m_F_wide) 40 = .ok (.aload_n 0, 1) := by decide +kernel
theorem d_F_wide_41 : decode (z_c m_F_wide) 41 = .ok (.getfield 50, 3) := by decide +kernel
theorem d_F_wide_44 : decode (z_c m_F_wide) 44 = .ok (.getfield 241, 3) := by decide +kernel
theorem d_F_wide_47 : decode (z_c m_F_wide) 47 = .ok (.invokestatic 263, 3) := by decide +kernel
theorem d_F_wide_50 : decode (z_c m_F_wide) 50 = .ok (.l2i, 1) := by decide +kernel
theorem d_F_wide_51 : decode (z_c m_F_wide) 51 = .ok (.invokevirtual 176, 3) := by decide +kernel
theorem d_F_wide_54 : decode (z_c m_F_wide) 54 = .ok (.ireturn, 1) := by decide +kernel
set_option maxRecDepth 8000 in
theorem b_F_wide_0 {X : z_X} {N : Nat} {σ g : z_G} {Q : z_P} {a1 a2 a3 a4 : Int} (hx : z_lay X N σ 0 z_SF z_RF) (h : z_O X 3 m_F_takeRising [(2, 0), (0, a1), (0, a2), (0, a3), (0, a4)] N σ g (fun r0 g0 => (r0 = 0 ∨ r0 = 1) → (((r0 = 0) → Q (-1) (z_up g0 0 0 1)) ∧ (¬ (r0 = 0) → ((-9223372036854775808 ≤ ((g0 20 3) * (g0 18 4)) ∧ ((g0 20 3) * (g0 18 4)) ≤ 9223372036854775807) ∧ ((-9223372036854775808 ≤ ((g0 18 3) * (g0 20 4)) ∧ ((g0 18 3) * (g0 20 4)) ≤ 9223372036854775807) ∧ ((-9223372036854775808 ≤ (((g0 20 3) * (g0 18 4)) - ((g0 18 3) * (g0 20 4))) ∧ (((g0 20 3) * (g0 18 4)) - ((g0 18 3) * (g0 20 4))) ≤ 9223372036854775807) ∧ ((-2147483648 ≤ (((g0 20 3) * (g0 18 4)) - ((g0 18 3) * (g0 20 4))) ∧ (((g0 20 3) * (g0 18 4)) - ((g0 18 3) * (g0 20 4))) ≤ 2147483647) ∧ Q (((g0 20 3) * (g0 18 4)) - ((g0 18 3) * (g0 20 4))) (z_up g0 0 0 0))))))))) : z_O X 4 m_F_wide [(2, 0), (0, a1), (0, a2), (0, a3), (0, a4)] N σ g Q := by
  refine z_Oenter mi_F_wide rfl (fun _ => ?_)
  show z_U X 4 m_F_wide 0 [(0, (2, 0)), (1, (0, a1)), (2, (0, a2)), (3, (0, a3)), (4, (0, a4))] [] N σ g Q
  refine z_aload_n (i := 0) (c := 0) 0 d_F_wide_0 rfl rfl rfl ?_
  refine z_iload_n (i := 1) 1 d_F_wide_1 rfl rfl ?_
  refine z_iload_n (i := 2) 2 d_F_wide_2 rfl rfl ?_
  refine z_iload_n (i := 3) 3 d_F_wide_3 rfl rfl ?_
  refine z_iload 4 d_F_wide_4 rfl ?_
  refine z_cV (c := 0) (as := [(0, a1), (0, a2), (0, a3), (0, a4)]) (d' := 3) (st := []) d_F_wide_6 mi_F_takeRising ml_F_267 mv_F_takeRising se_F_takeRising rfl rfl rfl rfl (ks_F_0 hx) rfl rfl (kl_F_0 hx) rfl rfl (z_Omono h (fun r0 g0 _ h hro => ?_))
  have h := h (z_b01 hro)
  have hzr0 := z_b01 hro
  show z_U X 4 m_F_wide 9 [(0, (2, 0)), (1, (0, a1)), (2, (0, a2)), (3, (0, a3)), (4, (0, a4))] [(0, r0)] N σ g0 Q
  refine z_if_ne (tgt := 18) d_F_wide_9 (by decide) (fun c1 => ?_) (fun c1 => ?_)
  · have h := h.2 c1
    refine z_aload_n (i := 0) (c := 0) 0 d_F_wide_18 rfl rfl rfl ?_
    refine z_aload_n (i := 0) (c := 0) 0 d_F_wide_19 rfl rfl rfl ?_
    refine z_getr (c := 0) (kI := 9) (r2 := 20) d_F_wide_20 fd_F_otherChain fl_F_54 rfl rfl rfl (ks_F_0 hx) (kl_F_0 hx) (kr_F_0_9 hx) ?_
    refine z_geti (c := 20) (kI := 3) d_F_wide_23 fd_Ch_top fl_F_244 (Or.inl rfl) rfl rfl (ks_F_20 hx) (kl_F_20 hx) ?_
    refine z_aload_n (i := 0) (c := 0) 0 d_F_wide_26 rfl rfl rfl ?_
    refine z_getr (c := 0) (kI := 9) (r2 := 20) d_F_wide_27 fd_F_otherChain fl_F_54 rfl rfl rfl (ks_F_0 hx) (kl_F_0 hx) (kr_F_0_9 hx) ?_
    refine z_geti (c := 20) (kI := 4) d_F_wide_30 fd_Ch_bottom fl_F_241 (Or.inl rfl) rfl rfl (ks_F_20 hx) (kl_F_20 hx) ?_
    refine z_aload_n (i := 0) (c := 0) 0 d_F_wide_33 rfl rfl rfl ?_
    refine z_getr (c := 0) (kI := 8) (r2 := 18) d_F_wide_34 fd_F_chain fl_F_50 rfl rfl rfl (ks_F_0 hx) (kl_F_0 hx) (kr_F_0_8 hx) ?_
    refine z_geti (c := 18) (kI := 3) d_F_wide_37 fd_Ch_top fl_F_244 (Or.inl rfl) rfl rfl (ks_F_18 hx) (kl_F_18 hx) ?_
    refine z_aload_n (i := 0) (c := 0) 0 d_F_wide_40 rfl rfl rfl ?_
    refine z_getr (c := 0) (kI := 8) (r2 := 18) d_F_wide_41 fd_F_chain fl_F_50 rfl rfl rfl (ks_F_0 hx) (kl_F_0 hx) (kr_F_0_8 hx) ?_
    refine z_geti (c := 18) (kI := 4) d_F_wide_44 fd_Ch_bottom fl_F_241 (Or.inl rfl) rfl rfl (ks_F_18 hx) (kl_F_18 hx) ?_
    refine z_cS (as := [(0, g0 20 3), (0, g0 20 4), (0, g0 18 3), (0, g0 18 4)]) (d' := 1) (st := [(2, 0)]) d_F_wide_47 mi_F_cross ml_F_263 ms_F_cross rfl rfl rfl rfl rfl (b_F_cross_0  ?_)
    obtain ⟨c2, h⟩ := h
    refine ⟨c2, ?_⟩
    obtain ⟨c3, h⟩ := h
    refine ⟨c3, ?_⟩
    obtain ⟨c4, h⟩ := h
    refine ⟨c4, ?_⟩
    intro _
    show z_U X 4 m_F_wide 50 [(0, (2, 0)), (1, (0, a1)), (2, (0, a2)), (3, (0, a3)), (4, (0, a4))] [(1, ((g0 20 3) * (g0 18 4)) - ((g0 18 3) * (g0 20 4))), (2, 0)] N σ g0 Q
    obtain ⟨c5, h⟩ := h
    refine z_l2i' d_F_wide_50 c5 ?_
    refine z_cV (c := 0) (as := [(0, ((g0 20 3) * (g0 18 4)) - ((g0 18 3) * (g0 20 4)))]) (d' := 1) (st := []) d_F_wide_51 mi_F_give ml_F_176 mv_F_give se_F_give rfl rfl rfl rfl (ks_F_0 hx) rfl rfl (kl_F_0 hx) rfl rfl (b_F_give_0 hx ?_)
    intro _
    show z_U X 4 m_F_wide 54 [(0, (2, 0)), (1, (0, a1)), (2, (0, a2)), (3, (0, a3)), (4, (0, a4))] [(0, ((g0 20 3) * (g0 18 4)) - ((g0 18 3) * (g0 20 4)))] N σ (z_up g0 0 0 0) Q
    exact z_iret d_F_wide_54 rfl (by decide) (by decide) ⟨rfl, rfl, h⟩
  · have h := h.1 c1
    refine z_aload_n (i := 0) (c := 0) 0 d_F_wide_12 rfl rfl rfl ?_
    refine z_iconst (n := 1) d_F_wide_13 (by decide) ?_
    refine z_cV (c := 0) (as := [(0, 1)]) (d' := 1) (st := []) d_F_wide_14 mi_F_none ml_F_121 mv_F_none se_F_none rfl rfl rfl rfl (ks_F_0 hx) rfl rfl (kl_F_0 hx) rfl rfl (b_F_none_0 hx ?_)
    intro _
    show z_U X 4 m_F_wide 17 [(0, (2, 0)), (1, (0, a1)), (2, (0, a2)), (3, (0, a3)), (4, (0, a4))] [(0, (-1))] N σ (z_up g0 0 0 1) Q
    exact z_iret d_F_wide_17 rfl (by decide) (by decide) ⟨rfl, rfl, h⟩
theorem d_Pa_readCompare_0 : decode (z_c m_Pa_readCompare) 0 = .ok (.aload_n 0, 1) := by decide +kernel
theorem d_Pa_readCompare_1 : decode (z_c m_Pa_readCompare) 1 = .ok (.bipush 61, 2) := by decide +kernel
theorem d_Pa_readCompare_3 : decode (z_c m_Pa_readCompare) 3 = .ok (.putfield 207, 3) := by decide +kernel
theorem d_Pa_readCompare_6 : decode (z_c m_Pa_readCompare) 6 = .ok (.aload_n 0, 1) := by decide +kernel
theorem d_Pa_readCompare_7 : decode (z_c m_Pa_readCompare) 7 = .ok (.getfield 12, 3) := by decide +kernel
theorem d_Pa_readCompare_10 : decode (z_c m_Pa_readCompare) 10 = .ok (.bipush 60, 2) := by decide +kernel
theorem d_Pa_readCompare_12 : decode (z_c m_Pa_readCompare) 12 = .ok (.invokevirtual 244, 3) := by decide +kernel
theorem d_Pa_readCompare_15 : decode (z_c m_Pa_readCompare) 15 = .ok (.ifCond .eq 12, 3) := by decide +kernel
theorem d_Pa_readCompare_18 : decode (z_c m_Pa_readCompare) 18 = .ok (.aload_n 0, 1) := by decide +kernel
theorem d_Pa_readCompare_19 : decode (z_c m_Pa_readCompare) 19 = .ok (.bipush 60, 2) := by decide +kernel
theorem d_Pa_readCompare_21 : decode (z_c m_Pa_readCompare) 21 = .ok (.putfield 207, 3) := by decide +kernel
theorem d_Pa_readCompare_24 : decode (z_c m_Pa_readCompare) 24 = .ok (.goto 21, 3) := by decide +kernel
theorem d_Pa_readCompare_27 : decode (z_c m_Pa_readCompare) 27 = .ok (.aload_n 0, 1) := by decide +kernel
theorem d_Pa_readCompare_28 : decode (z_c m_Pa_readCompare) 28 = .ok (.getfield 12, 3) := by decide +kernel
theorem d_Pa_readCompare_31 : decode (z_c m_Pa_readCompare) 31 = .ok (.bipush 62, 2) := by decide +kernel
theorem d_Pa_readCompare_33 : decode (z_c m_Pa_readCompare) 33 = .ok (.invokevirtual 244, 3) := by decide +kernel
theorem d_Pa_readCompare_36 : decode (z_c m_Pa_readCompare) 36 = .ok (.ifCond .eq 9, 3) := by decide +kernel
theorem d_Pa_readCompare_39 : decode (z_c m_Pa_readCompare) 39 = .ok (.aload_n 0, 1) := by decide +kernel
theorem d_Pa_readCompare_40 : decode (z_c m_Pa_readCompare) 40 = .ok (.bipush 62, 2) := by decide +kernel
theorem d_Pa_readCompare_42 : decode (z_c m_Pa_readCompare) 42 = .ok (.putfield 207, 3) := by decide +kernel
theorem d_Pa_readCompare_45 : decode (z_c m_Pa_readCompare) 45 = .ok (.aload_n 0, 1) := by decide +kernel
theorem d_Pa_readCompare_46 : decode (z_c m_Pa_readCompare) 46 = .ok (.getfield 12, 3) := by decide +kernel
theorem d_Pa_readCompare_49 : decode (z_c m_Pa_readCompare) 49 = .ok (.aload_n 0, 1) := by decide +kernel
theorem d_Pa_readCompare_50 : decode (z_c m_Pa_readCompare) 50 = .ok (.getfield 207, 3) := by decide +kernel
theorem d_Pa_readCompare_53 : decode (z_c m_Pa_readCompare) 53 = .ok (.i2c, 1) := by decide +kernel
theorem d_Pa_readCompare_54 : decode (z_c m_Pa_readCompare) 54 = .ok (.invokevirtual 79, 3) := by decide +kernel
theorem d_Pa_readCompare_57 : decode (z_c m_Pa_readCompare) 57 = .ok (.ifCond .eq 17, 3) := by decide +kernel
theorem d_Pa_readCompare_60 : decode (z_c m_Pa_readCompare) 60 = .ok (.aload_n 0, 1) := by decide +kernel
theorem d_Pa_readCompare_61 : decode (z_c m_Pa_readCompare) 61 = .ok (.getfield 12, 3) := by decide +kernel
theorem d_Pa_readCompare_64 : decode (z_c m_Pa_readCompare) 64 = .ok (.iconst 0, 1) := by decide +kernel
theorem d_Pa_readCompare_65 : decode (z_c m_Pa_readCompare) 65 = .ok (.sipush 9999, 3) := by decide +kernel
theorem d_Pa_readCompare_68 : decode (z_c m_Pa_readCompare) 68 = .ok (.invokevirtual 112, 3) := by decide +kernel
theorem d_Pa_readCompare_71 : decode (z_c m_Pa_readCompare) 71 = .ok (.ifCond .ne 5, 3) := by decide +kernel
theorem d_Pa_readCompare_74 : decode (z_c m_Pa_readCompare) 74 = .ok (.iconst 0, 1) := by decide +kernel
theorem d_Pa_readCompare_75 : decode (z_c m_Pa_readCompare) 75 = .ok (.ireturn, 1) := by decide +kernel
theorem d_Pa_readCompare_76 : decode (z_c m_Pa_readCompare) 76 = .ok (.aload_n 0, 1) := by decide +kernel
theorem d_Pa_readCompare_77 : decode (z_c m_Pa_readCompare) 77 = .ok (.aload_n 0, 1) := by decide +kernel
theorem d_Pa_readCompare_78 : decode (z_c m_Pa_readCompare) 78 = .ok (.getfield 12, 3) := by decide +kernel
theorem d_Pa_readCompare_81 : decode (z_c m_Pa_readCompare) 81 = .ok (.getfield 115, 3) := by decide +kernel
theorem d_Pa_readCompare_84 : decode (z_c m_Pa_readCompare) 84 = .ok (.putfield 210, 3) := by decide +kernel
theorem d_Pa_readCompare_87 : decode (z_c m_Pa_readCompare) 87 = .ok (.iconst 1, 1) := by decide +kernel
theorem d_Pa_readCompare_88 : decode (z_c m_Pa_readCompare) 88 = .ok (.ireturn, 1) := by decide +kernel
set_option maxRecDepth 8000 in
theorem b_Pa_readCompare_0 {X : z_X} {N : Nat} {σ g : z_G} {Q : z_P} (hx : z_lay X N σ 0 z_SF z_RF) (h : ((((z_up g 9 8 61) 10 4) = 3) → (((900 ≤ ((z_up g 9 8 61) 10 6)) → (z_O X 3 m_Ta_passSign [(2, 10), (0, Int32.toInt ((Int32.ofInt 61).toUInt32 % 65536).toInt32)] N σ (z_up g 9 8 61) (fun r0 g0 => (r0 = 0 ∨ r0 = 1) → (((r0 = 0) → Q 0 g0) ∧ (¬ (r0 = 0) → (z_O X 3 m_Ta_passNumber [(2, 10), (0, 0), (0, 9999)] N σ g0 (fun r1 g1 => (r1 = 0 ∨ r1 = 1) → (((r1 = 0) → Q 0 g1) ∧ (¬ (r1 = 0) → Q 1 (z_up g1 9 9 (g1 10 7))))))))))) ∧ (¬ (900 ≤ ((z_up g 9 8 61) 10 6)) → ((0 ≤ ((z_up g 9 8 61) 10 6) ∧ ((z_up g 9 8 61) 10 6) < 900) ∧ (((((z_up g 9 8 61) 11 ((z_up g 9 8 61) 10 6)) = 60) → (z_O X 3 m_Ta_passSign [(2, 10), (0, Int32.toInt ((Int32.ofInt 60).toUInt32 % 65536).toInt32)] N σ (z_up (z_up g 9 8 61) 9 8 60) (fun r2 g2 => (r2 = 0 ∨ r2 = 1) → (((r2 = 0) → Q 0 g2) ∧ (¬ (r2 = 0) → (z_O X 3 m_Ta_passNumber [(2, 10), (0, 0), (0, 9999)] N σ g2 (fun r3 g3 => (r3 = 0 ∨ r3 = 1) → (((r3 = 0) → Q 0 g3) ∧ (¬ (r3 = 0) → Q 1 (z_up g3 9 9 (g3 10 7))))))))))) ∧ (¬ (((z_up g 9 8 61) 11 ((z_up g 9 8 61) 10 6)) = 60) → (((((z_up g 9 8 61) 11 ((z_up g 9 8 61) 10 6)) = 62) → (z_O X 3 m_Ta_passSign [(2, 10), (0, Int32.toInt ((Int32.ofInt 62).toUInt32 % 65536).toInt32)] N σ (z_up (z_up g 9 8 61) 9 8 62) (fun r4 g4 => (r4 = 0 ∨ r4 = 1) → (((r4 = 0) → Q 0 g4) ∧ (¬ (r4 = 0) → (z_O X 3 m_Ta_passNumber [(2, 10), (0, 0), (0, 9999)] N σ g4 (fun r5 g5 => (r5 = 0 ∨ r5 = 1) → (((r5 = 0) → Q 0 g5) ∧ (¬ (r5 = 0) → Q 1 (z_up g5 9 9 (g5 10 7))))))))))) ∧ (¬ (((z_up g 9 8 61) 11 ((z_up g 9 8 61) 10 6)) = 62) → (z_O X 3 m_Ta_passSign [(2, 10), (0, Int32.toInt ((Int32.ofInt 61).toUInt32 % 65536).toInt32)] N σ (z_up g 9 8 61) (fun r6 g6 => (r6 = 0 ∨ r6 = 1) → (((r6 = 0) → Q 0 g6) ∧ (¬ (r6 = 0) → (z_O X 3 m_Ta_passNumber [(2, 10), (0, 0), (0, 9999)] N σ g6 (fun r7 g7 => (r7 = 0 ∨ r7 = 1) → (((r7 = 0) → Q 0 g7) ∧ (¬ (r7 = 0) → Q 1 (z_up g7 9 9 (g7 10 7)))))))))))))))))) ∧ (¬ (((z_up g 9 8 61) 10 4) = 3) → (z_O X 3 m_Ta_passSign [(2, 10), (0, Int32.toInt ((Int32.ofInt 61).toUInt32 % 65536).toInt32)] N σ (z_up g 9 8 61) (fun r8 g8 => (r8 = 0 ∨ r8 = 1) → (((r8 = 0) → Q 0 g8) ∧ (¬ (r8 = 0) → (z_O X 3 m_Ta_passNumber [(2, 10), (0, 0), (0, 9999)] N σ g8 (fun r9 g9 => (r9 = 0 ∨ r9 = 1) → (((r9 = 0) → Q 0 g9) ∧ (¬ (r9 = 0) → Q 1 (z_up g9 9 9 (g9 10 7)))))))))))) : z_O X 4 m_Pa_readCompare [(2, 9)] N σ g Q := by
  refine z_Oenter mi_Pa_readCompare rfl (fun _ => ?_)
  show z_U X 4 m_Pa_readCompare 0 [(0, (2, 9))] [] N σ g Q
  refine z_aload_n (i := 0) (c := 9) 0 d_Pa_readCompare_0 rfl rfl rfl ?_
  refine z_bipush (n := 61) d_Pa_readCompare_1 (by decide) (by decide) ?_
  refine z_puti (c := 9) (kI := 8) d_Pa_readCompare_3 fd_Pa_first fl_Pa_207 pf_Pa_first rfl rfl rfl rfl (ks_F_9 hx) (kl_F_9 hx) ?_
  refine z_aload_n (i := 0) (c := 9) 0 d_Pa_readCompare_6 rfl rfl rfl ?_
  refine z_getr (c := 9) (kI := 0) (r2 := 10) d_Pa_readCompare_7 fd_Pa_tape fl_Pa_12 rfl rfl rfl (ks_F_9 hx) (kl_F_9 hx) (kr_F_9_0 hx) ?_
  refine z_bipush (n := 60) d_Pa_readCompare_10 (by decide) (by decide) ?_
  refine z_cV (c := 10) (as := [(0, 60)]) (d' := 1) (st := []) d_Pa_readCompare_12 mi_Ta_isThisSign ml_Pa_244 mv_Ta_isThisSign se_Ta_isThisSign rfl rfl rfl rfl (ks_F_10 hx) rfl rfl (kl_F_10 hx) rfl rfl (b_Ta_isThisSign_0 hx ?_)
  refine ⟨fun c1 => ?_, fun c1 => ?_⟩
  · have h := h.1 c1
    refine ⟨fun c2 => ?_, fun c2 => ?_⟩
    · have h := h.1 c2
      intro _
      show z_U X 4 m_Pa_readCompare 15 [(0, (2, 9))] [(0, 0)] N σ (z_up g 9 8 61) Q
      refine z_if_eq (tgt := 27) d_Pa_readCompare_15 (by decide) (fun _ => ?_) (fun c => absurd (by decide) c)
      refine z_aload_n (i := 0) (c := 9) 0 d_Pa_readCompare_27 rfl rfl rfl ?_
      refine z_getr (c := 9) (kI := 0) (r2 := 10) d_Pa_readCompare_28 fd_Pa_tape fl_Pa_12 rfl rfl rfl (ks_F_9 hx) (kl_F_9 hx) (kr_F_9_0 hx) ?_
      refine z_bipush (n := 62) d_Pa_readCompare_31 (by decide) (by decide) ?_
      refine z_cV (c := 10) (as := [(0, 62)]) (d' := 1) (st := []) d_Pa_readCompare_33 mi_Ta_isThisSign ml_Pa_244 mv_Ta_isThisSign se_Ta_isThisSign rfl rfl rfl rfl (ks_F_10 hx) rfl rfl (kl_F_10 hx) rfl rfl (b_Ta_isThisSign_0 hx ?_)
      refine ⟨fun _ => ?_, fun c => absurd c1 c⟩
      refine ⟨fun _ => ?_, fun c => absurd c2 c⟩
      intro _
      show z_U X 4 m_Pa_readCompare 36 [(0, (2, 9))] [(0, 0)] N σ (z_up g 9 8 61) Q
      refine z_if_eq (tgt := 45) d_Pa_readCompare_36 (by decide) (fun _ => ?_) (fun c => absurd (by decide) c)
      refine z_aload_n (i := 0) (c := 9) 0 d_Pa_readCompare_45 rfl rfl rfl ?_
      refine z_getr (c := 9) (kI := 0) (r2 := 10) d_Pa_readCompare_46 fd_Pa_tape fl_Pa_12 rfl rfl rfl (ks_F_9 hx) (kl_F_9 hx) (kr_F_9_0 hx) ?_
      refine z_aload_n (i := 0) (c := 9) 0 d_Pa_readCompare_49 rfl rfl rfl ?_
      refine z_geti (c := 9) (kI := 8) d_Pa_readCompare_50 fd_Pa_first fl_Pa_207 (Or.inl rfl) rfl rfl (ks_F_9 hx) (kl_F_9 hx) ?_
      refine z_ti (b := 61) (by simp [z_up]) ?_
      refine z_i2c d_Pa_readCompare_53 ?_
      refine z_cV (c := 10) (as := [(0, Int32.toInt ((Int32.ofInt 61).toUInt32 % 65536).toInt32)]) (d' := 3) (st := []) d_Pa_readCompare_54 mi_Ta_passSign ml_Pa_79 mv_Ta_passSign se_Ta_passSign rfl rfl rfl rfl (ks_F_10 hx) rfl rfl (kl_F_10 hx) rfl rfl (z_Omono h (fun r0 g0 _ h hro => ?_))
      have h := h (z_b01 hro)
      have hzr0 := z_b01 hro
      show z_U X 4 m_Pa_readCompare 57 [(0, (2, 9))] [(0, r0)] N σ g0 Q
      refine z_if_eq (tgt := 74) d_Pa_readCompare_57 (by decide) (fun c3 => ?_) (fun c3 => ?_)
      · have h := h.1 c3
        refine z_iconst (n := 0) d_Pa_readCompare_74 (by decide) ?_
        exact z_zret d_Pa_readCompare_75 rfl (by decide) (by decide) (by decide) ⟨rfl, rfl, h⟩
      · have h := h.2 c3
        refine z_aload_n (i := 0) (c := 9) 0 d_Pa_readCompare_60 rfl rfl rfl ?_
        refine z_getr (c := 9) (kI := 0) (r2 := 10) d_Pa_readCompare_61 fd_Pa_tape fl_Pa_12 rfl rfl rfl (ks_F_9 hx) (kl_F_9 hx) (kr_F_9_0 hx) ?_
        refine z_iconst (n := 0) d_Pa_readCompare_64 (by decide) ?_
        refine z_sipush (n := 9999) d_Pa_readCompare_65 (by decide) (by decide) ?_
        refine z_cV (c := 10) (as := [(0, 0), (0, 9999)]) (d' := 3) (st := []) d_Pa_readCompare_68 mi_Ta_passNumber ml_Pa_112 mv_Ta_passNumber se_Ta_passNumber rfl rfl rfl rfl (ks_F_10 hx) rfl rfl (kl_F_10 hx) rfl rfl (z_Omono h (fun r1 g1 _ h hro => ?_))
        have h := h (z_b01 hro)
        have hzr1 := z_b01 hro
        show z_U X 4 m_Pa_readCompare 71 [(0, (2, 9))] [(0, r1)] N σ g1 Q
        refine z_if_ne (tgt := 76) d_Pa_readCompare_71 (by decide) (fun c4 => ?_) (fun c4 => ?_)
        · have h := h.2 c4
          refine z_aload_n (i := 0) (c := 9) 0 d_Pa_readCompare_76 rfl rfl rfl ?_
          refine z_aload_n (i := 0) (c := 9) 0 d_Pa_readCompare_77 rfl rfl rfl ?_
          refine z_getr (c := 9) (kI := 0) (r2 := 10) d_Pa_readCompare_78 fd_Pa_tape fl_Pa_12 rfl rfl rfl (ks_F_9 hx) (kl_F_9 hx) (kr_F_9_0 hx) ?_
          refine z_geti (c := 10) (kI := 7) d_Pa_readCompare_81 fd_Ta_number fl_Pa_115 (Or.inl rfl) rfl rfl (ks_F_10 hx) (kl_F_10 hx) ?_
          refine z_puti (c := 9) (kI := 9) d_Pa_readCompare_84 fd_Pa_second fl_Pa_210 pf_Pa_second rfl rfl rfl rfl (ks_F_9 hx) (kl_F_9 hx) ?_
          refine z_iconst (n := 1) d_Pa_readCompare_87 (by decide) ?_
          exact z_zret d_Pa_readCompare_88 rfl (by decide) (by decide) (by decide) ⟨rfl, rfl, h⟩
        · have h := h.1 c4
          refine z_iconst (n := 0) d_Pa_readCompare_74 (by decide) ?_
          exact z_zret d_Pa_readCompare_75 rfl (by decide) (by decide) (by decide) ⟨rfl, rfl, h⟩
    · have h := h.2 c2
      obtain ⟨c5, h⟩ := h
      refine ⟨c5, ?_⟩
      refine ⟨fun c6 => ?_, fun c6 => ?_⟩
      · have h := h.1 c6
        intro _
        show z_U X 4 m_Pa_readCompare 15 [(0, (2, 9))] [(0, 1)] N σ (z_up g 9 8 61) Q
        refine z_if_eq (tgt := 27) d_Pa_readCompare_15 (by decide) (fun c => absurd c (by decide)) (fun _ => ?_)
        refine z_aload_n (i := 0) (c := 9) 0 d_Pa_readCompare_18 rfl rfl rfl ?_
        refine z_bipush (n := 60) d_Pa_readCompare_19 (by decide) (by decide) ?_
        refine z_puti (c := 9) (kI := 8) d_Pa_readCompare_21 fd_Pa_first fl_Pa_207 pf_Pa_first rfl rfl rfl rfl (ks_F_9 hx) (kl_F_9 hx) ?_
        refine z_goto (tgt := 45) d_Pa_readCompare_24 (by decide) ?_
        refine z_aload_n (i := 0) (c := 9) 0 d_Pa_readCompare_45 rfl rfl rfl ?_
        refine z_getr (c := 9) (kI := 0) (r2 := 10) d_Pa_readCompare_46 fd_Pa_tape fl_Pa_12 rfl rfl rfl (ks_F_9 hx) (kl_F_9 hx) (kr_F_9_0 hx) ?_
        refine z_aload_n (i := 0) (c := 9) 0 d_Pa_readCompare_49 rfl rfl rfl ?_
        refine z_geti (c := 9) (kI := 8) d_Pa_readCompare_50 fd_Pa_first fl_Pa_207 (Or.inl rfl) rfl rfl (ks_F_9 hx) (kl_F_9 hx) ?_
        refine z_ti (b := 60) (by simp [z_up]) ?_
        refine z_i2c d_Pa_readCompare_53 ?_
        refine z_cV (c := 10) (as := [(0, Int32.toInt ((Int32.ofInt 60).toUInt32 % 65536).toInt32)]) (d' := 3) (st := []) d_Pa_readCompare_54 mi_Ta_passSign ml_Pa_79 mv_Ta_passSign se_Ta_passSign rfl rfl rfl rfl (ks_F_10 hx) rfl rfl (kl_F_10 hx) rfl rfl (z_Omono h (fun r2 g2 _ h hro => ?_))
        have h := h (z_b01 hro)
        have hzr2 := z_b01 hro
        show z_U X 4 m_Pa_readCompare 57 [(0, (2, 9))] [(0, r2)] N σ g2 Q
        refine z_if_eq (tgt := 74) d_Pa_readCompare_57 (by decide) (fun c7 => ?_) (fun c7 => ?_)
        · have h := h.1 c7
          refine z_iconst (n := 0) d_Pa_readCompare_74 (by decide) ?_
          exact z_zret d_Pa_readCompare_75 rfl (by decide) (by decide) (by decide) ⟨rfl, rfl, h⟩
        · have h := h.2 c7
          refine z_aload_n (i := 0) (c := 9) 0 d_Pa_readCompare_60 rfl rfl rfl ?_
          refine z_getr (c := 9) (kI := 0) (r2 := 10) d_Pa_readCompare_61 fd_Pa_tape fl_Pa_12 rfl rfl rfl (ks_F_9 hx) (kl_F_9 hx) (kr_F_9_0 hx) ?_
          refine z_iconst (n := 0) d_Pa_readCompare_64 (by decide) ?_
          refine z_sipush (n := 9999) d_Pa_readCompare_65 (by decide) (by decide) ?_
          refine z_cV (c := 10) (as := [(0, 0), (0, 9999)]) (d' := 3) (st := []) d_Pa_readCompare_68 mi_Ta_passNumber ml_Pa_112 mv_Ta_passNumber se_Ta_passNumber rfl rfl rfl rfl (ks_F_10 hx) rfl rfl (kl_F_10 hx) rfl rfl (z_Omono h (fun r3 g3 _ h hro => ?_))
          have h := h (z_b01 hro)
          have hzr3 := z_b01 hro
          show z_U X 4 m_Pa_readCompare 71 [(0, (2, 9))] [(0, r3)] N σ g3 Q
          refine z_if_ne (tgt := 76) d_Pa_readCompare_71 (by decide) (fun c8 => ?_) (fun c8 => ?_)
          · have h := h.2 c8
            refine z_aload_n (i := 0) (c := 9) 0 d_Pa_readCompare_76 rfl rfl rfl ?_
            refine z_aload_n (i := 0) (c := 9) 0 d_Pa_readCompare_77 rfl rfl rfl ?_
            refine z_getr (c := 9) (kI := 0) (r2 := 10) d_Pa_readCompare_78 fd_Pa_tape fl_Pa_12 rfl rfl rfl (ks_F_9 hx) (kl_F_9 hx) (kr_F_9_0 hx) ?_
            refine z_geti (c := 10) (kI := 7) d_Pa_readCompare_81 fd_Ta_number fl_Pa_115 (Or.inl rfl) rfl rfl (ks_F_10 hx) (kl_F_10 hx) ?_
            refine z_puti (c := 9) (kI := 9) d_Pa_readCompare_84 fd_Pa_second fl_Pa_210 pf_Pa_second rfl rfl rfl rfl (ks_F_9 hx) (kl_F_9 hx) ?_
            refine z_iconst (n := 1) d_Pa_readCompare_87 (by decide) ?_
            exact z_zret d_Pa_readCompare_88 rfl (by decide) (by decide) (by decide) ⟨rfl, rfl, h⟩
          · have h := h.1 c8
            refine z_iconst (n := 0) d_Pa_readCompare_74 (by decide) ?_
            exact z_zret d_Pa_readCompare_75 rfl (by decide) (by decide) (by decide) ⟨rfl, rfl, h⟩
      · have h := h.2 c6
        intro _
        show z_U X 4 m_Pa_readCompare 15 [(0, (2, 9))] [(0, 0)] N σ (z_up g 9 8 61) Q
        refine z_if_eq (tgt := 27) d_Pa_readCompare_15 (by decide) (fun _ => ?_) (fun c => absurd (by decide) c)
        refine z_aload_n (i := 0) (c := 9) 0 d_Pa_readCompare_27 rfl rfl rfl ?_
        refine z_getr (c := 9) (kI := 0) (r2 := 10) d_Pa_readCompare_28 fd_Pa_tape fl_Pa_12 rfl rfl rfl (ks_F_9 hx) (kl_F_9 hx) (kr_F_9_0 hx) ?_
        refine z_bipush (n := 62) d_Pa_readCompare_31 (by decide) (by decide) ?_
        refine z_cV (c := 10) (as := [(0, 62)]) (d' := 1) (st := []) d_Pa_readCompare_33 mi_Ta_isThisSign ml_Pa_244 mv_Ta_isThisSign se_Ta_isThisSign rfl rfl rfl rfl (ks_F_10 hx) rfl rfl (kl_F_10 hx) rfl rfl (b_Ta_isThisSign_0 hx ?_)
        refine ⟨fun _ => ?_, fun c => absurd c1 c⟩
        refine ⟨fun c => absurd c c2, fun _ => ?_⟩
        refine ⟨c5, ?_⟩
        refine ⟨fun c9 => ?_, fun c9 => ?_⟩
        · have h := h.1 c9
          intro _
          show z_U X 4 m_Pa_readCompare 36 [(0, (2, 9))] [(0, 1)] N σ (z_up g 9 8 61) Q
          refine z_if_eq (tgt := 45) d_Pa_readCompare_36 (by decide) (fun c => absurd c (by decide)) (fun _ => ?_)
          refine z_aload_n (i := 0) (c := 9) 0 d_Pa_readCompare_39 rfl rfl rfl ?_
          refine z_bipush (n := 62) d_Pa_readCompare_40 (by decide) (by decide) ?_
          refine z_puti (c := 9) (kI := 8) d_Pa_readCompare_42 fd_Pa_first fl_Pa_207 pf_Pa_first rfl rfl rfl rfl (ks_F_9 hx) (kl_F_9 hx) ?_
          refine z_aload_n (i := 0) (c := 9) 0 d_Pa_readCompare_45 rfl rfl rfl ?_
          refine z_getr (c := 9) (kI := 0) (r2 := 10) d_Pa_readCompare_46 fd_Pa_tape fl_Pa_12 rfl rfl rfl (ks_F_9 hx) (kl_F_9 hx) (kr_F_9_0 hx) ?_
          refine z_aload_n (i := 0) (c := 9) 0 d_Pa_readCompare_49 rfl rfl rfl ?_
          refine z_geti (c := 9) (kI := 8) d_Pa_readCompare_50 fd_Pa_first fl_Pa_207 (Or.inl rfl) rfl rfl (ks_F_9 hx) (kl_F_9 hx) ?_
          refine z_ti (b := 62) (by simp [z_up]) ?_
          refine z_i2c d_Pa_readCompare_53 ?_
          refine z_cV (c := 10) (as := [(0, Int32.toInt ((Int32.ofInt 62).toUInt32 % 65536).toInt32)]) (d' := 3) (st := []) d_Pa_readCompare_54 mi_Ta_passSign ml_Pa_79 mv_Ta_passSign se_Ta_passSign rfl rfl rfl rfl (ks_F_10 hx) rfl rfl (kl_F_10 hx) rfl rfl (z_Omono h (fun r4 g4 _ h hro => ?_))
          have h := h (z_b01 hro)
          have hzr4 := z_b01 hro
          show z_U X 4 m_Pa_readCompare 57 [(0, (2, 9))] [(0, r4)] N σ g4 Q
          refine z_if_eq (tgt := 74) d_Pa_readCompare_57 (by decide) (fun c10 => ?_) (fun c10 => ?_)
          · have h := h.1 c10
            refine z_iconst (n := 0) d_Pa_readCompare_74 (by decide) ?_
            exact z_zret d_Pa_readCompare_75 rfl (by decide) (by decide) (by decide) ⟨rfl, rfl, h⟩
          · have h := h.2 c10
            refine z_aload_n (i := 0) (c := 9) 0 d_Pa_readCompare_60 rfl rfl rfl ?_
            refine z_getr (c := 9) (kI := 0) (r2 := 10) d_Pa_readCompare_61 fd_Pa_tape fl_Pa_12 rfl rfl rfl (ks_F_9 hx) (kl_F_9 hx) (kr_F_9_0 hx) ?_
            refine z_iconst (n := 0) d_Pa_readCompare_64 (by decide) ?_
            refine z_sipush (n := 9999) d_Pa_readCompare_65 (by decide) (by decide) ?_
            refine z_cV (c := 10) (as := [(0, 0), (0, 9999)]) (d' := 3) (st := []) d_Pa_readCompare_68 mi_Ta_passNumber ml_Pa_112 mv_Ta_passNumber se_Ta_passNumber rfl rfl rfl rfl (ks_F_10 hx) rfl rfl (kl_F_10 hx) rfl rfl (z_Omono h (fun r5 g5 _ h hro => ?_))
            have h := h (z_b01 hro)
            have hzr5 := z_b01 hro
            show z_U X 4 m_Pa_readCompare 71 [(0, (2, 9))] [(0, r5)] N σ g5 Q
            refine z_if_ne (tgt := 76) d_Pa_readCompare_71 (by decide) (fun c11 => ?_) (fun c11 => ?_)
            · have h := h.2 c11
              refine z_aload_n (i := 0) (c := 9) 0 d_Pa_readCompare_76 rfl rfl rfl ?_
              refine z_aload_n (i := 0) (c := 9) 0 d_Pa_readCompare_77 rfl rfl rfl ?_
              refine z_getr (c := 9) (kI := 0) (r2 := 10) d_Pa_readCompare_78 fd_Pa_tape fl_Pa_12 rfl rfl rfl (ks_F_9 hx) (kl_F_9 hx) (kr_F_9_0 hx) ?_
              refine z_geti (c := 10) (kI := 7) d_Pa_readCompare_81 fd_Ta_number fl_Pa_115 (Or.inl rfl) rfl rfl (ks_F_10 hx) (kl_F_10 hx) ?_
              refine z_puti (c := 9) (kI := 9) d_Pa_readCompare_84 fd_Pa_second fl_Pa_210 pf_Pa_second rfl rfl rfl rfl (ks_F_9 hx) (kl_F_9 hx) ?_
              refine z_iconst (n := 1) d_Pa_readCompare_87 (by decide) ?_
              exact z_zret d_Pa_readCompare_88 rfl (by decide) (by decide) (by decide) ⟨rfl, rfl, h⟩
            · have h := h.1 c11
              refine z_iconst (n := 0) d_Pa_readCompare_74 (by decide) ?_
              exact z_zret d_Pa_readCompare_75 rfl (by decide) (by decide) (by decide) ⟨rfl, rfl, h⟩
        · have h := h.2 c9
          intro _
          show z_U X 4 m_Pa_readCompare 36 [(0, (2, 9))] [(0, 0)] N σ (z_up g 9 8 61) Q
          refine z_if_eq (tgt := 45) d_Pa_readCompare_36 (by decide) (fun _ => ?_) (fun c => absurd (by decide) c)
          refine z_aload_n (i := 0) (c := 9) 0 d_Pa_readCompare_45 rfl rfl rfl ?_
          refine z_getr (c := 9) (kI := 0) (r2 := 10) d_Pa_readCompare_46 fd_Pa_tape fl_Pa_12 rfl rfl rfl (ks_F_9 hx) (kl_F_9 hx) (kr_F_9_0 hx) ?_
          refine z_aload_n (i := 0) (c := 9) 0 d_Pa_readCompare_49 rfl rfl rfl ?_
          refine z_geti (c := 9) (kI := 8) d_Pa_readCompare_50 fd_Pa_first fl_Pa_207 (Or.inl rfl) rfl rfl (ks_F_9 hx) (kl_F_9 hx) ?_
          refine z_ti (b := 61) (by simp [z_up]) ?_
          refine z_i2c d_Pa_readCompare_53 ?_
          refine z_cV (c := 10) (as := [(0, Int32.toInt ((Int32.ofInt 61).toUInt32 % 65536).toInt32)]) (d' := 3) (st := []) d_Pa_readCompare_54 mi_Ta_passSign ml_Pa_79 mv_Ta_passSign se_Ta_passSign rfl rfl rfl rfl (ks_F_10 hx) rfl rfl (kl_F_10 hx) rfl rfl (z_Omono h (fun r6 g6 _ h hro => ?_))
          have h := h (z_b01 hro)
          have hzr6 := z_b01 hro
          show z_U X 4 m_Pa_readCompare 57 [(0, (2, 9))] [(0, r6)] N σ g6 Q
          refine z_if_eq (tgt := 74) d_Pa_readCompare_57 (by decide) (fun c12 => ?_) (fun c12 => ?_)
          · have h := h.1 c12
            refine z_iconst (n := 0) d_Pa_readCompare_74 (by decide) ?_
            exact z_zret d_Pa_readCompare_75 rfl (by decide) (by decide) (by decide) ⟨rfl, rfl, h⟩
          · have h := h.2 c12
            refine z_aload_n (i := 0) (c := 9) 0 d_Pa_readCompare_60 rfl rfl rfl ?_
            refine z_getr (c := 9) (kI := 0) (r2 := 10) d_Pa_readCompare_61 fd_Pa_tape fl_Pa_12 rfl rfl rfl (ks_F_9 hx) (kl_F_9 hx) (kr_F_9_0 hx) ?_
            refine z_iconst (n := 0) d_Pa_readCompare_64 (by decide) ?_
            refine z_sipush (n := 9999) d_Pa_readCompare_65 (by decide) (by decide) ?_
            refine z_cV (c := 10) (as := [(0, 0), (0, 9999)]) (d' := 3) (st := []) d_Pa_readCompare_68 mi_Ta_passNumber ml_Pa_112 mv_Ta_passNumber se_Ta_passNumber rfl rfl rfl rfl (ks_F_10 hx) rfl rfl (kl_F_10 hx) rfl rfl (z_Omono h (fun r7 g7 _ h hro => ?_))
            have h := h (z_b01 hro)
            have hzr7 := z_b01 hro
            show z_U X 4 m_Pa_readCompare 71 [(0, (2, 9))] [(0, r7)] N σ g7 Q
            refine z_if_ne (tgt := 76) d_Pa_readCompare_71 (by decide) (fun c13 => ?_) (fun c13 => ?_)
            · have h := h.2 c13
              refine z_aload_n (i := 0) (c := 9) 0 d_Pa_readCompare_76 rfl rfl rfl ?_
              refine z_aload_n (i := 0) (c := 9) 0 d_Pa_readCompare_77 rfl rfl rfl ?_
              refine z_getr (c := 9) (kI := 0) (r2 := 10) d_Pa_readCompare_78 fd_Pa_tape fl_Pa_12 rfl rfl rfl (ks_F_9 hx) (kl_F_9 hx) (kr_F_9_0 hx) ?_
              refine z_geti (c := 10) (kI := 7) d_Pa_readCompare_81 fd_Ta_number fl_Pa_115 (Or.inl rfl) rfl rfl (ks_F_10 hx) (kl_F_10 hx) ?_
              refine z_puti (c := 9) (kI := 9) d_Pa_readCompare_84 fd_Pa_second fl_Pa_210 pf_Pa_second rfl rfl rfl rfl (ks_F_9 hx) (kl_F_9 hx) ?_
              refine z_iconst (n := 1) d_Pa_readCompare_87 (by decide) ?_
              exact z_zret d_Pa_readCompare_88 rfl (by decide) (by decide) (by decide) ⟨rfl, rfl, h⟩
            · have h := h.1 c13
              refine z_iconst (n := 0) d_Pa_readCompare_74 (by decide) ?_
              exact z_zret d_Pa_readCompare_75 rfl (by decide) (by decide) (by decide) ⟨rfl, rfl, h⟩
  · have h := h.2 c1
    intro _
    show z_U X 4 m_Pa_readCompare 15 [(0, (2, 9))] [(0, 0)] N σ (z_up g 9 8 61) Q
    refine z_if_eq (tgt := 27) d_Pa_readCompare_15 (by decide) (fun _ => ?_) (fun c => absurd (by decide) c)
    refine z_aload_n (i := 0) (c := 9) 0 d_Pa_readCompare_27 rfl rfl rfl ?_
    refine z_getr (c := 9) (kI := 0) (r2 := 10) d_Pa_readCompare_28 fd_Pa_tape fl_Pa_12 rfl rfl rfl (ks_F_9 hx) (kl_F_9 hx) (kr_F_9_0 hx) ?_
    refine z_bipush (n := 62) d_Pa_readCompare_31 (by decide) (by decide) ?_
    refine z_cV (c := 10) (as := [(0, 62)]) (d' := 1) (st := []) d_Pa_readCompare_33 mi_Ta_isThisSign ml_Pa_244 mv_Ta_isThisSign se_Ta_isThisSign rfl rfl rfl rfl (ks_F_10 hx) rfl rfl (kl_F_10 hx) rfl rfl (b_Ta_isThisSign_0 hx ?_)
    refine ⟨fun c => absurd c c1, fun _ => ?_⟩
    intro _
    show z_U X 4 m_Pa_readCompare 36 [(0, (2, 9))] [(0, 0)] N σ (z_up g 9 8 61) Q
    refine z_if_eq (tgt := 45) d_Pa_readCompare_36 (by decide) (fun _ => ?_) (fun c => absurd (by decide) c)
    refine z_aload_n (i := 0) (c := 9) 0 d_Pa_readCompare_45 rfl rfl rfl ?_
    refine z_getr (c := 9) (kI := 0) (r2 := 10) d_Pa_readCompare_46 fd_Pa_tape fl_Pa_12 rfl rfl rfl (ks_F_9 hx) (kl_F_9 hx) (kr_F_9_0 hx) ?_
    refine z_aload_n (i := 0) (c := 9) 0 d_Pa_readCompare_49 rfl rfl rfl ?_
    refine z_geti (c := 9) (kI := 8) d_Pa_readCompare_50 fd_Pa_first fl_Pa_207 (Or.inl rfl) rfl rfl (ks_F_9 hx) (kl_F_9 hx) ?_
    refine z_ti (b := 61) (by simp [z_up]) ?_
    refine z_i2c d_Pa_readCompare_53 ?_
    refine z_cV (c := 10) (as := [(0, Int32.toInt ((Int32.ofInt 61).toUInt32 % 65536).toInt32)]) (d' := 3) (st := []) d_Pa_readCompare_54 mi_Ta_passSign ml_Pa_79 mv_Ta_passSign se_Ta_passSign rfl rfl rfl rfl (ks_F_10 hx) rfl rfl (kl_F_10 hx) rfl rfl (z_Omono h (fun r8 g8 _ h hro => ?_))
    have h := h (z_b01 hro)
    have hzr8 := z_b01 hro
    show z_U X 4 m_Pa_readCompare 57 [(0, (2, 9))] [(0, r8)] N σ g8 Q
    refine z_if_eq (tgt := 74) d_Pa_readCompare_57 (by decide) (fun c14 => ?_) (fun c14 => ?_)
    · have h := h.1 c14
      refine z_iconst (n := 0) d_Pa_readCompare_74 (by decide) ?_
      exact z_zret d_Pa_readCompare_75 rfl (by decide) (by decide) (by decide) ⟨rfl, rfl, h⟩
    · have h := h.2 c14
      refine z_aload_n (i := 0) (c := 9) 0 d_Pa_readCompare_60 rfl rfl rfl ?_
      refine z_getr (c := 9) (kI := 0) (r2 := 10) d_Pa_readCompare_61 fd_Pa_tape fl_Pa_12 rfl rfl rfl (ks_F_9 hx) (kl_F_9 hx) (kr_F_9_0 hx) ?_
      refine z_iconst (n := 0) d_Pa_readCompare_64 (by decide) ?_
      refine z_sipush (n := 9999) d_Pa_readCompare_65 (by decide) (by decide) ?_
      refine z_cV (c := 10) (as := [(0, 0), (0, 9999)]) (d' := 3) (st := []) d_Pa_readCompare_68 mi_Ta_passNumber ml_Pa_112 mv_Ta_passNumber se_Ta_passNumber rfl rfl rfl rfl (ks_F_10 hx) rfl rfl (kl_F_10 hx) rfl rfl (z_Omono h (fun r9 g9 _ h hro => ?_))
      have h := h (z_b01 hro)
      have hzr9 := z_b01 hro
      show z_U X 4 m_Pa_readCompare 71 [(0, (2, 9))] [(0, r9)] N σ g9 Q
      refine z_if_ne (tgt := 76) d_Pa_readCompare_71 (by decide) (fun c15 => ?_) (fun c15 => ?_)
      · have h := h.2 c15
        refine z_aload_n (i := 0) (c := 9) 0 d_Pa_readCompare_76 rfl rfl rfl ?_
        refine z_aload_n (i := 0) (c := 9) 0 d_Pa_readCompare_77 rfl rfl rfl ?_
        refine z_getr (c := 9) (kI := 0) (r2 := 10) d_Pa_readCompare_78 fd_Pa_tape fl_Pa_12 rfl rfl rfl (ks_F_9 hx) (kl_F_9 hx) (kr_F_9_0 hx) ?_
        refine z_geti (c := 10) (kI := 7) d_Pa_readCompare_81 fd_Ta_number fl_Pa_115 (Or.inl rfl) rfl rfl (ks_F_10 hx) (kl_F_10 hx) ?_
        refine z_puti (c := 9) (kI := 9) d_Pa_readCompare_84 fd_Pa_second fl_Pa_210 pf_Pa_second rfl rfl rfl rfl (ks_F_9 hx) (kl_F_9 hx) ?_
        refine z_iconst (n := 1) d_Pa_readCompare_87 (by decide) ?_
        exact z_zret d_Pa_readCompare_88 rfl (by decide) (by decide) (by decide) ⟨rfl, rfl, h⟩
      · have h := h.1 c15
        refine z_iconst (n := 0) d_Pa_readCompare_74 (by decide) ?_
        exact z_zret d_Pa_readCompare_75 rfl (by decide) (by decide) (by decide) ⟨rfl, rfl, h⟩
theorem d_Pa_readEnd_0 : decode (z_c m_Pa_readEnd) 0 = .ok (.aload_n 0, 1) := by decide +kernel
theorem d_Pa_readEnd_1 : decode (z_c m_Pa_readEnd) 1 = .ok (.getfield 12, 3) := by decide +kernel
theorem d_Pa_readEnd_4 : decode (z_c m_Pa_readEnd) 4 = .ok (.invokevirtual 109, 3) := by decide +kernel
theorem d_Pa_readEnd_7 : decode (z_c m_Pa_readEnd) 7 = .ok (.aload_n 0, 1) := by decide +kernel
theorem d_Pa_readEnd_8 : decode (z_c m_Pa_readEnd) 8 = .ok (.getfield 12, 3) := by decide +kernel
theorem d_Pa_readEnd_11 : decode (z_c m_Pa_readEnd) 11 = .ok (.bipush 59, 2) := by decide +kernel
theorem d_Pa_readEnd_13 : decode (z_c m_Pa_readEnd) 13 = .ok (.invokevirtual 79, 3) := by decide +kernel
theorem d_Pa_readEnd_16 : decode (z_c m_Pa_readEnd) 16 = .ok (.ifCond .ne 5, 3) := by decide +kernel
theorem d_Pa_readEnd_19 : decode (z_c m_Pa_readEnd) 19 = .ok (.iconst 0, 1) := by decide +kernel
theorem d_Pa_readEnd_20 : decode (z_c m_Pa_readEnd) 20 = .ok (.ireturn, 1) := by decide +kernel
theorem d_Pa_readEnd_21 : decode (z_c m_Pa_readEnd) 21 = .ok (.aload_n 0, 1) := by decide +kernel
theorem d_Pa_readEnd_22 : decode (z_c m_Pa_readEnd) 22 = .ok (.getfield 179, 3) := by decide +kernel
theorem d_Pa_readEnd_25 : decode (z_c m_Pa_readEnd) 25 = .ok (.ifCond .le 34, 3) := by decide +kernel
theorem d_Pa_readEnd_28 : decode (z_c m_Pa_readEnd) 28 = .ok (.aload_n 0, 1) := by decide +kernel
theorem d_Pa_readEnd_29 : decode (z_c m_Pa_readEnd) 29 = .ok (.getfield 179, 3) := by decide +kernel
theorem d_Pa_readEnd_32 : decode (z_c m_Pa_readEnd) 32 = .ok (.iconst 3, 1) := by decide +kernel
theorem d_Pa_readEnd_33 : decode (z_c m_Pa_readEnd) 33 = .ok (.if_icmp .gt 26, 3) := by decide +kernel
theorem d_Pa_readEnd_36 : decode (z_c m_Pa_readEnd) 36 = .ok (.aload_n 0, 1) := by decide +kernel
theorem d_Pa_readEnd_37 : decode (z_c m_Pa_readEnd) 37 = .ok (.dup, 1) := by decide +kernel
theorem d_Pa_readEnd_38 : decode (z_c m_Pa_readEnd) 38 = .ok (.getfield 179, 3) := by decide +kernel
theorem d_Pa_readEnd_41 : decode (z_c m_Pa_readEnd) 41 = .ok (.iconst 1, 1) := by decide +kernel
theorem d_Pa_readEnd_42 : decode (z_c m_Pa_readEnd) 42 = .ok (.isub, 1) := by decide +kernel
theorem d_Pa_readEnd_43 : decode (z_c m_Pa_readEnd) 43 = .ok (.putfield 179, 3) := by decide +kernel
theorem d_Pa_readEnd_46 : decode (z_c m_Pa_readEnd) 46 = .ok (.aload_n 1, 1) := by decide +kernel
theorem d_Pa_readEnd_47 : decode (z_c m_Pa_readEnd) 47 = .ok (.aload_n 0, 1) := by decide +kernel
theorem d_Pa_readEnd_48 : decode (z_c m_Pa_readEnd) 48 = .ok (.getfield 25, 3) := by decide +kernel
theorem d_Pa_readEnd_51 : decode (z_c m_Pa_readEnd) 51 = .ok (.aload_n 0, 1) := by decide +kernel
theorem d_Pa_readEnd_52 : decode (z_c m_Pa_readEnd) 52 = .ok (.getfield 179, 3) := by decide +kernel
theorem d_Pa_readEnd_55 : decode (z_c m_Pa_readEnd) 55 = .ok (.iaload, 1) := by decide +kernel
theorem d_Pa_readEnd_56 : decode (z_c m_Pa_readEnd) 56 = .ok (.invokevirtual 194, 3) := by decide +kernel
theorem d_Pa_readEnd_59 : decode (z_c m_Pa_readEnd) 59 = .ok (.iconst 1, 1) := by decide +kernel
theorem d_Pa_readEnd_60 : decode (z_c m_Pa_readEnd) 60 = .ok (.ireturn, 1) := by decide +kernel
set_option maxRecDepth 8000 in
theorem b_Pa_readEnd_0 {X : z_X} {N : Nat} {σ g : z_G} {Q : z_P} {p1 : Nat} (hx : z_lay X N σ 0 z_SF z_RF) (hp1 : z_lay X N σ p1 z_SPg z_RPg) (h : z_O X 2 m_Ta_advance [(2, 10)] N σ g (fun r0 g0 => (z_O X 3 m_Ta_passSign [(2, 10), (0, 59)] N σ g0 (fun r1 g1 => (r1 = 0 ∨ r1 = 1) → (((r1 = 0) → Q 0 g1) ∧ (¬ (r1 = 0) → ((((g1 9 6) ≤ 0) → Q 1 g1) ∧ (¬ ((g1 9 6) ≤ 0) → (((3 < (g1 9 6)) → Q 1 g1) ∧ (¬ (3 < (g1 9 6)) → ((-2147483648 ≤ ((g1 9 6) - 1) ∧ ((g1 9 6) - 1) ≤ 2147483647) ∧ ((0 ≤ ((g1 9 6) - 1) ∧ ((g1 9 6) - 1) < 3) ∧ (z_O X 1 m_Pg_addEnd [(2, ((p1 : Nat) : Int)), (0, g1 14 ((g1 9 6) - 1))] N σ (z_up g1 9 6 ((g1 9 6) - 1)) (fun r2 g2 => Q 1 g2)))))))))))))) : z_O X 4 m_Pa_readEnd [(2, 9), (2, ((p1 : Nat) : Int))] N σ g Q := by
  refine z_Oenter mi_Pa_readEnd rfl (fun _ => ?_)
  show z_U X 4 m_Pa_readEnd 0 [(0, (2, 9)), (1, (2, ((p1 : Nat) : Int)))] [] N σ g Q
  refine z_aload_n (i := 0) (c := 9) 0 d_Pa_readEnd_0 rfl rfl rfl ?_
  refine z_getr (c := 9) (kI := 0) (r2 := 10) d_Pa_readEnd_1 fd_Pa_tape fl_Pa_12 rfl rfl rfl (ks_F_9 hx) (kl_F_9 hx) (kr_F_9_0 hx) ?_
  refine z_cV (c := 10) (as := []) (d' := 2) (st := []) d_Pa_readEnd_4 mi_Ta_advance ml_Pa_109 mv_Ta_advance se_Ta_advance rfl rfl rfl rfl (ks_F_10 hx) rfl rfl (kl_F_10 hx) rfl rfl (z_Omono h (fun r0 g0 _ h hro => ?_))
  show z_U X 4 m_Pa_readEnd 7 [(0, (2, 9)), (1, (2, ((p1 : Nat) : Int)))] [] N σ g0 Q
  refine z_aload_n (i := 0) (c := 9) 0 d_Pa_readEnd_7 rfl rfl rfl ?_
  refine z_getr (c := 9) (kI := 0) (r2 := 10) d_Pa_readEnd_8 fd_Pa_tape fl_Pa_12 rfl rfl rfl (ks_F_9 hx) (kl_F_9 hx) (kr_F_9_0 hx) ?_
  refine z_bipush (n := 59) d_Pa_readEnd_11 (by decide) (by decide) ?_
  refine z_cV (c := 10) (as := [(0, 59)]) (d' := 3) (st := []) d_Pa_readEnd_13 mi_Ta_passSign ml_Pa_79 mv_Ta_passSign se_Ta_passSign rfl rfl rfl rfl (ks_F_10 hx) rfl rfl (kl_F_10 hx) rfl rfl (z_Omono h (fun r1 g1 _ h hro => ?_))
  have h := h (z_b01 hro)
  have hzr1 := z_b01 hro
  show z_U X 4 m_Pa_readEnd 16 [(0, (2, 9)), (1, (2, ((p1 : Nat) : Int)))] [(0, r1)] N σ g1 Q
  refine z_if_ne (tgt := 21) d_Pa_readEnd_16 (by decide) (fun c1 => ?_) (fun c1 => ?_)
  · have h := h.2 c1
    refine z_aload_n (i := 0) (c := 9) 0 d_Pa_readEnd_21 rfl rfl rfl ?_
    refine z_geti (c := 9) (kI := 6) d_Pa_readEnd_22 fd_Pa_open fl_Pa_179 (Or.inl rfl) rfl rfl (ks_F_9 hx) (kl_F_9 hx) ?_
    refine z_if_le (tgt := 59) d_Pa_readEnd_25 (by decide) (fun c2 => ?_) (fun c2 => ?_)
    · have h := h.1 c2
      refine z_iconst (n := 1) d_Pa_readEnd_59 (by decide) ?_
      exact z_zret d_Pa_readEnd_60 rfl (by decide) (by decide) (by decide) ⟨rfl, rfl, h⟩
    · have h := h.2 c2
      refine z_aload_n (i := 0) (c := 9) 0 d_Pa_readEnd_28 rfl rfl rfl ?_
      refine z_geti (c := 9) (kI := 6) d_Pa_readEnd_29 fd_Pa_open fl_Pa_179 (Or.inl rfl) rfl rfl (ks_F_9 hx) (kl_F_9 hx) ?_
      refine z_iconst (n := 3) d_Pa_readEnd_32 (by decide) ?_
      refine z_icmp_gt (tgt := 59) d_Pa_readEnd_33 (by decide) (fun c3 => ?_) (fun c3 => ?_)
      · have h := h.1 c3
        refine z_iconst (n := 1) d_Pa_readEnd_59 (by decide) ?_
        exact z_zret d_Pa_readEnd_60 rfl (by decide) (by decide) (by decide) ⟨rfl, rfl, h⟩
      · have h := h.2 c3
        refine z_aload_n (i := 0) (c := 9) 0 d_Pa_readEnd_36 rfl rfl rfl ?_
        refine z_dup d_Pa_readEnd_37 rfl ?_
        refine z_geti (c := 9) (kI := 6) d_Pa_readEnd_38 fd_Pa_open fl_Pa_179 (Or.inl rfl) rfl rfl (ks_F_9 hx) (kl_F_9 hx) ?_
        refine z_iconst (n := 1) d_Pa_readEnd_41 (by decide) ?_
        obtain ⟨c4, h⟩ := h
        refine z_isub d_Pa_readEnd_42 c4 ?_
        refine z_puti (c := 9) (kI := 6) d_Pa_readEnd_43 fd_Pa_open fl_Pa_179 pf_Pa_open rfl rfl rfl rfl (ks_F_9 hx) (kl_F_9 hx) ?_
        refine z_aload_n (i := 1) (c := p1) 1 d_Pa_readEnd_46 rfl rfl rfl ?_
        refine z_aload_n (i := 0) (c := 9) 0 d_Pa_readEnd_47 rfl rfl rfl ?_
        refine z_getr (c := 9) (kI := 5) (r2 := 14) d_Pa_readEnd_48 fd_Pa_begins fl_Pa_25 rfl rfl rfl (ks_F_9 hx) (kl_F_9 hx) (kr_F_9_5 hx) ?_
        refine z_aload_n (i := 0) (c := 9) 0 d_Pa_readEnd_51 rfl rfl rfl ?_
        refine z_geti (c := 9) (kI := 6) d_Pa_readEnd_52 fd_Pa_open fl_Pa_179 (Or.inl rfl) rfl rfl (ks_F_9 hx) (kl_F_9 hx) ?_
        refine z_ti (b := (g1 9 6) - 1) (by simp [z_up]) ?_
        obtain ⟨c5, h⟩ := h
        refine z_iald (c := 14) (m := 3) d_Pa_readEnd_55 rfl (ks_F_14 hx) (kl_F_14 hx) rfl (by decide) c5 ?_
        refine z_ti (b := g1 14 ((g1 9 6) - 1)) (by simp [z_up]) ?_
        refine z_cV (c := p1) (as := [(0, g1 14 ((g1 9 6) - 1))]) (d' := 1) (st := []) d_Pa_readEnd_56 mi_Pg_addEnd ml_Pa_194 mv_Pg_addEnd se_Pg_addEnd rfl rfl rfl rfl (ks_Pg_0 hp1) rfl rfl (kl_Pg_0 hp1) rfl rfl (z_Omono h (fun r2 g2 _ h hro => ?_))
        show z_U X 4 m_Pa_readEnd 59 [(0, (2, 9)), (1, (2, ((p1 : Nat) : Int)))] [] N σ g2 Q
        refine z_iconst (n := 1) d_Pa_readEnd_59 (by decide) ?_
        exact z_zret d_Pa_readEnd_60 rfl (by decide) (by decide) (by decide) ⟨rfl, rfl, h⟩
  · have h := h.1 c1
    refine z_iconst (n := 0) d_Pa_readEnd_19 (by decide) ?_
    exact z_zret d_Pa_readEnd_20 rfl (by decide) (by decide) (by decide) ⟨rfl, rfl, h⟩
theorem d_Pa_readFirst_0 : decode (z_c m_Pa_readFirst) 0 = .ok (.iload_n 1, 1) := by decide +kernel
theorem d_Pa_readFirst_1 : decode (z_c m_Pa_readFirst) 1 = .ok (.ifCond .ne 5, 3) := by decide +kernel
theorem d_Pa_readFirst_4 : decode (z_c m_Pa_readFirst) 4 = .ok (.iconst 1, 1) := by decide +kernel
theorem d_Pa_readFirst_5 : decode (z_c m_Pa_readFirst) 5 = .ok (.ireturn, 1) := by decide +kernel
theorem d_Pa_readFirst_6 : decode (z_c m_Pa_readFirst) 6 = .ok (.aload_n 0, 1) := by decide +kernel
theorem d_Pa_readFirst_7 : decode (z_c m_Pa_readFirst) 7 = .ok (.getfield 12, 3) := by decide +kernel
theorem d_Pa_readFirst_10 : decode (z_c m_Pa_readFirst) 10 = .ok (.iconst 1, 1) := by decide +kernel
theorem d_Pa_readFirst_11 : decode (z_c m_Pa_readFirst) 11 = .ok (.iload_n 1, 1) := by decide +kernel
theorem d_Pa_readFirst_12 : decode (z_c m_Pa_readFirst) 12 = .ok (.invokevirtual 112, 3) := by decide +kernel
theorem d_Pa_readFirst_15 : decode (z_c m_Pa_readFirst) 15 = .ok (.ifCond .ne 5, 3) := by decide +kernel
theorem d_Pa_readFirst_18 : decode (z_c m_Pa_readFirst) 18 = .ok (.iconst 0, 1) := by decide +kernel
theorem d_Pa_readFirst_19 : decode (z_c m_Pa_readFirst) 19 = .ok (.ireturn, 1) := by decide +kernel
theorem d_Pa_readFirst_20 : decode (z_c m_Pa_readFirst) 20 = .ok (.aload_n 0, 1) := by decide +kernel
theorem d_Pa_readFirst_21 : decode (z_c m_Pa_readFirst) 21 = .ok (.aload_n 0, 1) := by decide +kernel
theorem d_Pa_readFirst_22 : decode (z_c m_Pa_readFirst) 22 = .ok (.getfield 12, 3) := by decide +kernel
theorem d_Pa_readFirst_25 : decode (z_c m_Pa_readFirst) 25 = .ok (.getfield 115, 3) := by decide +kernel
theorem d_Pa_readFirst_28 : decode (z_c m_Pa_readFirst) 28 = .ok (.putfield 207, 3) := by decide +kernel
theorem d_Pa_readFirst_31 : decode (z_c m_Pa_readFirst) 31 = .ok (.iconst 1, 1) := by decide +kernel
theorem d_Pa_readFirst_32 : decode (z_c m_Pa_readFirst) 32 = .ok (.ireturn, 1) := by decide +kernel
set_option maxRecDepth 8000 in
theorem b_Pa_readFirst_0 {X : z_X} {N : Nat} {σ g : z_G} {Q : z_P} {a1 : Int} (hx : z_lay X N σ 0 z_SF z_RF) (h : ((a1 = 0) → Q 1 g) ∧ (¬ (a1 = 0) → (z_O X 3 m_Ta_passNumber [(2, 10), (0, 1), (0, a1)] N σ g (fun r0 g0 => (r0 = 0 ∨ r0 = 1) → (((r0 = 0) → Q 0 g0) ∧ (¬ (r0 = 0) → Q 1 (z_up g0 9 8 (g0 10 7)))))))) : z_O X 4 m_Pa_readFirst [(2, 9), (0, a1)] N σ g Q := by
  refine z_Oenter mi_Pa_readFirst rfl (fun _ => ?_)
  show z_U X 4 m_Pa_readFirst 0 [(0, (2, 9)), (1, (0, a1))] [] N σ g Q
  refine z_iload_n (i := 1) 1 d_Pa_readFirst_0 rfl rfl ?_
  refine z_if_ne (tgt := 6) d_Pa_readFirst_1 (by decide) (fun c1 => ?_) (fun c1 => ?_)
  · have h := h.2 c1
    refine z_aload_n (i := 0) (c := 9) 0 d_Pa_readFirst_6 rfl rfl rfl ?_
    refine z_getr (c := 9) (kI := 0) (r2 := 10) d_Pa_readFirst_7 fd_Pa_tape fl_Pa_12 rfl rfl rfl (ks_F_9 hx) (kl_F_9 hx) (kr_F_9_0 hx) ?_
    refine z_iconst (n := 1) d_Pa_readFirst_10 (by decide) ?_
    refine z_iload_n (i := 1) 1 d_Pa_readFirst_11 rfl rfl ?_
    refine z_cV (c := 10) (as := [(0, 1), (0, a1)]) (d' := 3) (st := []) d_Pa_readFirst_12 mi_Ta_passNumber ml_Pa_112 mv_Ta_passNumber se_Ta_passNumber rfl rfl rfl rfl (ks_F_10 hx) rfl rfl (kl_F_10 hx) rfl rfl (z_Omono h (fun r0 g0 _ h hro => ?_))
    have h := h (z_b01 hro)
    have hzr0 := z_b01 hro
    show z_U X 4 m_Pa_readFirst 15 [(0, (2, 9)), (1, (0, a1))] [(0, r0)] N σ g0 Q
    refine z_if_ne (tgt := 20) d_Pa_readFirst_15 (by decide) (fun c2 => ?_) (fun c2 => ?_)
    · have h := h.2 c2
      refine z_aload_n (i := 0) (c := 9) 0 d_Pa_readFirst_20 rfl rfl rfl ?_
      refine z_aload_n (i := 0) (c := 9) 0 d_Pa_readFirst_21 rfl rfl rfl ?_
      refine z_getr (c := 9) (kI := 0) (r2 := 10) d_Pa_readFirst_22 fd_Pa_tape fl_Pa_12 rfl rfl rfl (ks_F_9 hx) (kl_F_9 hx) (kr_F_9_0 hx) ?_
      refine z_geti (c := 10) (kI := 7) d_Pa_readFirst_25 fd_Ta_number fl_Pa_115 (Or.inl rfl) rfl rfl (ks_F_10 hx) (kl_F_10 hx) ?_
      refine z_puti (c := 9) (kI := 8) d_Pa_readFirst_28 fd_Pa_first fl_Pa_207 pf_Pa_first rfl rfl rfl rfl (ks_F_9 hx) (kl_F_9 hx) ?_
      refine z_iconst (n := 1) d_Pa_readFirst_31 (by decide) ?_
      exact z_zret d_Pa_readFirst_32 rfl (by decide) (by decide) (by decide) ⟨rfl, rfl, h⟩
    · have h := h.1 c2
      refine z_iconst (n := 0) d_Pa_readFirst_18 (by decide) ?_
      exact z_zret d_Pa_readFirst_19 rfl (by decide) (by decide) (by decide) ⟨rfl, rfl, h⟩
  · have h := h.1 c1
    refine z_iconst (n := 1) d_Pa_readFirst_4 (by decide) ?_
    exact z_zret d_Pa_readFirst_5 rfl (by decide) (by decide) (by decide) ⟨rfl, rfl, h⟩
theorem d_Pa_readOdds_0 : decode (z_c m_Pa_readOdds) 0 = .ok (.aload_n 0, 1) := by decide +kernel
theorem d_Pa_readOdds_1 : decode (z_c m_Pa_readOdds) 1 = .ok (.getfield 34, 3) := by decide +kernel
theorem d_Pa_readOdds_4 : decode (z_c m_Pa_readOdds) 4 = .ok (.ifCond .eq 19, 3) := by decide +kernel
theorem d_Pa_readOdds_7 : decode (z_c m_Pa_readOdds) 7 = .ok (.aload_n 0, 1) := by decide +kernel
theorem d_Pa_readOdds_8 : decode (z_c m_Pa_readOdds) 8 = .ok (.getfield 12, 3) := by decide +kernel
theorem d_Pa_readOdds_11 : decode (z_c m_Pa_readOdds) 11 = .ok (.iconst 5, 1) := by decide +kernel
theorem d_Pa_readOdds_12 : decode (z_c m_Pa_readOdds) 12 = .ok (.aload_n 0, 1) := by decide +kernel
theorem d_Pa_readOdds_13 : decode (z_c m_Pa_readOdds) 13 = .ok (.getfield 12, 3) := by decide +kernel
theorem d_Pa_readOdds_16 : decode (z_c m_Pa_readOdds) 16 = .ok (.getfield 101, 3) := by decide +kernel
theorem d_Pa_readOdds_19 : decode (z_c m_Pa_readOdds) 19 = .ok (.invokevirtual 105, 3) := by decide +kernel
theorem d_Pa_readOdds_22 : decode (z_c m_Pa_readOdds) 22 = .ok (.ireturn, 1) := by decide +kernel
theorem d_Pa_readOdds_23 : decode (z_c m_Pa_readOdds) 23 = .ok (.aload_n 0, 1) := by decide +kernel
theorem d_Pa_readOdds_24 : decode (z_c m_Pa_readOdds) 24 = .ok (.iconst 1, 1) := by decide +kernel
theorem d_Pa_readOdds_25 : decode (z_c m_Pa_readOdds) 25 = .ok (.putfield 34, 3) := by decide +kernel
theorem d_Pa_readOdds_28 : decode (z_c m_Pa_readOdds) 28 = .ok (.aload_n 0, 1) := by decide +kernel
theorem d_Pa_readOdds_29 : decode (z_c m_Pa_readOdds) 29 = .ok (.getfield 12, 3) := by decide +kernel
theorem d_Pa_readOdds_32 : decode (z_c m_Pa_readOdds) 32 = .ok (.invokevirtual 109, 3) := by decide +kernel
theorem d_Pa_readOdds_35 : decode (z_c m_Pa_readOdds) 35 = .ok (.aload_n 0, 1) := by decide +kernel
theorem d_Pa_readOdds_36 : decode (z_c m_Pa_readOdds) 36 = .ok (.getfield 12, 3) := by decide +kernel
theorem d_Pa_readOdds_39 : decode (z_c m_Pa_readOdds) 39 = .ok (.iconst 0, 1) := by decide +kernel
theorem d_Pa_readOdds_40 : decode (z_c m_Pa_readOdds) 40 = .ok (.bipush 16, 2) := by decide +kernel
theorem d_Pa_readOdds_42 : decode (z_c m_Pa_readOdds) 42 = .ok (.invokevirtual 112, 3) := by decide +kernel
theorem d_Pa_readOdds_45 : decode (z_c m_Pa_readOdds) 45 = .ok (.ifCond .ne 5, 3) := by decide +kernel
theorem d_Pa_readOdds_48 : decode (z_c m_Pa_readOdds) 48 = .ok (.iconst 0, 1) := by decide +kernel
theorem d_Pa_readOdds_49 : decode (z_c m_Pa_readOdds) 49 = .ok (.ireturn, 1) := by decide +kernel
theorem d_Pa_readOdds_50 : decode (z_c m_Pa_readOdds) 50 = .ok (.aload_n 1, 1) := by decide +kernel
theorem d_Pa_readOdds_51 : decode (z_c m_Pa_readOdds) 51 = .ok (.aload_n 0, 1) := by decide +kernel
theorem d_Pa_readOdds_52 : decode (z_c m_Pa_readOdds) 52 = .ok (.getfield 12, 3) := by decide +kernel
theorem d_Pa_readOdds_55 : decode (z_c m_Pa_readOdds) 55 = .ok (.getfield 115, 3) := by decide +kernel
theorem d_Pa_readOdds_58 : decode (z_c m_Pa_readOdds) 58 = .ok (.putfield 118, 3) := by decide +kernel
theorem d_Pa_readOdds_61 : decode (z_c m_Pa_readOdds) 61 = .ok (.iconst 1, 1) := by decide +kernel
theorem d_Pa_readOdds_62 : decode (z_c m_Pa_readOdds) 62 = .ok (.ireturn, 1) := by decide +kernel
set_option maxRecDepth 8000 in
theorem b_Pa_readOdds_0 {X : z_X} {N : Nat} {σ g : z_G} {Q : z_P} {p1 : Nat} (hx : z_lay X N σ 0 z_SF z_RF) (hp1 : z_lay X N σ p1 z_SBd z_RBd) (h : (((g 9 2) = 0) → (z_O X 2 m_Ta_advance [(2, 10)] N σ (z_up g 9 2 1) (fun r0 g0 => (z_O X 3 m_Ta_passNumber [(2, 10), (0, 0), (0, 16)] N σ g0 (fun r1 g1 => (r1 = 0 ∨ r1 = 1) → (((r1 = 0) → Q 0 g1) ∧ (¬ (r1 = 0) → Q 1 (z_up g1 p1 1 (g1 10 7))))))))) ∧ (¬ ((g 9 2) = 0) → Q 0 (z_up (z_up g 10 9 5) 10 10 (g 10 6)))) : z_O X 4 m_Pa_readOdds [(2, 9), (2, ((p1 : Nat) : Int))] N σ g Q := by
  refine z_Oenter mi_Pa_readOdds rfl (fun _ => ?_)
  show z_U X 4 m_Pa_readOdds 0 [(0, (2, 9)), (1, (2, ((p1 : Nat) : Int)))] [] N σ g Q
  refine z_aload_n (i := 0) (c := 9) 0 d_Pa_readOdds_0 rfl rfl rfl ?_
  refine z_getz (c := 9) (kI := 2) d_Pa_readOdds_1 fd_Pa_oddsTold fl_Pa_34 rfl rfl rfl (ks_F_9 hx) (kl_F_9 hx) (fun z1 => ?_)
  refine z_if_eq (tgt := 23) d_Pa_readOdds_4 (by decide) (fun c1 => ?_) (fun c1 => ?_)
  · have h := h.1 c1
    refine z_aload_n (i := 0) (c := 9) 0 d_Pa_readOdds_23 rfl rfl rfl ?_
    refine z_iconst (n := 1) d_Pa_readOdds_24 (by decide) ?_
    refine z_putz (c := 9) (kI := 2) d_Pa_readOdds_25 fd_Pa_oddsTold fl_Pa_34 pf_Pa_oddsTold rfl rfl rfl rfl (ks_F_9 hx) (kl_F_9 hx) (by decide) ?_
    refine z_aload_n (i := 0) (c := 9) 0 d_Pa_readOdds_28 rfl rfl rfl ?_
    refine z_getr (c := 9) (kI := 0) (r2 := 10) d_Pa_readOdds_29 fd_Pa_tape fl_Pa_12 rfl rfl rfl (ks_F_9 hx) (kl_F_9 hx) (kr_F_9_0 hx) ?_
    refine z_cV (c := 10) (as := []) (d' := 2) (st := []) d_Pa_readOdds_32 mi_Ta_advance ml_Pa_109 mv_Ta_advance se_Ta_advance rfl rfl rfl rfl (ks_F_10 hx) rfl rfl (kl_F_10 hx) rfl rfl (z_Omono h (fun r0 g0 _ h hro => ?_))
    show z_U X 4 m_Pa_readOdds 35 [(0, (2, 9)), (1, (2, ((p1 : Nat) : Int)))] [] N σ g0 Q
    refine z_aload_n (i := 0) (c := 9) 0 d_Pa_readOdds_35 rfl rfl rfl ?_
    refine z_getr (c := 9) (kI := 0) (r2 := 10) d_Pa_readOdds_36 fd_Pa_tape fl_Pa_12 rfl rfl rfl (ks_F_9 hx) (kl_F_9 hx) (kr_F_9_0 hx) ?_
    refine z_iconst (n := 0) d_Pa_readOdds_39 (by decide) ?_
    refine z_bipush (n := 16) d_Pa_readOdds_40 (by decide) (by decide) ?_
    refine z_cV (c := 10) (as := [(0, 0), (0, 16)]) (d' := 3) (st := []) d_Pa_readOdds_42 mi_Ta_passNumber ml_Pa_112 mv_Ta_passNumber se_Ta_passNumber rfl rfl rfl rfl (ks_F_10 hx) rfl rfl (kl_F_10 hx) rfl rfl (z_Omono h (fun r1 g1 _ h hro => ?_))
    have h := h (z_b01 hro)
    have hzr1 := z_b01 hro
    show z_U X 4 m_Pa_readOdds 45 [(0, (2, 9)), (1, (2, ((p1 : Nat) : Int)))] [(0, r1)] N σ g1 Q
    refine z_if_ne (tgt := 50) d_Pa_readOdds_45 (by decide) (fun c2 => ?_) (fun c2 => ?_)
    · have h := h.2 c2
      refine z_aload_n (i := 1) (c := p1) 1 d_Pa_readOdds_50 rfl rfl rfl ?_
      refine z_aload_n (i := 0) (c := 9) 0 d_Pa_readOdds_51 rfl rfl rfl ?_
      refine z_getr (c := 9) (kI := 0) (r2 := 10) d_Pa_readOdds_52 fd_Pa_tape fl_Pa_12 rfl rfl rfl (ks_F_9 hx) (kl_F_9 hx) (kr_F_9_0 hx) ?_
      refine z_geti (c := 10) (kI := 7) d_Pa_readOdds_55 fd_Ta_number fl_Pa_115 (Or.inl rfl) rfl rfl (ks_F_10 hx) (kl_F_10 hx) ?_
      refine z_puti (c := p1) (kI := 1) d_Pa_readOdds_58 fd_Bd_odds fl_Pa_118 pf_Bd_odds rfl rfl rfl rfl (ks_Bd_0 hp1) (kl_Bd_0 hp1) ?_
      refine z_iconst (n := 1) d_Pa_readOdds_61 (by decide) ?_
      exact z_zret d_Pa_readOdds_62 rfl (by decide) (by decide) (by decide) ⟨rfl, rfl, h⟩
    · have h := h.1 c2
      refine z_iconst (n := 0) d_Pa_readOdds_48 (by decide) ?_
      exact z_zret d_Pa_readOdds_49 rfl (by decide) (by decide) (by decide) ⟨rfl, rfl, h⟩
  · have h := h.2 c1
    refine z_aload_n (i := 0) (c := 9) 0 d_Pa_readOdds_7 rfl rfl rfl ?_
    refine z_getr (c := 9) (kI := 0) (r2 := 10) d_Pa_readOdds_8 fd_Pa_tape fl_Pa_12 rfl rfl rfl (ks_F_9 hx) (kl_F_9 hx) (kr_F_9_0 hx) ?_
    refine z_iconst (n := 5) d_Pa_readOdds_11 (by decide) ?_
    refine z_aload_n (i := 0) (c := 9) 0 d_Pa_readOdds_12 rfl rfl rfl ?_
    refine z_getr (c := 9) (kI := 0) (r2 := 10) d_Pa_readOdds_13 fd_Pa_tape fl_Pa_12 rfl rfl rfl (ks_F_9 hx) (kl_F_9 hx) (kr_F_9_0 hx) ?_
    refine z_geti (c := 10) (kI := 6) d_Pa_readOdds_16 fd_Ta_at fl_Pa_101 (Or.inl rfl) rfl rfl (ks_F_10 hx) (kl_F_10 hx) ?_
    refine z_cV (c := 10) (as := [(0, 5), (0, g 10 6)]) (d' := 1) (st := []) d_Pa_readOdds_19 mi_Ta_fail ml_Pa_105 mv_Ta_fail se_Ta_fail rfl rfl rfl rfl (ks_F_10 hx) rfl rfl (kl_F_10 hx) rfl rfl (b_Ta_fail_0 hx ?_)
    intro _
    show z_U X 4 m_Pa_readOdds 22 [(0, (2, 9)), (1, (2, ((p1 : Nat) : Int)))] [(0, 0)] N σ (z_up (z_up g 10 9 5) 10 10 (g 10 6)) Q
    exact z_zret d_Pa_readOdds_22 rfl (by decide) (by decide) (by decide) ⟨rfl, rfl, h⟩
theorem d_Pa_readOrder_0 : decode (z_c m_Pa_readOrder) 0 = .ok (.aload_n 0, 1) := by decide +kernel
theorem d_Pa_readOrder_1 : decode (z_c m_Pa_readOrder) 1 = .ok (.getfield 38, 3) := by decide +kernel
theorem d_Pa_readOrder_4 : decode (z_c m_Pa_readOrder) 4 = .ok (.ifCond .eq 19, 3) := by decide +kernel
theorem d_Pa_readOrder_7 : decode (z_c m_Pa_readOrder) 7 = .ok (.aload_n 0, 1) := by decide +kernel
theorem d_Pa_readOrder_8 : decode (z_c m_Pa_readOrder) 8 = .ok (.getfield 12, 3) := by decide +kernel
theorem d_Pa_readOrder_11 : decode (z_c m_Pa_readOrder) 11 = .ok (.iconst 5, 1) := by decide +kernel
theorem d_Pa_readOrder_12 : decode (z_c m_Pa_readOrder) 12 = .ok (.aload_n 0, 1) := by decide +kernel
theorem d_Pa_readOrder_13 : decode (z_c m_Pa_readOrder) 13 = .ok (.getfield 12, 3) := by decide +kernel
theorem d_Pa_readOrder_16 : decode (z_c m_Pa_readOrder) 16 = .ok (.getfield 101, 3) := by decide +kernel
theorem d_Pa_readOrder_19 : decode (z_c m_Pa_readOrder) 19 = .ok (.invokevirtual 105, 3) := by decide +kernel
theorem d_Pa_readOrder_22 : decode (z_c m_Pa_readOrder) 22 = .ok (.ireturn, 1) := by decide +kernel
theorem d_Pa_readOrder_23 : decode (z_c m_Pa_readOrder) 23 = .ok (.aload_n 0, 1) := by decide +kernel
theorem d_Pa_readOrder_24 : decode (z_c m_Pa_readOrder) 24 = .ok (.iconst 1, 1) := by decide +kernel
theorem d_Pa_readOrder_25 : decode (z_c m_Pa_readOrder) 25 = .ok (.putfield 38, 3) := by decide +kernel
theorem d_Pa_readOrder_28 : decode (z_c m_Pa_readOrder) 28 = .ok (.aload_n 0, 1) := by decide +kernel
theorem d_Pa_readOrder_29 : decode (z_c m_Pa_readOrder) 29 = .ok (.getfield 12, 3) := by decide +kernel
theorem d_Pa_readOrder_32 : decode (z_c m_Pa_readOrder) 32 = .ok (.invokevirtual 109, 3) := by decide +kernel
theorem d_Pa_readOrder_35 : decode (z_c m_Pa_readOrder) 35 = .ok (.aload_n 0, 1) := by decide +kernel
theorem d_Pa_readOrder_36 : decode (z_c m_Pa_readOrder) 36 = .ok (.getfield 12, 3) := by decide +kernel
theorem d_Pa_readOrder_39 : decode (z_c m_Pa_readOrder) 39 = .ok (.iconst 1, 1) := by decide +kernel
theorem d_Pa_readOrder_40 : decode (z_c m_Pa_readOrder) 40 = .ok (.sipush 200, 3) := by decide +kernel
theorem d_Pa_readOrder_43 : decode (z_c m_Pa_readOrder) 43 = .ok (.invokevirtual 112, 3) := by decide +kernel
theorem d_Pa_readOrder_46 : decode (z_c m_Pa_readOrder) 46 = .ok (.ifCond .ne 5, 3) := by decide +kernel
theorem d_Pa_readOrder_49 : decode (z_c m_Pa_readOrder) 49 = .ok (.iconst 0, 1) := by decide +kernel
theorem d_Pa_readOrder_50 : decode (z_c m_Pa_readOrder) 50 = .ok (.ireturn, 1) := by decide +kernel
theorem d_Pa_readOrder_51 : decode (z_c m_Pa_readOrder) 51 = .ok (.aload_n 1, 1) := by decide +kernel
theorem d_Pa_readOrder_52 : decode (z_c m_Pa_readOrder) 52 = .ok (.aload_n 0, 1) := by decide +kernel
theorem d_Pa_readOrder_53 : decode (z_c m_Pa_readOrder) 53 = .ok (.getfield 12, 3) := by decide +kernel
theorem d_Pa_readOrder_56 : decode (z_c m_Pa_readOrder) 56 = .ok (.getfield 115, 3) := by decide +kernel
theorem d_Pa_readOrder_59 : decode (z_c m_Pa_readOrder) 59 = .ok (.putfield 120, 3) := by decide +kernel
theorem d_Pa_readOrder_62 : decode (z_c m_Pa_readOrder) 62 = .ok (.iconst 1, 1) := by decide +kernel
theorem d_Pa_readOrder_63 : decode (z_c m_Pa_readOrder) 63 = .ok (.ireturn, 1) := by decide +kernel
set_option maxRecDepth 8000 in
theorem b_Pa_readOrder_0 {X : z_X} {N : Nat} {σ g : z_G} {Q : z_P} {p1 : Nat} (hx : z_lay X N σ 0 z_SF z_RF) (hp1 : z_lay X N σ p1 z_SBd z_RBd) (h : (((g 9 3) = 0) → (z_O X 2 m_Ta_advance [(2, 10)] N σ (z_up g 9 3 1) (fun r0 g0 => (z_O X 3 m_Ta_passNumber [(2, 10), (0, 1), (0, 200)] N σ g0 (fun r1 g1 => (r1 = 0 ∨ r1 = 1) → (((r1 = 0) → Q 0 g1) ∧ (¬ (r1 = 0) → Q 1 (z_up g1 p1 0 (g1 10 7))))))))) ∧ (¬ ((g 9 3) = 0) → Q 0 (z_up (z_up g 10 9 5) 10 10 (g 10 6)))) : z_O X 4 m_Pa_readOrder [(2, 9), (2, ((p1 : Nat) : Int))] N σ g Q := by
  refine z_Oenter mi_Pa_readOrder rfl (fun _ => ?_)
  show z_U X 4 m_Pa_readOrder 0 [(0, (2, 9)), (1, (2, ((p1 : Nat) : Int)))] [] N σ g Q
  refine z_aload_n (i := 0) (c := 9) 0 d_Pa_readOrder_0 rfl rfl rfl ?_
  refine z_getz (c := 9) (kI := 3) d_Pa_readOrder_1 fd_Pa_orderTold fl_Pa_38 rfl rfl rfl (ks_F_9 hx) (kl_F_9 hx) (fun z1 => ?_)
  refine z_if_eq (tgt := 23) d_Pa_readOrder_4 (by decide) (fun c1 => ?_) (fun c1 => ?_)
  · have h := h.1 c1
    refine z_aload_n (i := 0) (c := 9) 0 d_Pa_readOrder_23 rfl rfl rfl ?_
    refine z_iconst (n := 1) d_Pa_readOrder_24 (by decide) ?_
    refine z_putz (c := 9) (kI := 3) d_Pa_readOrder_25 fd_Pa_orderTold fl_Pa_38 pf_Pa_orderTold rfl rfl rfl rfl (ks_F_9 hx) (kl_F_9 hx) (by decide) ?_
    refine z_aload_n (i := 0) (c := 9) 0 d_Pa_readOrder_28 rfl rfl rfl ?_
    refine z_getr (c := 9) (kI := 0) (r2 := 10) d_Pa_readOrder_29 fd_Pa_tape fl_Pa_12 rfl rfl rfl (ks_F_9 hx) (kl_F_9 hx) (kr_F_9_0 hx) ?_
    refine z_cV (c := 10) (as := []) (d' := 2) (st := []) d_Pa_readOrder_32 mi_Ta_advance ml_Pa_109 mv_Ta_advance se_Ta_advance rfl rfl rfl rfl (ks_F_10 hx) rfl rfl (kl_F_10 hx) rfl rfl (z_Omono h (fun r0 g0 _ h hro => ?_))
    show z_U X 4 m_Pa_readOrder 35 [(0, (2, 9)), (1, (2, ((p1 : Nat) : Int)))] [] N σ g0 Q
    refine z_aload_n (i := 0) (c := 9) 0 d_Pa_readOrder_35 rfl rfl rfl ?_
    refine z_getr (c := 9) (kI := 0) (r2 := 10) d_Pa_readOrder_36 fd_Pa_tape fl_Pa_12 rfl rfl rfl (ks_F_9 hx) (kl_F_9 hx) (kr_F_9_0 hx) ?_
    refine z_iconst (n := 1) d_Pa_readOrder_39 (by decide) ?_
    refine z_sipush (n := 200) d_Pa_readOrder_40 (by decide) (by decide) ?_
    refine z_cV (c := 10) (as := [(0, 1), (0, 200)]) (d' := 3) (st := []) d_Pa_readOrder_43 mi_Ta_passNumber ml_Pa_112 mv_Ta_passNumber se_Ta_passNumber rfl rfl rfl rfl (ks_F_10 hx) rfl rfl (kl_F_10 hx) rfl rfl (z_Omono h (fun r1 g1 _ h hro => ?_))
    have h := h (z_b01 hro)
    have hzr1 := z_b01 hro
    show z_U X 4 m_Pa_readOrder 46 [(0, (2, 9)), (1, (2, ((p1 : Nat) : Int)))] [(0, r1)] N σ g1 Q
    refine z_if_ne (tgt := 51) d_Pa_readOrder_46 (by decide) (fun c2 => ?_) (fun c2 => ?_)
    · have h := h.2 c2
      refine z_aload_n (i := 1) (c := p1) 1 d_Pa_readOrder_51 rfl rfl rfl ?_
      refine z_aload_n (i := 0) (c := 9) 0 d_Pa_readOrder_52 rfl rfl rfl ?_
      refine z_getr (c := 9) (kI := 0) (r2 := 10) d_Pa_readOrder_53 fd_Pa_tape fl_Pa_12 rfl rfl rfl (ks_F_9 hx) (kl_F_9 hx) (kr_F_9_0 hx) ?_
      refine z_geti (c := 10) (kI := 7) d_Pa_readOrder_56 fd_Ta_number fl_Pa_115 (Or.inl rfl) rfl rfl (ks_F_10 hx) (kl_F_10 hx) ?_
      refine z_puti (c := p1) (kI := 0) d_Pa_readOrder_59 fd_Bd_order fl_Pa_120 pf_Bd_order rfl rfl rfl rfl (ks_Bd_0 hp1) (kl_Bd_0 hp1) ?_
      refine z_iconst (n := 1) d_Pa_readOrder_62 (by decide) ?_
      exact z_zret d_Pa_readOrder_63 rfl (by decide) (by decide) (by decide) ⟨rfl, rfl, h⟩
    · have h := h.1 c2
      refine z_iconst (n := 0) d_Pa_readOrder_49 (by decide) ?_
      exact z_zret d_Pa_readOrder_50 rfl (by decide) (by decide) (by decide) ⟨rfl, rfl, h⟩
  · have h := h.2 c1
    refine z_aload_n (i := 0) (c := 9) 0 d_Pa_readOrder_7 rfl rfl rfl ?_
    refine z_getr (c := 9) (kI := 0) (r2 := 10) d_Pa_readOrder_8 fd_Pa_tape fl_Pa_12 rfl rfl rfl (ks_F_9 hx) (kl_F_9 hx) (kr_F_9_0 hx) ?_
    refine z_iconst (n := 5) d_Pa_readOrder_11 (by decide) ?_
    refine z_aload_n (i := 0) (c := 9) 0 d_Pa_readOrder_12 rfl rfl rfl ?_
    refine z_getr (c := 9) (kI := 0) (r2 := 10) d_Pa_readOrder_13 fd_Pa_tape fl_Pa_12 rfl rfl rfl (ks_F_9 hx) (kl_F_9 hx) (kr_F_9_0 hx) ?_
    refine z_geti (c := 10) (kI := 6) d_Pa_readOrder_16 fd_Ta_at fl_Pa_101 (Or.inl rfl) rfl rfl (ks_F_10 hx) (kl_F_10 hx) ?_
    refine z_cV (c := 10) (as := [(0, 5), (0, g 10 6)]) (d' := 1) (st := []) d_Pa_readOrder_19 mi_Ta_fail ml_Pa_105 mv_Ta_fail se_Ta_fail rfl rfl rfl rfl (ks_F_10 hx) rfl rfl (kl_F_10 hx) rfl rfl (b_Ta_fail_0 hx ?_)
    intro _
    show z_U X 4 m_Pa_readOrder 22 [(0, (2, 9)), (1, (2, ((p1 : Nat) : Int)))] [(0, 0)] N σ (z_up (z_up g 10 9 5) 10 10 (g 10 6)) Q
    exact z_zret d_Pa_readOrder_22 rfl (by decide) (by decide) (by decide) ⟨rfl, rfl, h⟩
theorem d_Pi_halfWay_0 : decode (z_c m_Pi_halfWay) 0 = .ok (.aload_n 0, 1) := by decide +kernel
theorem d_Pi_halfWay_1 : decode (z_c m_Pi_halfWay) 1 = .ok (.invokevirtual 50, 3) := by decide +kernel
theorem d_Pi_halfWay_4 : decode (z_c m_Pi_halfWay) 4 = .ok (.istore_n 1, 1) := by decide +kernel
theorem d_Pi_halfWay_5 : decode (z_c m_Pi_halfWay) 5 = .ok (.iconst (-1), 1) := by decide +kernel
theorem d_Pi_halfWay_6 : decode (z_c m_Pi_halfWay) 6 = .ok (.istore_n 2, 1) := by decide +kernel
theorem d_Pi_halfWay_7 : decode (z_c m_Pi_halfWay) 7 = .ok (.iconst 0, 1) := by decide +kernel
theorem d_Pi_halfWay_8 : decode (z_c m_Pi_halfWay) 8 = .ok (.istore_n 3, 1) := by decide +kernel
theorem d_Pi_halfWay_9 : decode (z_c m_Pi_halfWay) 9 = .ok (.iload_n 3, 1) := by decide +kernel
theorem d_Pi_halfWay_10 : decode (z_c m_Pi_halfWay) 10 = .ok (.aload_n 0, 1) := by decide +kernel
theorem d_Pi_halfWay_11 : decode (z_c m_Pi_halfWay) 11 = .ok (.getfield 27, 3) := by decide +kernel
theorem d_Pi_halfWay_14 : decode (z_c m_Pi_halfWay) 14 = .ok (.if_icmp .ge 46, 3) := by decide +kernel
theorem d_Pi_halfWay_17 : decode (z_c m_Pi_halfWay) 17 = .ok (.iconst 2, 1) := by decide +kernel
theorem d_Pi_halfWay_18 : decode (z_c m_Pi_halfWay) 18 = .ok (.aload_n 0, 1) := by decide +kernel
theorem d_Pi_halfWay_19 : decode (z_c m_Pi_halfWay) 19 = .ok (.aload_n 0, 1) := by decide +kernel
theorem d_Pi_halfWay_20 : decode (z_c m_Pi_halfWay) 20 = .ok (.getfield 9, 3) := by decide +kernel
theorem d_Pi_halfWay_23 : decode (z_c m_Pi_halfWay) 23 = .ok (.iload_n 3, 1) := by decide +kernel
theorem d_Pi_halfWay_24 : decode (z_c m_Pi_halfWay) 24 = .ok (.iaload, 1) := by decide +kernel
theorem d_Pi_halfWay_25 : decode (z_c m_Pi_halfWay) 25 = .ok (.aload_n 0, 1) := by decide +kernel
theorem d_Pi_halfWay_26 : decode (z_c m_Pi_halfWay) 26 = .ok (.getfield 15, 3) := by decide +kernel
theorem d_Pi_halfWay_29 : decode (z_c m_Pi_halfWay) 29 = .ok (.iload_n 3, 1) := by decide +kernel
theorem d_Pi_halfWay_30 : decode (z_c m_Pi_halfWay) 30 = .ok (.iaload, 1) := by decide +kernel
theorem d_Pi_halfWay_31 : decode (z_c m_Pi_halfWay) 31 = .ok (.invokevirtual 35, 3) := by decide +kernel
theorem d_Pi_halfWay_34 : decode (z_c m_Pi_halfWay) 34 = .ok (.imul, 1) := by decide +kernel
theorem d_Pi_halfWay_35 : decode (z_c m_Pi_halfWay) 35 = .ok (.iload_n 1, 1) := by decide +kernel
theorem d_Pi_halfWay_36 : decode (z_c m_Pi_halfWay) 36 = .ok (.if_icmp .lt 18, 3) := by decide +kernel
theorem d_Pi_halfWay_39 : decode (z_c m_Pi_halfWay) 39 = .ok (.iload_n 2, 1) := by decide +kernel
theorem d_Pi_halfWay_40 : decode (z_c m_Pi_halfWay) 40 = .ok (.ifCond .lt 12, 3) := by decide +kernel
theorem d_Pi_halfWay_43 : decode (z_c m_Pi_halfWay) 43 = .ok (.aload_n 0, 1) := by decide +kernel
theorem d_Pi_halfWay_44 : decode (z_c m_Pi_halfWay) 44 = .ok (.iload_n 3, 1) := by decide +kernel
theorem d_Pi_halfWay_45 : decode (z_c m_Pi_halfWay) 45 = .ok (.iload_n 2, 1) := by decide +kernel
theorem d_Pi_halfWay_46 : decode (z_c m_Pi_halfWay) 46 = .ok (.invokevirtual 46, 3) := by decide +kernel
theorem d_Pi_halfWay_49 : decode (z_c m_Pi_halfWay) 49 = .ok (.ifCond .eq 5, 3) := by decide +kernel
theorem d_Pi_halfWay_52 : decode (z_c m_Pi_halfWay) 52 = .ok (.iload_n 3, 1) := by decide +kernel
theorem d_Pi_halfWay_53 : decode (z_c m_Pi_halfWay) 53 = .ok (.istore_n 2, 1) := by decide +kernel
theorem d_Pi_halfWay_54 : decode (z_c m_Pi_halfWay) 54 = .ok (.iinc 3 1, 3) := by decide +kernel
theorem d_Pi_halfWay_57 : decode (z_c m_Pi_halfWay) 57 = .ok (.goto (-48), 3) := by decide +kernel
theorem d_Pi_halfWay_60 : decode (z_c m_Pi_halfWay) 60 = .ok (.iload_n 2, 1) := by decide +kernel
theorem d_Pi_halfWay_61 : decode (z_c m_Pi_halfWay) 61 = .ok (.ireturn, 1) := by decide +kernel
abbrev L_Pi_halfWay_9 (X : z_X) (N : Nat) (σ : z_G) (x1 x2 x3 : Int) (o : Nat) (g : z_G) (Q : z_P) : Prop := z_U X 4 m_Pi_halfWay 9 [(0, (2, ((o : Nat) : Int))), (1, (0, x1)), (2, (0, x2)), (3, (0, x3))] [] N σ g Q
set_option maxRecDepth 8000 in
theorem b_Pi_halfWay_0 {X : z_X} {N : Nat} {σ g : z_G} {Q : z_P} {o : Nat} (ho : z_lay X N σ o z_SPi z_RPi) (h : z_O X 3 m_Pi_weightOfAll [(2, ((o : Nat) : Int))] N σ g (fun r0 g0 => L_Pi_halfWay_9 X N σ r0 (-1) 0 o g0 Q)) : z_O X 4 m_Pi_halfWay [(2, ((o : Nat) : Int))] N σ g Q := by
  refine z_Oenter mi_Pi_halfWay rfl (fun _ => ?_)
  show z_U X 4 m_Pi_halfWay 0 [(0, (2, ((o : Nat) : Int)))] [] N σ g Q
  refine z_aload_n (i := 0) (c := o) 0 d_Pi_halfWay_0 rfl rfl rfl ?_
  refine z_cV (c := o) (as := []) (d' := 3) (st := []) d_Pi_halfWay_1 mi_Pi_weightOfAll ml_Pi_50 mv_Pi_weightOfAll se_Pi_weightOfAll rfl rfl rfl rfl (ks_Pi_0 ho) rfl rfl (kl_Pi_0 ho) rfl rfl (z_Omono h (fun r0 g0 _ h hro => ?_))
  show z_U X 4 m_Pi_halfWay 4 [(0, (2, ((o : Nat) : Int)))] [(0, r0)] N σ g0 Q
  refine z_istore_n (i := 1) (ls' := [(1, (0, r0)), (0, (2, ((o : Nat) : Int)))]) d_Pi_halfWay_4 rfl rfl rfl ?_
  refine z_iconst (n := (-1)) d_Pi_halfWay_5 (by decide) ?_
  refine z_istore_n (i := 2) (ls' := [(2, (0, (-1))), (1, (0, r0)), (0, (2, ((o : Nat) : Int)))]) d_Pi_halfWay_6 rfl rfl rfl ?_
  refine z_iconst (n := 0) d_Pi_halfWay_7 (by decide) ?_
  refine z_istore_n (i := 3) (ls' := [(3, (0, 0)), (2, (0, (-1))), (1, (0, r0)), (0, (2, ((o : Nat) : Int)))]) d_Pi_halfWay_8 rfl rfl rfl ?_
  refine z_sub (ls' := [(0, (2, ((o : Nat) : Int))), (1, (0, r0)), (2, (0, (-1))), (3, (0, 0))]) [3, 2, 1, 0] rfl ?_
  exact h
set_option maxRecDepth 8000 in
theorem b_Pi_halfWay_9 {X : z_X} {N : Nat} {σ g : z_G} {Q : z_P} {x1 x2 x3 : Int} {o : Nat} (ho : z_lay X N σ o z_SPi z_RPi) (h : (((g o 3) ≤ x3) → Q x2 g) ∧ (¬ ((g o 3) ≤ x3) → ((0 ≤ x3 ∧ x3 < 12) ∧ (z_O X 2 m_Pi_weightUpTo [(2, ((o : Nat) : Int)), (0, g (o + 1) x3), (0, g (o + 2) x3)] N σ g (fun r0 g0 => ((-2147483648 ≤ (2 * r0) ∧ (2 * r0) ≤ 2147483647) ∧ ((((2 * r0) < x1) → ((-2147483648 ≤ (x3 + 1) ∧ (x3 + 1) ≤ 2147483647) ∧ L_Pi_halfWay_9 X N σ x1 x2 (x3 + 1) o g0 Q)) ∧ (¬ ((2 * r0) < x1) → (((x2 < 0) → ((-2147483648 ≤ (x3 + 1) ∧ (x3 + 1) ≤ 2147483647) ∧ L_Pi_halfWay_9 X N σ x1 x3 (x3 + 1) o g0 Q)) ∧ (¬ (x2 < 0) → ((0 ≤ x2 ∧ x2 < 12) ∧ ((-9223372036854775808 ≤ ((g0 (o + 1) x3) * (g0 (o + 2) x2)) ∧ ((g0 (o + 1) x3) * (g0 (o + 2) x2)) ≤ 9223372036854775807) ∧ ((-9223372036854775808 ≤ ((g0 (o + 1) x2) * (g0 (o + 2) x3)) ∧ ((g0 (o + 1) x2) * (g0 (o + 2) x3)) ≤ 9223372036854775807) ∧ ((-9223372036854775808 ≤ (((g0 (o + 1) x3) * (g0 (o + 2) x2)) - ((g0 (o + 1) x2) * (g0 (o + 2) x3))) ∧ (((g0 (o + 1) x3) * (g0 (o + 2) x2)) - ((g0 (o + 1) x2) * (g0 (o + 2) x3))) ≤ 9223372036854775807) ∧ (((0 ≤ (((g0 (o + 1) x3) * (g0 (o + 2) x2)) - ((g0 (o + 1) x2) * (g0 (o + 2) x3)))) → ((-2147483648 ≤ (x3 + 1) ∧ (x3 + 1) ≤ 2147483647) ∧ L_Pi_halfWay_9 X N σ x1 x2 (x3 + 1) o g0 Q)) ∧ (¬ (0 ≤ (((g0 (o + 1) x3) * (g0 (o + 2) x2)) - ((g0 (o + 1) x2) * (g0 (o + 2) x3)))) → ((-2147483648 ≤ (x3 + 1) ∧ (x3 + 1) ≤ 2147483647) ∧ L_Pi_halfWay_9 X N σ x1 x3 (x3 + 1) o g0 Q))))))))))))))))) : L_Pi_halfWay_9 X N σ x1 x2 x3 o g Q := by
  refine z_iload_n (i := 3) 3 d_Pi_halfWay_9 rfl rfl ?_
  refine z_aload_n (i := 0) (c := o) 0 d_Pi_halfWay_10 rfl rfl rfl ?_
  refine z_geti (c := o) (kI := 3) d_Pi_halfWay_11 fd_Pi_many fl_Pi_27 (Or.inl rfl) rfl rfl (ks_Pi_0 ho) (kl_Pi_0 ho) ?_
  refine z_icmp_ge (tgt := 60) d_Pi_halfWay_14 (by decide) (fun c1 => ?_) (fun c1 => ?_)
  · have h := h.1 c1
    refine z_iload_n (i := 2) 2 d_Pi_halfWay_60 rfl rfl ?_
    exact z_iret d_Pi_halfWay_61 rfl (by decide) (by decide) ⟨rfl, rfl, h⟩
  · have h := h.2 c1
    refine z_iconst (n := 2) d_Pi_halfWay_17 (by decide) ?_
    refine z_aload_n (i := 0) (c := o) 0 d_Pi_halfWay_18 rfl rfl rfl ?_
    refine z_aload_n (i := 0) (c := o) 0 d_Pi_halfWay_19 rfl rfl rfl ?_
    refine z_getr (c := o) (kI := 0) (r2 := ((o + 1 : Nat) : Int)) d_Pi_halfWay_20 fd_Pi_tops fl_Pi_9 rfl rfl rfl (ks_Pi_0 ho) (kl_Pi_0 ho) (kr_Pi_0_0 ho) ?_
    refine z_iload_n (i := 3) 3 d_Pi_halfWay_23 rfl rfl ?_
    obtain ⟨c2, h⟩ := h
    refine z_iald (c := (o + 1)) (m := 12) d_Pi_halfWay_24 rfl (ks_Pi_1 ho) (kl_Pi_1 ho) rfl (by decide) c2 ?_
    refine z_aload_n (i := 0) (c := o) 0 d_Pi_halfWay_25 rfl rfl rfl ?_
    refine z_getr (c := o) (kI := 1) (r2 := ((o + 2 : Nat) : Int)) d_Pi_halfWay_26 fd_Pi_bottoms fl_Pi_15 rfl rfl rfl (ks_Pi_0 ho) (kl_Pi_0 ho) (kr_Pi_0_1 ho) ?_
    refine z_iload_n (i := 3) 3 d_Pi_halfWay_29 rfl rfl ?_
    refine z_iald (c := (o + 2)) (m := 12) d_Pi_halfWay_30 rfl (ks_Pi_2 ho) (kl_Pi_2 ho) rfl (by decide) c2 ?_
    refine z_cV (c := o) (as := [(0, g (o + 1) x3), (0, g (o + 2) x3)]) (d' := 2) (st := [(0, 2)]) d_Pi_halfWay_31 mi_Pi_weightUpTo ml_Pi_35 mv_Pi_weightUpTo se_Pi_weightUpTo rfl rfl rfl rfl (ks_Pi_0 ho) rfl rfl (kl_Pi_0 ho) rfl rfl (z_Omono h (fun r0 g0 _ h hro => ?_))
    show z_U X 4 m_Pi_halfWay 34 [(0, (2, ((o : Nat) : Int))), (1, (0, x1)), (2, (0, x2)), (3, (0, x3))] [(0, r0), (0, 2)] N σ g0 Q
    obtain ⟨c3, h⟩ := h
    refine z_imul d_Pi_halfWay_34 c3 ?_
    refine z_iload_n (i := 1) 1 d_Pi_halfWay_35 rfl rfl ?_
    refine z_icmp_lt (tgt := 54) d_Pi_halfWay_36 (by decide) (fun c4 => ?_) (fun c4 => ?_)
    · have h := h.1 c4
      obtain ⟨c5, h⟩ := h
      refine z_iinc (n := 1) (ls' := [(3, (0, x3 + 1)), (0, (2, ((o : Nat) : Int))), (1, (0, x1)), (2, (0, x2))]) 3 d_Pi_halfWay_54 rfl c5 rfl rfl ?_
      refine z_goto (tgt := 9) d_Pi_halfWay_57 (by decide) ?_
      refine z_sub (ls' := [(0, (2, ((o : Nat) : Int))), (1, (0, x1)), (2, (0, x2)), (3, (0, x3 + 1))]) [1, 2, 3, 0] rfl ?_
      exact h
    · have h := h.2 c4
      refine z_iload_n (i := 2) 2 d_Pi_halfWay_39 rfl rfl ?_
      refine z_if_lt (tgt := 52) d_Pi_halfWay_40 (by decide) (fun c6 => ?_) (fun c6 => ?_)
      · have h := h.1 c6
        refine z_iload_n (i := 3) 3 d_Pi_halfWay_52 rfl rfl ?_
        refine z_istore_n (i := 2) (ls' := [(2, (0, x3)), (0, (2, ((o : Nat) : Int))), (1, (0, x1)), (3, (0, x3))]) d_Pi_halfWay_53 rfl rfl rfl ?_
        obtain ⟨c7, h⟩ := h
        refine z_iinc (n := 1) (ls' := [(3, (0, x3 + 1)), (2, (0, x3)), (0, (2, ((o : Nat) : Int))), (1, (0, x1))]) 3 d_Pi_halfWay_54 rfl c7 rfl rfl ?_
        refine z_goto (tgt := 9) d_Pi_halfWay_57 (by decide) ?_
        refine z_sub (ls' := [(0, (2, ((o : Nat) : Int))), (1, (0, x1)), (2, (0, x3)), (3, (0, x3 + 1))]) [2, 3, 1, 0] rfl ?_
        exact h
      · have h := h.2 c6
        refine z_aload_n (i := 0) (c := o) 0 d_Pi_halfWay_43 rfl rfl rfl ?_
        refine z_iload_n (i := 3) 3 d_Pi_halfWay_44 rfl rfl ?_
        refine z_iload_n (i := 2) 2 d_Pi_halfWay_45 rfl rfl ?_
        refine z_cV (c := o) (as := [(0, x3), (0, x2)]) (d' := 2) (st := []) d_Pi_halfWay_46 mi_Pi_isLess ml_Pi_46 mv_Pi_isLess se_Pi_isLess rfl rfl rfl rfl (ks_Pi_0 ho) rfl rfl (kl_Pi_0 ho) rfl rfl (b_Pi_isLess_0 ho ?_)
        refine ⟨c2, ?_⟩
        obtain ⟨c8, h⟩ := h
        refine ⟨c8, ?_⟩
        obtain ⟨c9, h⟩ := h
        refine ⟨c9, ?_⟩
        obtain ⟨c10, h⟩ := h
        refine ⟨c10, ?_⟩
        obtain ⟨c11, h⟩ := h
        refine ⟨c11, ?_⟩
        refine ⟨fun c12 => ?_, fun c12 => ?_⟩
        · have h := h.1 c12
          intro _
          show z_U X 4 m_Pi_halfWay 49 [(0, (2, ((o : Nat) : Int))), (1, (0, x1)), (2, (0, x2)), (3, (0, x3))] [(0, 0)] N σ g0 Q
          refine z_if_eq (tgt := 54) d_Pi_halfWay_49 (by decide) (fun _ => ?_) (fun c => absurd (by decide) c)
          obtain ⟨c13, h⟩ := h
          refine z_iinc (n := 1) (ls' := [(3, (0, x3 + 1)), (0, (2, ((o : Nat) : Int))), (1, (0, x1)), (2, (0, x2))]) 3 d_Pi_halfWay_54 rfl c13 rfl rfl ?_
          refine z_goto (tgt := 9) d_Pi_halfWay_57 (by decide) ?_
          refine z_sub (ls' := [(0, (2, ((o : Nat) : Int))), (1, (0, x1)), (2, (0, x2)), (3, (0, x3 + 1))]) [1, 2, 3, 0] rfl ?_
          exact h
        · have h := h.2 c12
          intro _
          show z_U X 4 m_Pi_halfWay 49 [(0, (2, ((o : Nat) : Int))), (1, (0, x1)), (2, (0, x2)), (3, (0, x3))] [(0, 1)] N σ g0 Q
          refine z_if_eq (tgt := 54) d_Pi_halfWay_49 (by decide) (fun c => absurd c (by decide)) (fun _ => ?_)
          refine z_iload_n (i := 3) 3 d_Pi_halfWay_52 rfl rfl ?_
          refine z_istore_n (i := 2) (ls' := [(2, (0, x3)), (0, (2, ((o : Nat) : Int))), (1, (0, x1)), (3, (0, x3))]) d_Pi_halfWay_53 rfl rfl rfl ?_
          obtain ⟨c14, h⟩ := h
          refine z_iinc (n := 1) (ls' := [(3, (0, x3 + 1)), (2, (0, x3)), (0, (2, ((o : Nat) : Int))), (1, (0, x1))]) 3 d_Pi_halfWay_54 rfl c14 rfl rfl ?_
          refine z_goto (tgt := 9) d_Pi_halfWay_57 (by decide) ?_
          refine z_sub (ls' := [(0, (2, ((o : Nat) : Int))), (1, (0, x1)), (2, (0, x3)), (3, (0, x3 + 1))]) [2, 3, 1, 0] rfl ?_
          exact h
theorem d_Pi_rising_0 : decode (z_c m_Pi_rising) 0 = .ok (.iconst 0, 1) := by decide +kernel
theorem d_Pi_rising_1 : decode (z_c m_Pi_rising) 1 = .ok (.istore_n 2, 1) := by decide +kernel
theorem d_Pi_rising_2 : decode (z_c m_Pi_rising) 2 = .ok (.iload_n 2, 1) := by decide +kernel
theorem d_Pi_rising_3 : decode (z_c m_Pi_rising) 3 = .ok (.aload_n 0, 1) := by decide +kernel
theorem d_Pi_rising_4 : decode (z_c m_Pi_rising) 4 = .ok (.getfield 27, 3) := by decide +kernel
theorem d_Pi_rising_7 : decode (z_c m_Pi_rising) 7 = .ok (.if_icmp .ge 20, 3) := by decide +kernel
theorem d_Pi_rising_10 : decode (z_c m_Pi_rising) 10 = .ok (.aload_n 0, 1) := by decide +kernel
theorem d_Pi_rising_11 : decode (z_c m_Pi_rising) 11 = .ok (.iload_n 2, 1) := by decide +kernel
theorem d_Pi_rising_12 : decode (z_c m_Pi_rising) 12 = .ok (.invokevirtual 42, 3) := by decide +kernel
theorem d_Pi_rising_15 : decode (z_c m_Pi_rising) 15 = .ok (.iload_n 1, 1) := by decide +kernel
theorem d_Pi_rising_16 : decode (z_c m_Pi_rising) 16 = .ok (.if_icmp .ne 5, 3) := by decide +kernel
theorem d_Pi_rising_19 : decode (z_c m_Pi_rising) 19 = .ok (.iload_n 2, 1) := by decide +kernel
theorem d_Pi_rising_20 : decode (z_c m_Pi_rising) 20 = .ok (.ireturn, 1) := by decide +kernel
theorem d_Pi_rising_21 : decode (z_c m_Pi_rising) 21 = .ok (.iinc 2 1, 3) := by decide +kernel
theorem d_Pi_rising_24 : decode (z_c m_Pi_rising) 24 = .ok (.goto (-22), 3) := by decide +kernel
theorem d_Pi_rising_27 : decode (z_c m_Pi_rising) 27 = .ok (.iconst (-1), 1) := by decide +kernel
theorem d_Pi_rising_28 : decode (z_c m_Pi_rising) 28 = .ok (.ireturn, 1) := by decide +kernel
abbrev L_Pi_rising_2 (X : z_X) (N : Nat) (σ : z_G) (x1 x2 : Int) (o : Nat) (g : z_G) (Q : z_P) : Prop := z_U X 4 m_Pi_rising 2 [(0, (2, ((o : Nat) : Int))), (1, (0, x1)), (2, (0, x2))] [] N σ g Q
set_option maxRecDepth 8000 in
theorem b_Pi_rising_0 {X : z_X} {N : Nat} {σ g : z_G} {Q : z_P} {a1 : Int} {o : Nat} (ho : z_lay X N σ o z_SPi z_RPi) (h : L_Pi_rising_2 X N σ a1 0 o g Q) : z_O X 4 m_Pi_rising [(2, ((o : Nat) : Int)), (0, a1)] N σ g Q := by
  refine z_Oenter mi_Pi_rising rfl (fun _ => ?_)
  show z_U X 4 m_Pi_rising 0 [(0, (2, ((o : Nat) : Int))), (1, (0, a1))] [] N σ g Q
  refine z_iconst (n := 0) d_Pi_rising_0 (by decide) ?_
  refine z_istore_n (i := 2) (ls' := [(2, (0, 0)), (0, (2, ((o : Nat) : Int))), (1, (0, a1))]) d_Pi_rising_1 rfl rfl rfl ?_
  refine z_sub (ls' := [(0, (2, ((o : Nat) : Int))), (1, (0, a1)), (2, (0, 0))]) [1, 2, 0] rfl ?_
  exact h
set_option maxRecDepth 8000 in
theorem b_Pi_rising_2 {X : z_X} {N : Nat} {σ g : z_G} {Q : z_P} {x1 x2 : Int} {o : Nat} (ho : z_lay X N σ o z_SPi z_RPi) (h : (((g o 3) ≤ x2) → Q (-1) g) ∧ (¬ ((g o 3) ≤ x2) → (z_O X 3 m_Pi_manyBelow [(2, ((o : Nat) : Int)), (0, x2)] N σ g (fun r0 g0 => (((r0 = x1) → Q x2 g0) ∧ (¬ (r0 = x1) → ((-2147483648 ≤ (x2 + 1) ∧ (x2 + 1) ≤ 2147483647) ∧ L_Pi_rising_2 X N σ x1 (x2 + 1) o g0 Q))))))) : L_Pi_rising_2 X N σ x1 x2 o g Q := by
  refine z_iload_n (i := 2) 2 d_Pi_rising_2 rfl rfl ?_
  refine z_aload_n (i := 0) (c := o) 0 d_Pi_rising_3 rfl rfl rfl ?_
  refine z_geti (c := o) (kI := 3) d_Pi_rising_4 fd_Pi_many fl_Pi_27 (Or.inl rfl) rfl rfl (ks_Pi_0 ho) (kl_Pi_0 ho) ?_
  refine z_icmp_ge (tgt := 27) d_Pi_rising_7 (by decide) (fun c1 => ?_) (fun c1 => ?_)
  · have h := h.1 c1
    refine z_iconst (n := (-1)) d_Pi_rising_27 (by decide) ?_
    exact z_iret d_Pi_rising_28 rfl (by decide) (by decide) ⟨rfl, rfl, h⟩
  · have h := h.2 c1
    refine z_aload_n (i := 0) (c := o) 0 d_Pi_rising_10 rfl rfl rfl ?_
    refine z_iload_n (i := 2) 2 d_Pi_rising_11 rfl rfl ?_
    refine z_cV (c := o) (as := [(0, x2)]) (d' := 3) (st := []) d_Pi_rising_12 mi_Pi_manyBelow ml_Pi_42 mv_Pi_manyBelow se_Pi_manyBelow rfl rfl rfl rfl (ks_Pi_0 ho) rfl rfl (kl_Pi_0 ho) rfl rfl (z_Omono h (fun r0 g0 _ h hro => ?_))
    show z_U X 4 m_Pi_rising 15 [(0, (2, ((o : Nat) : Int))), (1, (0, x1)), (2, (0, x2))] [(0, r0)] N σ g0 Q
    refine z_iload_n (i := 1) 1 d_Pi_rising_15 rfl rfl ?_
    refine z_icmp_ne (tgt := 21) d_Pi_rising_16 (by decide) (fun c2 => ?_) (fun c2 => ?_)
    · have h := h.2 c2
      obtain ⟨c3, h⟩ := h
      refine z_iinc (n := 1) (ls' := [(2, (0, x2 + 1)), (0, (2, ((o : Nat) : Int))), (1, (0, x1))]) 2 d_Pi_rising_21 rfl c3 rfl rfl ?_
      refine z_goto (tgt := 2) d_Pi_rising_24 (by decide) ?_
      refine z_sub (ls' := [(0, (2, ((o : Nat) : Int))), (1, (0, x1)), (2, (0, x2 + 1))]) [1, 2, 0] rfl ?_
      exact h
    · have h := h.1 c2
      refine z_iload_n (i := 2) 2 d_Pi_rising_19 rfl rfl ?_
      exact z_iret d_Pi_rising_20 rfl (by decide) (by decide) ⟨rfl, rfl, h⟩
theorem d_Tr_look_0 : decode (z_c m_Tr_look) 0 = .ok (.aload_n 0, 1) := by decide +kernel
theorem d_Tr_look_1 : decode (z_c m_Tr_look) 1 = .ok (.iload_n 1, 1) := by decide +kernel
theorem d_Tr_look_2 : decode (z_c m_Tr_look) 2 = .ok (.iload_n 2, 1) := by decide +kernel
theorem d_Tr_look_3 : decode (z_c m_Tr_look) 3 = .ok (.iconst 1, 1) := by decide +kernel
theorem d_Tr_look_4 : decode (z_c m_Tr_look) 4 = .ok (.invokevirtual 28, 3) := by decide +kernel
theorem d_Tr_look_7 : decode (z_c m_Tr_look) 7 = .ok (.ifCond .eq 14, 3) := by decide +kernel
theorem d_Tr_look_10 : decode (z_c m_Tr_look) 10 = .ok (.aload_n 0, 1) := by decide +kernel
theorem d_Tr_look_11 : decode (z_c m_Tr_look) 11 = .ok (.getfield 11, 3) := by decide +kernel
theorem d_Tr_look_14 : decode (z_c m_Tr_look) 14 = .ok (.iload_n 1, 1) := by decide +kernel
theorem d_Tr_look_15 : decode (z_c m_Tr_look) 15 = .ok (.aaload, 1) := by decide +kernel
theorem d_Tr_look_16 : decode (z_c m_Tr_look) 16 = .ok (.iload_n 2, 1) := by decide +kernel
theorem d_Tr_look_17 : decode (z_c m_Tr_look) 17 = .ok (.laload, 1) := by decide +kernel
theorem d_Tr_look_18 : decode (z_c m_Tr_look) 18 = .ok (.goto 4, 3) := by decide +kernel
theorem d_Tr_look_21 : decode (z_c m_Tr_look) 21 = .ok (.lconst 0, 1) := by decide +kernel
theorem d_Tr_look_22 : decode (z_c m_Tr_look) 22 = .ok (.lreturn, 1) := by decide +kernel
set_option maxRecDepth 8000 in
theorem b_Tr_look_0 {X : z_X} {N : Nat} {σ g : z_G} {Q : z_P} {a1 a2 : Int} (hx : z_lay X N σ 0 z_SF z_RF) (h : z_O X 3 m_Tr_hasRoom [(2, 1), (0, a1), (0, a2), (0, 1)] N σ g (fun r0 g0 => (r0 = 0 ∨ r0 = 1) → (((r0 = 0) → Q 0 g0) ∧ (¬ (r0 = 0) → ((0 ≤ a1 ∧ a1 < 4) ∧ (∃ k1 : Nat, σ 2 a1 = (k1 : Int) ∧ z_sh X k1 = (2, 60) ∧ k1 < N ∧ ((0 ≤ a2 ∧ a2 < 60) ∧ Q (g0 k1 a2) g0))))))) : z_O X 4 m_Tr_look [(2, 1), (0, a1), (0, a2)] N σ g Q := by
  refine z_Oenter mi_Tr_look rfl (fun _ => ?_)
  show z_U X 4 m_Tr_look 0 [(0, (2, 1)), (1, (0, a1)), (2, (0, a2))] [] N σ g Q
  refine z_aload_n (i := 0) (c := 1) 0 d_Tr_look_0 rfl rfl rfl ?_
  refine z_iload_n (i := 1) 1 d_Tr_look_1 rfl rfl ?_
  refine z_iload_n (i := 2) 2 d_Tr_look_2 rfl rfl ?_
  refine z_iconst (n := 1) d_Tr_look_3 (by decide) ?_
  refine z_cV (c := 1) (as := [(0, a1), (0, a2), (0, 1)]) (d' := 3) (st := []) d_Tr_look_4 mi_Tr_hasRoom ml_Tr_28 mv_Tr_hasRoom se_Tr_hasRoom rfl rfl rfl rfl (ks_F_1 hx) rfl rfl (kl_F_1 hx) rfl rfl (z_Omono h (fun r0 g0 _ h hro => ?_))
  have h := h (z_b01 hro)
  have hzr0 := z_b01 hro
  show z_U X 4 m_Tr_look 7 [(0, (2, 1)), (1, (0, a1)), (2, (0, a2))] [(0, r0)] N σ g0 Q
  refine z_if_eq (tgt := 21) d_Tr_look_7 (by decide) (fun c1 => ?_) (fun c1 => ?_)
  · have h := h.1 c1
    refine z_lconst (v := 0) d_Tr_look_21 (by decide) (by decide) ?_
    exact z_lret d_Tr_look_22 rfl (by decide) (by decide) ⟨rfl, rfl, h⟩
  · have h := h.2 c1
    refine z_aload_n (i := 0) (c := 1) 0 d_Tr_look_10 rfl rfl rfl ?_
    refine z_getr (c := 1) (kI := 0) (r2 := 2) d_Tr_look_11 fd_Tr_rows fl_Tr_11 rfl rfl rfl (ks_F_1 hx) (kl_F_1 hx) (kr_F_1_0 hx) ?_
    refine z_iload_n (i := 1) 1 d_Tr_look_14 rfl rfl ?_
    obtain ⟨c2, h⟩ := h
    obtain ⟨k1, qk1, ek1, lk1, h⟩ := h
    refine z_aald5 (c := 2) (m := 4) (r2 := ((k1 : Nat) : Int)) d_Tr_look_15 rfl (ks_F_2 hx) (kl_F_2 hx) rfl (by decide) c2 qk1 ?_
    refine z_iload_n (i := 2) 2 d_Tr_look_16 rfl rfl ?_
    obtain ⟨c3, h⟩ := h
    refine z_lald (c := k1) (m := 60) d_Tr_look_17 rfl ek1 lk1 rfl (by decide) c3 ?_
    refine z_goto (tgt := 22) d_Tr_look_18 (by decide) ?_
    exact z_lret d_Tr_look_22 rfl (by decide) (by decide) ⟨rfl, rfl, h⟩
theorem d_Tr_move_0 : decode (z_c m_Tr_move) 0 = .ok (.aload_n 0, 1) := by decide +kernel
theorem d_Tr_move_1 : decode (z_c m_Tr_move) 1 = .ok (.iload_n 1, 1) := by decide +kernel
theorem d_Tr_move_2 : decode (z_c m_Tr_move) 2 = .ok (.iload_n 2, 1) := by decide +kernel
theorem d_Tr_move_3 : decode (z_c m_Tr_move) 3 = .ok (.iload 5, 2) := by decide +kernel
theorem d_Tr_move_5 : decode (z_c m_Tr_move) 5 = .ok (.invokevirtual 28, 3) := by decide +kernel
theorem d_Tr_move_8 : decode (z_c m_Tr_move) 8 = .ok (.ifCond .eq 35, 3) := by decide +kernel
theorem d_Tr_move_11 : decode (z_c m_Tr_move) 11 = .ok (.aload_n 0, 1) := by decide +kernel
theorem d_Tr_move_12 : decode (z_c m_Tr_move) 12 = .ok (.iload_n 3, 1) := by decide +kernel
theorem d_Tr_move_13 : decode (z_c m_Tr_move) 13 = .ok (.iload 4, 2) := by decide +kernel
theorem d_Tr_move_15 : decode (z_c m_Tr_move) 15 = .ok (.iload 5, 2) := by decide +kernel
theorem d_Tr_move_17 : decode (z_c m_Tr_move) 17 = .ok (.invokevirtual 28, 3) := by decide +kernel
theorem d_Tr_move_20 : decode (z_c m_Tr_move) 20 = .ok (.ifCond .eq 23, 3) := by decide +kernel
theorem d_Tr_move_23 : decode (z_c m_Tr_move) 23 = .ok (.aload_n 0, 1) := by decide +kernel
theorem d_Tr_move_24 : decode (z_c m_Tr_move) 24 = .ok (.getfield 11, 3) := by decide +kernel
theorem d_Tr_move_27 : decode (z_c m_Tr_move) 27 = .ok (.iload_n 1, 1) := by decide +kernel
theorem d_Tr_move_28 : decode (z_c m_Tr_move) 28 = .ok (.aaload, 1) := by decide +kernel
theorem d_Tr_move_29 : decode (z_c m_Tr_move) 29 = .ok (.iload_n 2, 1) := by decide +kernel
theorem d_Tr_move_30 : decode (z_c m_Tr_move) 30 = .ok (.aload_n 0, 1) := by decide +kernel
theorem d_Tr_move_31 : decode (z_c m_Tr_move) 31 = .ok (.getfield 11, 3) := by decide +kernel
theorem d_Tr_move_34 : decode (z_c m_Tr_move) 34 = .ok (.iload_n 3, 1) := by decide +kernel
theorem d_Tr_move_35 : decode (z_c m_Tr_move) 35 = .ok (.aaload, 1) := by decide +kernel
theorem d_Tr_move_36 : decode (z_c m_Tr_move) 36 = .ok (.iload 4, 2) := by decide +kernel
theorem d_Tr_move_38 : decode (z_c m_Tr_move) 38 = .ok (.iload 5, 2) := by decide +kernel
theorem d_Tr_move_40 : decode (z_c m_Tr_move) 40 = .ok (.invokestatic 36, 3) := by decide +kernel
theorem d_Tr_move_43 : decode (z_c m_Tr_move) 43 = .ok (.return_, 1) := by decide +kernel
set_option maxRecDepth 8000 in
theorem b_Tr_move_0 {X : z_X} {N : Nat} {σ g : z_G} {Q : z_P} {a1 a2 a3 a4 a5 : Int} (hx : z_lay X N σ 0 z_SF z_RF) (h : z_O X 3 m_Tr_hasRoom [(2, 1), (0, a1), (0, a2), (0, a5)] N σ g (fun r0 g0 => (r0 = 0 ∨ r0 = 1) → (((r0 = 0) → Q 0 g0) ∧ (¬ (r0 = 0) → (z_O X 3 m_Tr_hasRoom [(2, 1), (0, a3), (0, a4), (0, a5)] N σ g0 (fun r1 g1 => (r1 = 0 ∨ r1 = 1) → (((r1 = 0) → Q 0 g1) ∧ (¬ (r1 = 0) → ((0 ≤ a1 ∧ a1 < 4) ∧ (∃ k1 : Nat, σ 2 a1 = (k1 : Int) ∧ z_sh X k1 = (2, 60) ∧ k1 < N ∧ ((0 ≤ a3 ∧ a3 < 4) ∧ (∃ k2 : Nat, σ 2 a3 = (k2 : Int) ∧ z_sh X k2 = (2, 60) ∧ k2 < N ∧ ((0 ≤ a2 ∧ 0 ≤ a4 ∧ 0 ≤ a5 ∧ a2 + a5 ≤ 60 ∧ a4 + a5 ≤ 60) ∧ Q 0 (z_cp g1 k1 k2 a2 a4 a5)))))))))))))) : z_O X 4 m_Tr_move [(2, 1), (0, a1), (0, a2), (0, a3), (0, a4), (0, a5)] N σ g Q := by
  refine z_Oenter mi_Tr_move rfl (fun _ => ?_)
  show z_U X 4 m_Tr_move 0 [(0, (2, 1)), (1, (0, a1)), (2, (0, a2)), (3, (0, a3)), (4, (0, a4)), (5, (0, a5))] [] N σ g Q
  refine z_aload_n (i := 0) (c := 1) 0 d_Tr_move_0 rfl rfl rfl ?_
  refine z_iload_n (i := 1) 1 d_Tr_move_1 rfl rfl ?_
  refine z_iload_n (i := 2) 2 d_Tr_move_2 rfl rfl ?_
  refine z_iload 5 d_Tr_move_3 rfl ?_
  refine z_cV (c := 1) (as := [(0, a1), (0, a2), (0, a5)]) (d' := 3) (st := []) d_Tr_move_5 mi_Tr_hasRoom ml_Tr_28 mv_Tr_hasRoom se_Tr_hasRoom rfl rfl rfl rfl (ks_F_1 hx) rfl rfl (kl_F_1 hx) rfl rfl (z_Omono h (fun r0 g0 _ h hro => ?_))
  have h := h (z_b01 hro)
  have hzr0 := z_b01 hro
  show z_U X 4 m_Tr_move 8 [(0, (2, 1)), (1, (0, a1)), (2, (0, a2)), (3, (0, a3)), (4, (0, a4)), (5, (0, a5))] [(0, r0)] N σ g0 Q
  refine z_if_eq (tgt := 43) d_Tr_move_8 (by decide) (fun c1 => ?_) (fun c1 => ?_)
  · have h := h.1 c1
    exact z_vret d_Tr_move_43 rfl (by decide) (by decide) ⟨rfl, rfl, h⟩
  · have h := h.2 c1
    refine z_aload_n (i := 0) (c := 1) 0 d_Tr_move_11 rfl rfl rfl ?_
    refine z_iload_n (i := 3) 3 d_Tr_move_12 rfl rfl ?_
    refine z_iload 4 d_Tr_move_13 rfl ?_
    refine z_iload 5 d_Tr_move_15 rfl ?_
    refine z_cV (c := 1) (as := [(0, a3), (0, a4), (0, a5)]) (d' := 3) (st := []) d_Tr_move_17 mi_Tr_hasRoom ml_Tr_28 mv_Tr_hasRoom se_Tr_hasRoom rfl rfl rfl rfl (ks_F_1 hx) rfl rfl (kl_F_1 hx) rfl rfl (z_Omono h (fun r1 g1 _ h hro => ?_))
    have h := h (z_b01 hro)
    have hzr1 := z_b01 hro
    show z_U X 4 m_Tr_move 20 [(0, (2, 1)), (1, (0, a1)), (2, (0, a2)), (3, (0, a3)), (4, (0, a4)), (5, (0, a5))] [(0, r1)] N σ g1 Q
    refine z_if_eq (tgt := 43) d_Tr_move_20 (by decide) (fun c2 => ?_) (fun c2 => ?_)
    · have h := h.1 c2
      exact z_vret d_Tr_move_43 rfl (by decide) (by decide) ⟨rfl, rfl, h⟩
    · have h := h.2 c2
      refine z_aload_n (i := 0) (c := 1) 0 d_Tr_move_23 rfl rfl rfl ?_
      refine z_getr (c := 1) (kI := 0) (r2 := 2) d_Tr_move_24 fd_Tr_rows fl_Tr_11 rfl rfl rfl (ks_F_1 hx) (kl_F_1 hx) (kr_F_1_0 hx) ?_
      refine z_iload_n (i := 1) 1 d_Tr_move_27 rfl rfl ?_
      obtain ⟨c3, h⟩ := h
      obtain ⟨k1, qk1, ek1, lk1, h⟩ := h
      refine z_aald5 (c := 2) (m := 4) (r2 := ((k1 : Nat) : Int)) d_Tr_move_28 rfl (ks_F_2 hx) (kl_F_2 hx) rfl (by decide) c3 qk1 ?_
      refine z_iload_n (i := 2) 2 d_Tr_move_29 rfl rfl ?_
      refine z_aload_n (i := 0) (c := 1) 0 d_Tr_move_30 rfl rfl rfl ?_
      refine z_getr (c := 1) (kI := 0) (r2 := 2) d_Tr_move_31 fd_Tr_rows fl_Tr_11 rfl rfl rfl (ks_F_1 hx) (kl_F_1 hx) (kr_F_1_0 hx) ?_
      refine z_iload_n (i := 3) 3 d_Tr_move_34 rfl rfl ?_
      obtain ⟨c4, h⟩ := h
      obtain ⟨k2, qk2, ek2, lk2, h⟩ := h
      refine z_aald5 (c := 2) (m := 4) (r2 := ((k2 : Nat) : Int)) d_Tr_move_35 rfl (ks_F_2 hx) (kl_F_2 hx) rfl (by decide) c4 qk2 ?_
      refine z_iload 4 d_Tr_move_36 rfl ?_
      refine z_iload 5 d_Tr_move_38 rfl ?_
      obtain ⟨c5, h⟩ := h
      refine z_cpy (t := 1) (c0 := k1) (c1 := k2) (m0 := 60) (m1 := 60) d_Tr_move_40 kac_Tr_36 (Or.inr ⟨rfl, rfl⟩) rfl rfl rfl ek1 ek2 lk1 lk2 rfl rfl (by decide) kas kan kai (by decide) (Nat.le_of_ble_eq_true rfl) c5 ?_
      exact z_vret d_Tr_move_43 rfl (by decide) (by decide) ⟨rfl, rfl, h⟩
theorem d_Tr_put_0 : decode (z_c m_Tr_put) 0 = .ok (.aload_n 0, 1) := by decide +kernel
theorem d_Tr_put_1 : decode (z_c m_Tr_put) 1 = .ok (.iload_n 1, 1) := by decide +kernel
theorem d_Tr_put_2 : decode (z_c m_Tr_put) 2 = .ok (.iload_n 2, 1) := by decide +kernel
theorem d_Tr_put_3 : decode (z_c m_Tr_put) 3 = .ok (.iconst 1, 1) := by decide +kernel
theorem d_Tr_put_4 : decode (z_c m_Tr_put) 4 = .ok (.invokevirtual 28, 3) := by decide +kernel
theorem d_Tr_put_7 : decode (z_c m_Tr_put) 7 = .ok (.ifCond .eq 21, 3) := by decide +kernel
theorem d_Tr_put_10 : decode (z_c m_Tr_put) 10 = .ok (.aload_n 0, 1) := by decide +kernel
theorem d_Tr_put_11 : decode (z_c m_Tr_put) 11 = .ok (.getfield 11, 3) := by decide +kernel
theorem d_Tr_put_14 : decode (z_c m_Tr_put) 14 = .ok (.iload_n 1, 1) := by decide +kernel
theorem d_Tr_put_15 : decode (z_c m_Tr_put) 15 = .ok (.aaload, 1) := by decide +kernel
theorem d_Tr_put_16 : decode (z_c m_Tr_put) 16 = .ok (.iload_n 2, 1) := by decide +kernel
theorem d_Tr_put_17 : decode (z_c m_Tr_put) 17 = .ok (.aload_n 0, 1) := by decide +kernel
theorem d_Tr_put_18 : decode (z_c m_Tr_put) 18 = .ok (.getfield 14, 3) := by decide +kernel
theorem d_Tr_put_21 : decode (z_c m_Tr_put) 21 = .ok (.iload_n 1, 1) := by decide +kernel
theorem d_Tr_put_22 : decode (z_c m_Tr_put) 22 = .ok (.iaload, 1) := by decide +kernel
theorem d_Tr_put_23 : decode (z_c m_Tr_put) 23 = .ok (.lload_n 3, 1) := by decide +kernel
theorem d_Tr_put_24 : decode (z_c m_Tr_put) 24 = .ok (.invokestatic 32, 3) := by decide +kernel
theorem d_Tr_put_27 : decode (z_c m_Tr_put) 27 = .ok (.lastore, 1) := by decide +kernel
theorem d_Tr_put_28 : decode (z_c m_Tr_put) 28 = .ok (.return_, 1) := by decide +kernel
set_option maxRecDepth 8000 in
theorem b_Tr_put_0 {X : z_X} {N : Nat} {σ g : z_G} {Q : z_P} {a1 a2 a3 : Int} (hx : z_lay X N σ 0 z_SF z_RF) (h : z_O X 3 m_Tr_hasRoom [(2, 1), (0, a1), (0, a2), (0, 1)] N σ g (fun r0 g0 => (r0 = 0 ∨ r0 = 1) → (((r0 = 0) → Q 0 g0) ∧ (¬ (r0 = 0) → ((0 ≤ a1 ∧ a1 < 4) ∧ (∃ k1 : Nat, σ 2 a1 = (k1 : Int) ∧ z_sh X k1 = (2, 60) ∧ k1 < N ∧ ((((g0 7 a1) = 0) → ((0 ≤ a2 ∧ a2 < 60) ∧ Q 0 (z_up g0 k1 a2 (Int.bmod (Int.bmod a3 4294967296) 256)))) ∧ (((g0 7 a1) = 1) → ((0 ≤ a2 ∧ a2 < 60) ∧ Q 0 (z_up g0 k1 a2 (Int.bmod (Int.bmod a3 4294967296) 65536)))) ∧ (((g0 7 a1) = 2) → ((0 ≤ a2 ∧ a2 < 60) ∧ Q 0 (z_up g0 k1 a2 (Int.bmod a3 4294967296)))) ∧ ((¬ ((g0 7 a1) = 0) ∧ ¬ ((g0 7 a1) = 1) ∧ ¬ ((g0 7 a1) = 2)) → ((0 ≤ a2 ∧ a2 < 60) ∧ Q 0 (z_up g0 k1 a2 a3)))))))))) : z_O X 4 m_Tr_put [(2, 1), (0, a1), (0, a2), (1, a3)] N σ g Q := by
  refine z_Oenter mi_Tr_put rfl (fun _ => ?_)
  show z_U X 4 m_Tr_put 0 [(0, (2, 1)), (1, (0, a1)), (2, (0, a2)), (3, (1, a3))] [] N σ g Q
  refine z_aload_n (i := 0) (c := 1) 0 d_Tr_put_0 rfl rfl rfl ?_
  refine z_iload_n (i := 1) 1 d_Tr_put_1 rfl rfl ?_
  refine z_iload_n (i := 2) 2 d_Tr_put_2 rfl rfl ?_
  refine z_iconst (n := 1) d_Tr_put_3 (by decide) ?_
  refine z_cV (c := 1) (as := [(0, a1), (0, a2), (0, 1)]) (d' := 3) (st := []) d_Tr_put_4 mi_Tr_hasRoom ml_Tr_28 mv_Tr_hasRoom se_Tr_hasRoom rfl rfl rfl rfl (ks_F_1 hx) rfl rfl (kl_F_1 hx) rfl rfl (z_Omono h (fun r0 g0 _ h hro => ?_))
  have h := h (z_b01 hro)
  have hzr0 := z_b01 hro
  show z_U X 4 m_Tr_put 7 [(0, (2, 1)), (1, (0, a1)), (2, (0, a2)), (3, (1, a3))] [(0, r0)] N σ g0 Q
  refine z_if_eq (tgt := 28) d_Tr_put_7 (by decide) (fun c1 => ?_) (fun c1 => ?_)
  · have h := h.1 c1
    exact z_vret d_Tr_put_28 rfl (by decide) (by decide) ⟨rfl, rfl, h⟩
  · have h := h.2 c1
    refine z_aload_n (i := 0) (c := 1) 0 d_Tr_put_10 rfl rfl rfl ?_
    refine z_getr (c := 1) (kI := 0) (r2 := 2) d_Tr_put_11 fd_Tr_rows fl_Tr_11 rfl rfl rfl (ks_F_1 hx) (kl_F_1 hx) (kr_F_1_0 hx) ?_
    refine z_iload_n (i := 1) 1 d_Tr_put_14 rfl rfl ?_
    obtain ⟨c2, h⟩ := h
    obtain ⟨k1, qk1, ek1, lk1, h⟩ := h
    refine z_aald5 (c := 2) (m := 4) (r2 := ((k1 : Nat) : Int)) d_Tr_put_15 rfl (ks_F_2 hx) (kl_F_2 hx) rfl (by decide) c2 qk1 ?_
    refine z_iload_n (i := 2) 2 d_Tr_put_16 rfl rfl ?_
    refine z_aload_n (i := 0) (c := 1) 0 d_Tr_put_17 rfl rfl rfl ?_
    refine z_getr (c := 1) (kI := 1) (r2 := 7) d_Tr_put_18 fd_Tr_sorts fl_Tr_14 rfl rfl rfl (ks_F_1 hx) (kl_F_1 hx) (kr_F_1_1 hx) ?_
    refine z_iload_n (i := 1) 1 d_Tr_put_21 rfl rfl ?_
    refine z_iald (c := 7) (m := 4) d_Tr_put_22 rfl (ks_F_7 hx) (kl_F_7 hx) rfl (by decide) c2 ?_
    refine z_lload_n (i := 3) 3 d_Tr_put_23 rfl rfl ?_
    refine z_cS (as := [(0, g0 7 a1), (1, a3)]) (d' := 1) (st := [(0, a2), (2, ((k1 : Nat) : Int))]) d_Tr_put_24 mi_Tr_cut ml_Tr_32 ms_Tr_cut rfl rfl rfl rfl rfl (b_Tr_cut_0  ?_)
    refine ⟨fun c3 => ?_, ?_⟩
    · have h := h.1 c3
      intro _
      show z_U X 4 m_Tr_put 27 [(0, (2, 1)), (1, (0, a1)), (2, (0, a2)), (3, (1, a3))] [(1, Int.bmod (Int.bmod a3 4294967296) 256), (0, a2), (2, ((k1 : Nat) : Int))] N σ g0 Q
      obtain ⟨c4, h⟩ := h
      refine z_last (c := k1) (m := 60) d_Tr_put_27 rfl ek1 lk1 rfl (by decide) c4 ?_
      exact z_vret d_Tr_put_28 rfl (by decide) (by decide) ⟨rfl, rfl, h⟩
    have h := h.2
    refine ⟨fun c5 => ?_, ?_⟩
    · have h := h.1 c5
      intro _
      show z_U X 4 m_Tr_put 27 [(0, (2, 1)), (1, (0, a1)), (2, (0, a2)), (3, (1, a3))] [(1, Int.bmod (Int.bmod a3 4294967296) 65536), (0, a2), (2, ((k1 : Nat) : Int))] N σ g0 Q
      obtain ⟨c6, h⟩ := h
      refine z_last (c := k1) (m := 60) d_Tr_put_27 rfl ek1 lk1 rfl (by decide) c6 ?_
      exact z_vret d_Tr_put_28 rfl (by decide) (by decide) ⟨rfl, rfl, h⟩
    have h := h.2
    refine ⟨fun c7 => ?_, ?_⟩
    · have h := h.1 c7
      intro _
      show z_U X 4 m_Tr_put 27 [(0, (2, 1)), (1, (0, a1)), (2, (0, a2)), (3, (1, a3))] [(1, Int.bmod a3 4294967296), (0, a2), (2, ((k1 : Nat) : Int))] N σ g0 Q
      obtain ⟨c8, h⟩ := h
      refine z_last (c := k1) (m := 60) d_Tr_put_27 rfl ek1 lk1 rfl (by decide) c8 ?_
      exact z_vret d_Tr_put_28 rfl (by decide) (by decide) ⟨rfl, rfl, h⟩
    have h := h.2
    intro c9
    have h := h c9
    intro _
    show z_U X 4 m_Tr_put 27 [(0, (2, 1)), (1, (0, a1)), (2, (0, a2)), (3, (1, a3))] [(1, a3), (0, a2), (2, ((k1 : Nat) : Int))] N σ g0 Q
    obtain ⟨c10, h⟩ := h
    refine z_last (c := k1) (m := 60) d_Tr_put_27 rfl ek1 lk1 rfl (by decide) c10 ?_
    exact z_vret d_Tr_put_28 rfl (by decide) (by decide) ⟨rfl, rfl, h⟩
theorem d_Wk_wanders_0 : decode (z_c m_Wk_wanders) 0 = .ok (.aload_n 0, 1) := by decide +kernel
theorem d_Wk_wanders_1 : decode (z_c m_Wk_wanders) 1 = .ok (.iconst 2, 1) := by decide +kernel
theorem d_Wk_wanders_2 : decode (z_c m_Wk_wanders) 2 = .ok (.invokevirtual 151, 3) := by decide +kernel
theorem d_Wk_wanders_5 : decode (z_c m_Wk_wanders) 5 = .ok (.istore_n 2, 1) := by decide +kernel
theorem d_Wk_wanders_6 : decode (z_c m_Wk_wanders) 6 = .ok (.aload_n 0, 1) := by decide +kernel
theorem d_Wk_wanders_7 : decode (z_c m_Wk_wanders) 7 = .ok (.bipush 16, 2) := by decide +kernel
theorem d_Wk_wanders_9 : decode (z_c m_Wk_wanders) 9 = .ok (.invokevirtual 151, 3) := by decide +kernel
theorem d_Wk_wanders_12 : decode (z_c m_Wk_wanders) 12 = .ok (.aload_n 1, 1) := by decide +kernel
theorem d_Wk_wanders_13 : decode (z_c m_Wk_wanders) 13 = .ok (.getfield 154, 3) := by decide +kernel
theorem d_Wk_wanders_16 : decode (z_c m_Wk_wanders) 16 = .ok (.if_icmp .ge 7, 3) := by decide +kernel
theorem d_Wk_wanders_19 : decode (z_c m_Wk_wanders) 19 = .ok (.iconst 1, 1) := by decide +kernel
theorem d_Wk_wanders_20 : decode (z_c m_Wk_wanders) 20 = .ok (.goto 4, 3) := by decide +kernel
theorem d_Wk_wanders_23 : decode (z_c m_Wk_wanders) 23 = .ok (.iconst 0, 1) := by decide +kernel
theorem d_Wk_wanders_24 : decode (z_c m_Wk_wanders) 24 = .ok (.istore_n 3, 1) := by decide +kernel
theorem d_Wk_wanders_25 : decode (z_c m_Wk_wanders) 25 = .ok (.aload_n 0, 1) := by decide +kernel
theorem d_Wk_wanders_26 : decode (z_c m_Wk_wanders) 26 = .ok (.iload_n 3, 1) := by decide +kernel
theorem d_Wk_wanders_27 : decode (z_c m_Wk_wanders) 27 = .ok (.ifCond .eq 10, 3) := by decide +kernel
theorem d_Wk_wanders_30 : decode (z_c m_Wk_wanders) 30 = .ok (.aload_n 1, 1) := by decide +kernel
theorem d_Wk_wanders_31 : decode (z_c m_Wk_wanders) 31 = .ok (.invokevirtual 112, 3) := by decide +kernel
theorem d_Wk_wanders_34 : decode (z_c m_Wk_wanders) 34 = .ok (.goto 8, 3) := by decide +kernel
theorem d_Wk_wanders_37 : decode (z_c m_Wk_wanders) 37 = .ok (.aload_n 1, 1) := by decide +kernel
theorem d_Wk_wanders_38 : decode (z_c m_Wk_wanders) 38 = .ok (.iload_n 2, 1) := by decide +kernel
theorem d_Wk_wanders_39 : decode (z_c m_Wk_wanders) 39 = .ok (.invokevirtual 104, 3) := by decide +kernel
theorem d_Wk_wanders_42 : decode (z_c m_Wk_wanders) 42 = .ok (.invokevirtual 108, 3) := by decide +kernel
theorem d_Wk_wanders_45 : decode (z_c m_Wk_wanders) 45 = .ok (.ireturn, 1) := by decide +kernel
set_option maxRecDepth 8000 in
theorem b_Wk_wanders_0 {X : z_X} {N : Nat} {σ g : z_G} {Q : z_P} {o p1 : Nat} (ho : z_lay X N σ o z_SWk z_RWk) (hp1 : z_lay X N σ p1 z_SBd z_RBd) (h : z_O X 1 m_Wk_draw [(2, ((o : Nat) : Int)), (0, 2)] N σ g (fun r0 g0 => (z_O X 1 m_Wk_draw [(2, ((o : Nat) : Int)), (0, 16)] N σ g0 (fun r1 g1 => ((((g1 p1 1) ≤ r1) → (z_O X 3 m_Bd_goDown [(2, ((p1 : Nat) : Int)), (0, r0)] N σ g1 (fun r2 g2 => (r2 = 0 ∨ r2 = 1) → (((r2 = 0) → ((r2 = 0 ∨ r2 = 1) ∧ Q r2 g2)) ∧ (¬ (r2 = 0) → ((-2147483648 ≤ ((g2 o 2) + 1) ∧ ((g2 o 2) + 1) ≤ 2147483647) ∧ ((r2 = 0 ∨ r2 = 1) ∧ Q r2 (z_up g2 o 2 ((g2 o 2) + 1))))))))) ∧ (¬ ((g1 p1 1) ≤ r1) → (z_O X 3 m_Bd_goUp [(2, ((p1 : Nat) : Int))] N σ g1 (fun r5 g5 => (r5 = 0 ∨ r5 = 1) → (((r5 = 0) → ((r5 = 0 ∨ r5 = 1) ∧ Q r5 g5)) ∧ (¬ (r5 = 0) → ((-2147483648 ≤ ((g5 o 2) + 1) ∧ ((g5 o 2) + 1) ≤ 2147483647) ∧ ((r5 = 0 ∨ r5 = 1) ∧ Q r5 (z_up g5 o 2 ((g5 o 2) + 1)))))))))))))) : z_O X 4 m_Wk_wanders [(2, ((o : Nat) : Int)), (2, ((p1 : Nat) : Int))] N σ g Q := by
  refine z_Oenter mi_Wk_wanders rfl (fun _ => ?_)
  show z_U X 4 m_Wk_wanders 0 [(0, (2, ((o : Nat) : Int))), (1, (2, ((p1 : Nat) : Int)))] [] N σ g Q
  refine z_aload_n (i := 0) (c := o) 0 d_Wk_wanders_0 rfl rfl rfl ?_
  refine z_iconst (n := 2) d_Wk_wanders_1 (by decide) ?_
  refine z_cV (c := o) (as := [(0, 2)]) (d' := 1) (st := []) d_Wk_wanders_2 mi_Wk_draw ml_Wk_151 mv_Wk_draw se_Wk_draw rfl rfl rfl rfl (ks_Wk_0 ho) rfl rfl (kl_Wk_0 ho) rfl rfl (z_Omono h (fun r0 g0 _ h hro => ?_))
  show z_U X 4 m_Wk_wanders 5 [(0, (2, ((o : Nat) : Int))), (1, (2, ((p1 : Nat) : Int)))] [(0, r0)] N σ g0 Q
  refine z_istore_n (i := 2) (ls' := [(2, (0, r0)), (0, (2, ((o : Nat) : Int))), (1, (2, ((p1 : Nat) : Int)))]) d_Wk_wanders_5 rfl rfl rfl ?_
  refine z_aload_n (i := 0) (c := o) 1 d_Wk_wanders_6 rfl rfl rfl ?_
  refine z_bipush (n := 16) d_Wk_wanders_7 (by decide) (by decide) ?_
  refine z_cV (c := o) (as := [(0, 16)]) (d' := 1) (st := []) d_Wk_wanders_9 mi_Wk_draw ml_Wk_151 mv_Wk_draw se_Wk_draw rfl rfl rfl rfl (ks_Wk_0 ho) rfl rfl (kl_Wk_0 ho) rfl rfl (z_Omono h (fun r1 g1 _ h hro => ?_))
  show z_U X 4 m_Wk_wanders 12 [(2, (0, r0)), (0, (2, ((o : Nat) : Int))), (1, (2, ((p1 : Nat) : Int)))] [(0, r1)] N σ g1 Q
  refine z_aload_n (i := 1) (c := p1) 2 d_Wk_wanders_12 rfl rfl rfl ?_
  refine z_geti (c := p1) (kI := 1) d_Wk_wanders_13 fd_Bd_odds fl_Wk_154 (Or.inl rfl) rfl rfl (ks_Bd_0 hp1) (kl_Bd_0 hp1) ?_
  refine z_icmp_ge (tgt := 23) d_Wk_wanders_16 (by decide) (fun c1 => ?_) (fun c1 => ?_)
  · have h := h.1 c1
    refine z_iconst (n := 0) d_Wk_wanders_23 (by decide) ?_
    refine z_istore_n (i := 3) (ls' := [(3, (0, 0)), (2, (0, r0)), (0, (2, ((o : Nat) : Int))), (1, (2, ((p1 : Nat) : Int)))]) d_Wk_wanders_24 rfl rfl rfl ?_
    refine z_aload_n (i := 0) (c := o) 2 d_Wk_wanders_25 rfl rfl rfl ?_
    refine z_iload_n (i := 3) 0 d_Wk_wanders_26 rfl rfl ?_
    refine z_if_eq (tgt := 37) d_Wk_wanders_27 (by decide) (fun _ => ?_) (fun c => absurd (by decide) c)
    refine z_aload_n (i := 1) (c := p1) 3 d_Wk_wanders_37 rfl rfl rfl ?_
    refine z_iload_n (i := 2) 1 d_Wk_wanders_38 rfl rfl ?_
    refine z_cV (c := p1) (as := [(0, r0)]) (d' := 3) (st := [(2, ((o : Nat) : Int))]) d_Wk_wanders_39 mi_Bd_goDown ml_Wk_104 mv_Bd_goDown se_Bd_goDown rfl rfl rfl rfl (ks_Bd_0 hp1) rfl rfl (kl_Bd_0 hp1) rfl rfl (z_Omono h (fun r2 g2 _ h hro => ?_))
    have h := h (z_b01 hro)
    have hzr2 := z_b01 hro
    show z_U X 4 m_Wk_wanders 42 [(3, (0, 0)), (2, (0, r0)), (0, (2, ((o : Nat) : Int))), (1, (2, ((p1 : Nat) : Int)))] [(0, r2), (2, ((o : Nat) : Int))] N σ g2 Q
    refine z_cV (c := o) (as := [(0, r2)]) (d' := 1) (st := []) d_Wk_wanders_42 mi_Wk_moves ml_Wk_108 mv_Wk_moves se_Wk_moves rfl rfl rfl rfl (ks_Wk_0 ho) rfl rfl (kl_Wk_0 ho) rfl rfl (b_Wk_moves_0 ho ?_)
    refine ⟨fun c2 => ?_, fun c2 => ?_⟩
    · have h := h.1 c2
      obtain ⟨c3, h⟩ := h
      refine ⟨c3, ?_⟩
      intro hro3
      show z_U X 4 m_Wk_wanders 45 [(3, (0, 0)), (2, (0, r0)), (0, (2, ((o : Nat) : Int))), (1, (2, ((p1 : Nat) : Int)))] [(0, r2)] N σ g2 Q
      exact z_zret d_Wk_wanders_45 rfl (by decide) (by decide) (z_b01 hro3) ⟨rfl, rfl, h⟩
    · have h := h.2 c2
      obtain ⟨c4, h⟩ := h
      refine ⟨c4, ?_⟩
      obtain ⟨c5, h⟩ := h
      refine ⟨c5, ?_⟩
      intro hro4
      show z_U X 4 m_Wk_wanders 45 [(3, (0, 0)), (2, (0, r0)), (0, (2, ((o : Nat) : Int))), (1, (2, ((p1 : Nat) : Int)))] [(0, r2)] N σ (z_up g2 o 2 ((g2 o 2) + 1)) Q
      exact z_zret d_Wk_wanders_45 rfl (by decide) (by decide) (z_b01 hro4) ⟨rfl, rfl, h⟩
  · have h := h.2 c1
    refine z_iconst (n := 1) d_Wk_wanders_19 (by decide) ?_
    refine z_goto (tgt := 24) d_Wk_wanders_20 (by decide) ?_
    refine z_istore_n (i := 3) (ls' := [(3, (0, 1)), (2, (0, r0)), (0, (2, ((o : Nat) : Int))), (1, (2, ((p1 : Nat) : Int)))]) d_Wk_wanders_24 rfl rfl rfl ?_
    refine z_aload_n (i := 0) (c := o) 2 d_Wk_wanders_25 rfl rfl rfl ?_
    refine z_iload_n (i := 3) 0 d_Wk_wanders_26 rfl rfl ?_
    refine z_if_eq (tgt := 37) d_Wk_wanders_27 (by decide) (fun c => absurd c (by decide)) (fun _ => ?_)
    refine z_aload_n (i := 1) (c := p1) 3 d_Wk_wanders_30 rfl rfl rfl ?_
    refine z_cV (c := p1) (as := []) (d' := 3) (st := [(2, ((o : Nat) : Int))]) d_Wk_wanders_31 mi_Bd_goUp ml_Wk_112 mv_Bd_goUp se_Bd_goUp rfl rfl rfl rfl (ks_Bd_0 hp1) rfl rfl (kl_Bd_0 hp1) rfl rfl (z_Omono h (fun r5 g5 _ h hro => ?_))
    have h := h (z_b01 hro)
    have hzr5 := z_b01 hro
    show z_U X 4 m_Wk_wanders 34 [(3, (0, 1)), (2, (0, r0)), (0, (2, ((o : Nat) : Int))), (1, (2, ((p1 : Nat) : Int)))] [(0, r5), (2, ((o : Nat) : Int))] N σ g5 Q
    refine z_goto (tgt := 42) d_Wk_wanders_34 (by decide) ?_
    refine z_cV (c := o) (as := [(0, r5)]) (d' := 1) (st := []) d_Wk_wanders_42 mi_Wk_moves ml_Wk_108 mv_Wk_moves se_Wk_moves rfl rfl rfl rfl (ks_Wk_0 ho) rfl rfl (kl_Wk_0 ho) rfl rfl (b_Wk_moves_0 ho ?_)
    refine ⟨fun c6 => ?_, fun c6 => ?_⟩
    · have h := h.1 c6
      obtain ⟨c7, h⟩ := h
      refine ⟨c7, ?_⟩
      intro hro6
      show z_U X 4 m_Wk_wanders 45 [(3, (0, 1)), (2, (0, r0)), (0, (2, ((o : Nat) : Int))), (1, (2, ((p1 : Nat) : Int)))] [(0, r5)] N σ g5 Q
      exact z_zret d_Wk_wanders_45 rfl (by decide) (by decide) (z_b01 hro6) ⟨rfl, rfl, h⟩
    · have h := h.2 c6
      obtain ⟨c8, h⟩ := h
      refine ⟨c8, ?_⟩
      obtain ⟨c9, h⟩ := h
      refine ⟨c9, ?_⟩
      intro hro7
      show z_U X 4 m_Wk_wanders 45 [(3, (0, 1)), (2, (0, r0)), (0, (2, ((o : Nat) : Int))), (1, (2, ((p1 : Nat) : Int)))] [(0, r5)] N σ (z_up g5 o 2 ((g5 o 2) + 1)) Q
      exact z_zret d_Wk_wanders_45 rfl (by decide) (by decide) (z_b01 hro7) ⟨rfl, rfl, h⟩
theorem d_F_copyPins_0 : decode (z_c m_F_copyPins) 0 = .ok (.aload_n 0, 1) := by decide +kernel
theorem d_F_copyPins_1 : decode (z_c m_F_copyPins) 1 = .ok (.getfield 23, 3) := by decide +kernel
theorem d_F_copyPins_4 : decode (z_c m_F_copyPins) 4 = .ok (.iload_n 1, 1) := by decide +kernel
theorem d_F_copyPins_5 : decode (z_c m_F_copyPins) 5 = .ok (.invokevirtual 95, 3) := by decide +kernel
theorem d_F_copyPins_8 : decode (z_c m_F_copyPins) 8 = .ok (.ifCond .ne 9, 3) := by decide +kernel
theorem d_F_copyPins_11 : decode (z_c m_F_copyPins) 11 = .ok (.aload_n 0, 1) := by decide +kernel
theorem d_F_copyPins_12 : decode (z_c m_F_copyPins) 12 = .ok (.iconst 1, 1) := by decide +kernel
theorem d_F_copyPins_13 : decode (z_c m_F_copyPins) 13 = .ok (.invokevirtual 121, 3) := by decide +kernel
theorem d_F_copyPins_16 : decode (z_c m_F_copyPins) 16 = .ok (.ireturn, 1) := by decide +kernel
theorem d_F_copyPins_17 : decode (z_c m_F_copyPins) 17 = .ok (.aload_n 0, 1) := by decide +kernel
theorem d_F_copyPins_18 : decode (z_c m_F_copyPins) 18 = .ok (.getfield 23, 3) := by decide +kernel
theorem d_F_copyPins_21 : decode (z_c m_F_copyPins) 21 = .ok (.iload_n 1, 1) := by decide +kernel
theorem d_F_copyPins_22 : decode (z_c m_F_copyPins) 22 = .ok (.invokevirtual 129, 3) := by decide +kernel
theorem d_F_copyPins_25 : decode (z_c m_F_copyPins) 25 = .ok (.ifCond .eq 9, 3) := by decide +kernel
theorem d_F_copyPins_28 : decode (z_c m_F_copyPins) 28 = .ok (.aload_n 0, 1) := by decide +kernel
theorem d_F_copyPins_29 : decode (z_c m_F_copyPins) 29 = .ok (.iconst 2, 1) := by decide +kernel
theorem d_F_copyPins_30 : decode (z_c m_F_copyPins) 30 = .ok (.invokevirtual 121, 3) := by decide +kernel
theorem d_F_copyPins_33 : decode (z_c m_F_copyPins) 33 = .ok (.ireturn, 1) := by decide +kernel
theorem d_F_copyPins_34 : decode (z_c m_F_copyPins) 34 = .ok (.aload_n 0, 1) := by decide +kernel
theorem d_F_copyPins_35 : decode (z_c m_F_copyPins) 35 = .ok (.getfield 67, 3) := by decide +kernel
theorem d_F_copyPins_38 : decode (z_c m_F_copyPins) 38 = .ok (.getfield 167, 3) := by decide +kernel
theorem d_F_copyPins_41 : decode (z_c m_F_copyPins) 41 = .ok (.astore_n 2, 1) := by decide +kernel
theorem d_F_copyPins_42 : decode (z_c m_F_copyPins) 42 = .ok (.aload_n 0, 1) := by decide +kernel
theorem d_F_copyPins_43 : decode (z_c m_F_copyPins) 43 = .ok (.getfield 23, 3) := by decide +kernel
theorem d_F_copyPins_46 : decode (z_c m_F_copyPins) 46 = .ok (.iload_n 1, 1) := by decide +kernel
theorem d_F_copyPins_47 : decode (z_c m_F_copyPins) 47 = .ok (.iconst 0, 1) := by decide +kernel
theorem d_F_copyPins_48 : decode (z_c m_F_copyPins) 48 = .ok (.iconst 2, 1) := by decide +kernel
theorem d_F_copyPins_49 : decode (z_c m_F_copyPins) 49 = .ok (.aload_n 2, 1) := by decide +kernel
theorem d_F_copyPins_50 : decode (z_c m_F_copyPins) 50 = .ok (.getfield 171, 3) := by decide +kernel
theorem d_F_copyPins_53 : decode (z_c m_F_copyPins) 53 = .ok (.imul, 1) := by decide +kernel
theorem d_F_copyPins_54 : decode (z_c m_F_copyPins) 54 = .ok (.invokevirtual 135, 3) := by decide +kernel
theorem d_F_copyPins_57 : decode (z_c m_F_copyPins) 57 = .ok (.ifCond .ne 9, 3) := by decide +kernel
theorem d_F_copyPins_60 : decode (z_c m_F_copyPins) 60 = .ok (.aload_n 0, 1) := by decide +kernel
theorem d_F_copyPins_61 : decode (z_c m_F_copyPins) 61 = .ok (.iconst 3, 1) := by decide +kernel
theorem d_F_copyPins_62 : decode (z_c m_F_copyPins) 62 = .ok (.invokevirtual 121, 3) := by decide +kernel
theorem d_F_copyPins_65 : decode (z_c m_F_copyPins) 65 = .ok (.ireturn, 1) := by decide +kernel
theorem d_F_copyPins_66 : decode (z_c m_F_copyPins) 66 = .ok (.iconst 0, 1) := by decide +kernel
theorem d_F_copyPins_67 : decode (z_c m_F_copyPins) 67 = .ok (.istore_n 3, 1) := by decide +kernel
theorem d_F_copyPins_68 : decode (z_c m_F_copyPins) 68 = .ok (.iload_n 3, 1) := by decide +kernel
theorem d_F_copyPins_69 : decode (z_c m_F_copyPins) 69 = .ok (.aload_n 2, 1) := by decide +kernel
theorem d_F_copyPins_70 : decode (z_c m_F_copyPins) 70 = .ok (.getfield 171, 3) := by decide +kernel
theorem d_F_copyPins_73 : decode (z_c m_F_copyPins) 73 = .ok (.if_icmp .ge 46, 3) := by decide +kernel
theorem d_F_copyPins_76 : decode (z_c m_F_copyPins) 76 = .ok (.aload_n 0, 1) := by decide +kernel
theorem d_F_copyPins_77 : decode (z_c m_F_copyPins) 77 = .ok (.getfield 23, 3) := by decide +kernel
theorem d_F_copyPins_80 : decode (z_c m_F_copyPins) 80 = .ok (.iload_n 1, 1) := by decide +kernel
theorem d_F_copyPins_81 : decode (z_c m_F_copyPins) 81 = .ok (.iload_n 3, 1) := by decide +kernel
theorem d_F_copyPins_82 : decode (z_c m_F_copyPins) 82 = .ok (.aload_n 2, 1) := by decide +kernel
theorem d_F_copyPins_83 : decode (z_c m_F_copyPins) 83 = .ok (.getfield 384, 3) := by decide +kernel
theorem d_F_copyPins_86 : decode (z_c m_F_copyPins) 86 = .ok (.iload_n 3, 1) := by decide +kernel
theorem d_F_copyPins_87 : decode (z_c m_F_copyPins) 87 = .ok (.iaload, 1) := by decide +kernel
theorem d_F_copyPins_88 : decode (z_c m_F_copyPins) 88 = .ok (.i2l, 1) := by decide +kernel
theorem d_F_copyPins_89 : decode (z_c m_F_copyPins) 89 = .ok (.invokevirtual 117, 3) := by decide +kernel
theorem d_F_copyPins_92 : decode (z_c m_F_copyPins) 92 = .ok (.aload_n 0, 1) := by decide +kernel
theorem d_F_copyPins_93 : decode (z_c m_F_copyPins) 93 = .ok (.getfield 23, 3) := by decide +kernel
theorem d_F_copyPins_96 : decode (z_c m_F_copyPins) 96 = .ok (.iload_n 1, 1) := by decide +kernel
theorem d_F_copyPins_97 : decode (z_c m_F_copyPins) 97 = .ok (.aload_n 2, 1) := by decide +kernel
theorem d_F_copyPins_98 : decode (z_c m_F_copyPins) 98 = .ok (.getfield 171, 3) := by decide +kernel
theorem d_F_copyPins_101 : decode (z_c m_F_copyPins) 101 = .ok (.iload_n 3, 1) := by decide +kernel
theorem d_F_copyPins_102 : decode (z_c m_F_copyPins) 102 = .ok (.iadd, 1) := by decide +kernel
theorem d_F_copyPins_103 : decode (z_c m_F_copyPins) 103 = .ok (.aload_n 2, 1) := by decide +kernel
theorem d_F_copyPins_104 : decode (z_c m_F_copyPins) 104 = .ok (.getfield 387, 3) := by decide +kernel
theorem d_F_copyPins_107 : decode (z_c m_F_copyPins) 107 = .ok (.iload_n 3, 1) := by decide +kernel
theorem d_F_copyPins_108 : decode (z_c m_F_copyPins) 108 = .ok (.iaload, 1) := by decide +kernel
theorem d_F_copyPins_109 : decode (z_c m_F_copyPins) 109 = .ok (.i2l, 1) := by decide +kernel
theorem d_F_copyPins_110 : decode (z_c m_F_copyPins) 110 = .ok (.invokevirtual 117, 3) := by decide +kernel
theorem d_F_copyPins_113 : decode (z_c m_F_copyPins) 113 = .ok (.iinc 3 1, 3) := by decide +kernel
theorem d_F_copyPins_116 : decode (z_c m_F_copyPins) 116 = .ok (.goto (-48), 3) := by decide +kernel
theorem d_F_copyPins_119 : decode (z_c m_F_copyPins) 119 = .ok (.aload_n 0, 1) := by decide +kernel
theorem d_F_copyPins_120 : decode (z_c m_F_copyPins) 120 = .ok (.aload_n 2, 1) := by decide +kernel
theorem d_F_copyPins_121 : decode (z_c m_F_copyPins) 121 = .ok (.getfield 171, 3) := by decide +kernel
theorem d_F_copyPins_124 : decode (z_c m_F_copyPins) 124 = .ok (.invokevirtual 176, 3) := by decide +kernel
theorem d_F_copyPins_127 : decode (z_c m_F_copyPins) 127 = .ok (.ireturn, 1) := by decide +kernel
abbrev L_F_copyPins_68 (X : z_X) (N : Nat) (σ : z_G) (x1 x3 : Int) (g : z_G) (Q : z_P) : Prop := z_U X 5 m_F_copyPins 68 [(0, (2, 0)), (1, (0, x1)), (2, (2, 25)), (3, (0, x3))] [] N σ g Q
set_option maxRecDepth 8000 in
theorem b_F_copyPins_0 {X : z_X} {N : Nat} {σ g : z_G} {Q : z_P} {a1 : Int} (hx : z_lay X N σ 0 z_SF z_RF) (h : ((a1 < 0) → Q (-1) (z_up g 0 0 1)) ∧ (¬ (a1 < 0) → (((4 ≤ a1) → Q (-1) (z_up g 0 0 1)) ∧ (¬ (4 ≤ a1) → ((0 ≤ a1 ∧ a1 < 4) ∧ ((((g 8 a1) = (-1)) → Q (-1) (z_up g 0 0 2)) ∧ (¬ ((g 8 a1) = (-1)) → ((-2147483648 ≤ (2 * (g 25 3)) ∧ (2 * (g 25 3)) ≤ 2147483647) ∧ (z_O X 3 m_Tr_hasRoom [(2, 1), (0, a1), (0, 0), (0, 2 * (g 25 3))] N σ g (fun r0 g0 => (r0 = 0 ∨ r0 = 1) → (((r0 = 0) → Q (-1) (z_up g0 0 0 3)) ∧ (¬ (r0 = 0) → L_F_copyPins_68 X N σ a1 0 g0 Q)))))))))))) : z_O X 5 m_F_copyPins [(2, 0), (0, a1)] N σ g Q := by
  refine z_Oenter mi_F_copyPins rfl (fun _ => ?_)
  show z_U X 5 m_F_copyPins 0 [(0, (2, 0)), (1, (0, a1))] [] N σ g Q
  refine z_aload_n (i := 0) (c := 0) 0 d_F_copyPins_0 rfl rfl rfl ?_
  refine z_getr (c := 0) (kI := 3) (r2 := 1) d_F_copyPins_1 fd_F_trays fl_F_23 rfl rfl rfl (ks_F_0 hx) (kl_F_0 hx) (kr_F_0_3 hx) ?_
  refine z_iload_n (i := 1) 1 d_F_copyPins_4 rfl rfl ?_
  refine z_cV (c := 1) (as := [(0, a1)]) (d' := 1) (st := []) d_F_copyPins_5 mi_Tr_isTray ml_F_95 mv_Tr_isTray se_Tr_isTray rfl rfl rfl rfl (ks_F_1 hx) rfl rfl (kl_F_1 hx) rfl rfl (b_Tr_isTray_0 hx ?_)
  refine ⟨fun c1 => ?_, fun c1 => ?_⟩
  · have h := h.1 c1
    intro _
    show z_U X 5 m_F_copyPins 8 [(0, (2, 0)), (1, (0, a1))] [(0, 0)] N σ g Q
    refine z_if_ne (tgt := 17) d_F_copyPins_8 (by decide) (fun c => absurd (by decide) c) (fun _ => ?_)
    refine z_aload_n (i := 0) (c := 0) 0 d_F_copyPins_11 rfl rfl rfl ?_
    refine z_iconst (n := 1) d_F_copyPins_12 (by decide) ?_
    refine z_cV (c := 0) (as := [(0, 1)]) (d' := 1) (st := []) d_F_copyPins_13 mi_F_none ml_F_121 mv_F_none se_F_none rfl rfl rfl rfl (ks_F_0 hx) rfl rfl (kl_F_0 hx) rfl rfl (b_F_none_0 hx ?_)
    intro _
    show z_U X 5 m_F_copyPins 16 [(0, (2, 0)), (1, (0, a1))] [(0, (-1))] N σ (z_up g 0 0 1) Q
    exact z_iret d_F_copyPins_16 rfl (by decide) (by decide) ⟨rfl, rfl, h⟩
  · have h := h.2 c1
    refine ⟨fun c2 => ?_, fun c2 => ?_⟩
    · have h := h.1 c2
      intro _
      show z_U X 5 m_F_copyPins 8 [(0, (2, 0)), (1, (0, a1))] [(0, 0)] N σ g Q
      refine z_if_ne (tgt := 17) d_F_copyPins_8 (by decide) (fun c => absurd (by decide) c) (fun _ => ?_)
      refine z_aload_n (i := 0) (c := 0) 0 d_F_copyPins_11 rfl rfl rfl ?_
      refine z_iconst (n := 1) d_F_copyPins_12 (by decide) ?_
      refine z_cV (c := 0) (as := [(0, 1)]) (d' := 1) (st := []) d_F_copyPins_13 mi_F_none ml_F_121 mv_F_none se_F_none rfl rfl rfl rfl (ks_F_0 hx) rfl rfl (kl_F_0 hx) rfl rfl (b_F_none_0 hx ?_)
      intro _
      show z_U X 5 m_F_copyPins 16 [(0, (2, 0)), (1, (0, a1))] [(0, (-1))] N σ (z_up g 0 0 1) Q
      exact z_iret d_F_copyPins_16 rfl (by decide) (by decide) ⟨rfl, rfl, h⟩
    · have h := h.2 c2
      intro _
      show z_U X 5 m_F_copyPins 8 [(0, (2, 0)), (1, (0, a1))] [(0, 1)] N σ g Q
      refine z_if_ne (tgt := 17) d_F_copyPins_8 (by decide) (fun _ => ?_) (fun c => absurd c (by decide))
      refine z_aload_n (i := 0) (c := 0) 0 d_F_copyPins_17 rfl rfl rfl ?_
      refine z_getr (c := 0) (kI := 3) (r2 := 1) d_F_copyPins_18 fd_F_trays fl_F_23 rfl rfl rfl (ks_F_0 hx) (kl_F_0 hx) (kr_F_0_3 hx) ?_
      refine z_iload_n (i := 1) 1 d_F_copyPins_21 rfl rfl ?_
      refine z_cV (c := 1) (as := [(0, a1)]) (d' := 2) (st := []) d_F_copyPins_22 mi_Tr_isMissing ml_F_129 mv_Tr_isMissing se_Tr_isMissing rfl rfl rfl rfl (ks_F_1 hx) rfl rfl (kl_F_1 hx) rfl rfl (b_Tr_isMissing_0 hx ?_)
      refine ⟨fun c => absurd c c1, fun _ => ?_⟩
      refine ⟨fun c => absurd c c2, fun _ => ?_⟩
      obtain ⟨c3, h⟩ := h
      refine ⟨c3, ?_⟩
      refine ⟨fun c4 => ?_, fun c4 => ?_⟩
      · have h := h.1 c4
        intro _
        show z_U X 5 m_F_copyPins 25 [(0, (2, 0)), (1, (0, a1))] [(0, 1)] N σ g Q
        refine z_if_eq (tgt := 34) d_F_copyPins_25 (by decide) (fun c => absurd c (by decide)) (fun _ => ?_)
        refine z_aload_n (i := 0) (c := 0) 0 d_F_copyPins_28 rfl rfl rfl ?_
        refine z_iconst (n := 2) d_F_copyPins_29 (by decide) ?_
        refine z_cV (c := 0) (as := [(0, 2)]) (d' := 1) (st := []) d_F_copyPins_30 mi_F_none ml_F_121 mv_F_none se_F_none rfl rfl rfl rfl (ks_F_0 hx) rfl rfl (kl_F_0 hx) rfl rfl (b_F_none_0 hx ?_)
        intro _
        show z_U X 5 m_F_copyPins 33 [(0, (2, 0)), (1, (0, a1))] [(0, (-1))] N σ (z_up g 0 0 2) Q
        exact z_iret d_F_copyPins_33 rfl (by decide) (by decide) ⟨rfl, rfl, h⟩
      · have h := h.2 c4
        intro _
        show z_U X 5 m_F_copyPins 25 [(0, (2, 0)), (1, (0, a1))] [(0, 0)] N σ g Q
        refine z_if_eq (tgt := 34) d_F_copyPins_25 (by decide) (fun _ => ?_) (fun c => absurd (by decide) c)
        refine z_aload_n (i := 0) (c := 0) 0 d_F_copyPins_34 rfl rfl rfl ?_
        refine z_getr (c := 0) (kI := 11) (r2 := 23) d_F_copyPins_35 fd_F_board fl_F_67 rfl rfl rfl (ks_F_0 hx) (kl_F_0 hx) (kr_F_0_11 hx) ?_
        refine z_getr (c := 23) (kI := 3) (r2 := 25) d_F_copyPins_38 fd_Bd_pins fl_F_167 rfl rfl rfl (ks_F_23 hx) (kl_F_23 hx) (kr_F_23_3 hx) ?_
        refine z_astore_n (i := 2) (c := 25) (ls' := [(2, (2, 25)), (0, (2, 0)), (1, (0, a1))]) d_F_copyPins_41 rfl rfl rfl rfl ?_
        refine z_aload_n (i := 0) (c := 0) 1 d_F_copyPins_42 rfl rfl rfl ?_
        refine z_getr (c := 0) (kI := 3) (r2 := 1) d_F_copyPins_43 fd_F_trays fl_F_23 rfl rfl rfl (ks_F_0 hx) (kl_F_0 hx) (kr_F_0_3 hx) ?_
        refine z_iload_n (i := 1) 2 d_F_copyPins_46 rfl rfl ?_
        refine z_iconst (n := 0) d_F_copyPins_47 (by decide) ?_
        refine z_iconst (n := 2) d_F_copyPins_48 (by decide) ?_
        refine z_aload_n (i := 2) (c := 25) 0 d_F_copyPins_49 rfl rfl rfl ?_
        refine z_geti (c := 25) (kI := 3) d_F_copyPins_50 fd_Pi_many fl_F_171 (Or.inl rfl) rfl rfl (ks_F_25 hx) (kl_F_25 hx) ?_
        obtain ⟨c5, h⟩ := h
        refine z_imul d_F_copyPins_53 c5 ?_
        refine z_cV (c := 1) (as := [(0, a1), (0, 0), (0, 2 * (g 25 3))]) (d' := 3) (st := []) d_F_copyPins_54 mi_Tr_hasRoom ml_F_135 mv_Tr_hasRoom se_Tr_hasRoom rfl rfl rfl rfl (ks_F_1 hx) rfl rfl (kl_F_1 hx) rfl rfl (z_Omono h (fun r0 g0 _ h hro => ?_))
        have h := h (z_b01 hro)
        have hzr0 := z_b01 hro
        show z_U X 5 m_F_copyPins 57 [(2, (2, 25)), (0, (2, 0)), (1, (0, a1))] [(0, r0)] N σ g0 Q
        refine z_if_ne (tgt := 66) d_F_copyPins_57 (by decide) (fun c6 => ?_) (fun c6 => ?_)
        · have h := h.2 c6
          refine z_iconst (n := 0) d_F_copyPins_66 (by decide) ?_
          refine z_istore_n (i := 3) (ls' := [(3, (0, 0)), (2, (2, 25)), (0, (2, 0)), (1, (0, a1))]) d_F_copyPins_67 rfl rfl rfl ?_
          refine z_sub (ls' := [(0, (2, 0)), (1, (0, a1)), (2, (2, 25)), (3, (0, 0))]) [2, 3, 1, 0] rfl ?_
          exact h
        · have h := h.1 c6
          refine z_aload_n (i := 0) (c := 0) 1 d_F_copyPins_60 rfl rfl rfl ?_
          refine z_iconst (n := 3) d_F_copyPins_61 (by decide) ?_
          refine z_cV (c := 0) (as := [(0, 3)]) (d' := 1) (st := []) d_F_copyPins_62 mi_F_none ml_F_121 mv_F_none se_F_none rfl rfl rfl rfl (ks_F_0 hx) rfl rfl (kl_F_0 hx) rfl rfl (b_F_none_0 hx ?_)
          intro _
          show z_U X 5 m_F_copyPins 65 [(2, (2, 25)), (0, (2, 0)), (1, (0, a1))] [(0, (-1))] N σ (z_up g0 0 0 3) Q
          exact z_iret d_F_copyPins_65 rfl (by decide) (by decide) ⟨rfl, rfl, h⟩
set_option maxRecDepth 8000 in
theorem b_F_copyPins_68 {X : z_X} {N : Nat} {σ g : z_G} {Q : z_P} {x1 x3 : Int} (hx : z_lay X N σ 0 z_SF z_RF) (h : (((g 25 3) ≤ x3) → Q (g 25 3) (z_up g 0 0 0)) ∧ (¬ ((g 25 3) ≤ x3) → ((0 ≤ x3 ∧ x3 < 12) ∧ (z_O X 4 m_Tr_put [(2, 1), (0, x1), (0, x3), (1, g 26 x3)] N σ g (fun r0 g0 => ((-2147483648 ≤ ((g0 25 3) + x3) ∧ ((g0 25 3) + x3) ≤ 2147483647) ∧ (z_O X 4 m_Tr_put [(2, 1), (0, x1), (0, (g0 25 3) + x3), (1, g0 27 x3)] N σ g0 (fun r1 g1 => ((-2147483648 ≤ (x3 + 1) ∧ (x3 + 1) ≤ 2147483647) ∧ L_F_copyPins_68 X N σ x1 (x3 + 1) g1 Q))))))))) : L_F_copyPins_68 X N σ x1 x3 g Q := by
  refine z_iload_n (i := 3) 3 d_F_copyPins_68 rfl rfl ?_
  refine z_aload_n (i := 2) (c := 25) 2 d_F_copyPins_69 rfl rfl rfl ?_
  refine z_geti (c := 25) (kI := 3) d_F_copyPins_70 fd_Pi_many fl_F_171 (Or.inl rfl) rfl rfl (ks_F_25 hx) (kl_F_25 hx) ?_
  refine z_icmp_ge (tgt := 119) d_F_copyPins_73 (by decide) (fun c1 => ?_) (fun c1 => ?_)
  · have h := h.1 c1
    refine z_aload_n (i := 0) (c := 0) 0 d_F_copyPins_119 rfl rfl rfl ?_
    refine z_aload_n (i := 2) (c := 25) 2 d_F_copyPins_120 rfl rfl rfl ?_
    refine z_geti (c := 25) (kI := 3) d_F_copyPins_121 fd_Pi_many fl_F_171 (Or.inl rfl) rfl rfl (ks_F_25 hx) (kl_F_25 hx) ?_
    refine z_cV (c := 0) (as := [(0, g 25 3)]) (d' := 1) (st := []) d_F_copyPins_124 mi_F_give ml_F_176 mv_F_give se_F_give rfl rfl rfl rfl (ks_F_0 hx) rfl rfl (kl_F_0 hx) rfl rfl (b_F_give_0 hx ?_)
    intro _
    show z_U X 5 m_F_copyPins 127 [(0, (2, 0)), (1, (0, x1)), (2, (2, 25)), (3, (0, x3))] [(0, g 25 3)] N σ (z_up g 0 0 0) Q
    exact z_iret d_F_copyPins_127 rfl (by decide) (by decide) ⟨rfl, rfl, h⟩
  · have h := h.2 c1
    refine z_aload_n (i := 0) (c := 0) 0 d_F_copyPins_76 rfl rfl rfl ?_
    refine z_getr (c := 0) (kI := 3) (r2 := 1) d_F_copyPins_77 fd_F_trays fl_F_23 rfl rfl rfl (ks_F_0 hx) (kl_F_0 hx) (kr_F_0_3 hx) ?_
    refine z_iload_n (i := 1) 1 d_F_copyPins_80 rfl rfl ?_
    refine z_iload_n (i := 3) 3 d_F_copyPins_81 rfl rfl ?_
    refine z_aload_n (i := 2) (c := 25) 2 d_F_copyPins_82 rfl rfl rfl ?_
    refine z_getr (c := 25) (kI := 0) (r2 := 26) d_F_copyPins_83 fd_Pi_tops fl_F_384 rfl rfl rfl (ks_F_25 hx) (kl_F_25 hx) (kr_F_25_0 hx) ?_
    refine z_iload_n (i := 3) 3 d_F_copyPins_86 rfl rfl ?_
    obtain ⟨c2, h⟩ := h
    refine z_iald (c := 26) (m := 12) d_F_copyPins_87 rfl (ks_F_26 hx) (kl_F_26 hx) rfl (by decide) c2 ?_
    refine z_i2l d_F_copyPins_88 ?_
    refine z_cV (c := 1) (as := [(0, x1), (0, x3), (1, g 26 x3)]) (d' := 4) (st := []) d_F_copyPins_89 mi_Tr_put ml_F_117 mv_Tr_put se_Tr_put rfl rfl rfl rfl (ks_F_1 hx) rfl rfl (kl_F_1 hx) rfl rfl (z_Omono h (fun r0 g0 _ h hro => ?_))
    show z_U X 5 m_F_copyPins 92 [(0, (2, 0)), (1, (0, x1)), (2, (2, 25)), (3, (0, x3))] [] N σ g0 Q
    refine z_aload_n (i := 0) (c := 0) 0 d_F_copyPins_92 rfl rfl rfl ?_
    refine z_getr (c := 0) (kI := 3) (r2 := 1) d_F_copyPins_93 fd_F_trays fl_F_23 rfl rfl rfl (ks_F_0 hx) (kl_F_0 hx) (kr_F_0_3 hx) ?_
    refine z_iload_n (i := 1) 1 d_F_copyPins_96 rfl rfl ?_
    refine z_aload_n (i := 2) (c := 25) 2 d_F_copyPins_97 rfl rfl rfl ?_
    refine z_geti (c := 25) (kI := 3) d_F_copyPins_98 fd_Pi_many fl_F_171 (Or.inl rfl) rfl rfl (ks_F_25 hx) (kl_F_25 hx) ?_
    refine z_iload_n (i := 3) 3 d_F_copyPins_101 rfl rfl ?_
    obtain ⟨c3, h⟩ := h
    refine z_iadd d_F_copyPins_102 c3 ?_
    refine z_aload_n (i := 2) (c := 25) 2 d_F_copyPins_103 rfl rfl rfl ?_
    refine z_getr (c := 25) (kI := 1) (r2 := 27) d_F_copyPins_104 fd_Pi_bottoms fl_F_387 rfl rfl rfl (ks_F_25 hx) (kl_F_25 hx) (kr_F_25_1 hx) ?_
    refine z_iload_n (i := 3) 3 d_F_copyPins_107 rfl rfl ?_
    refine z_iald (c := 27) (m := 12) d_F_copyPins_108 rfl (ks_F_27 hx) (kl_F_27 hx) rfl (by decide) c2 ?_
    refine z_i2l d_F_copyPins_109 ?_
    refine z_cV (c := 1) (as := [(0, x1), (0, (g0 25 3) + x3), (1, g0 27 x3)]) (d' := 4) (st := []) d_F_copyPins_110 mi_Tr_put ml_F_117 mv_Tr_put se_Tr_put rfl rfl rfl rfl (ks_F_1 hx) rfl rfl (kl_F_1 hx) rfl rfl (z_Omono h (fun r1 g1 _ h hro => ?_))
    show z_U X 5 m_F_copyPins 113 [(0, (2, 0)), (1, (0, x1)), (2, (2, 25)), (3, (0, x3))] [] N σ g1 Q
    obtain ⟨c4, h⟩ := h
    refine z_iinc (n := 1) (ls' := [(3, (0, x3 + 1)), (0, (2, 0)), (1, (0, x1)), (2, (2, 25))]) 3 d_F_copyPins_113 rfl c4 rfl rfl ?_
    refine z_goto (tgt := 68) d_F_copyPins_116 (by decide) ?_
    refine z_sub (ls' := [(0, (2, 0)), (1, (0, x1)), (2, (2, 25)), (3, (0, x3 + 1))]) [1, 2, 3, 0] rfl ?_
    exact h
theorem d_F_depth_0 : decode (z_c m_F_depth) 0 = .ok (.aload_n 0, 1) := by decide +kernel
theorem d_F_depth_1 : decode (z_c m_F_depth) 1 = .ok (.iload_n 1, 1) := by decide +kernel
theorem d_F_depth_2 : decode (z_c m_F_depth) 2 = .ok (.iload_n 2, 1) := by decide +kernel
theorem d_F_depth_3 : decode (z_c m_F_depth) 3 = .ok (.invokevirtual 294, 3) := by decide +kernel
theorem d_F_depth_6 : decode (z_c m_F_depth) 6 = .ok (.istore_n 3, 1) := by decide +kernel
theorem d_F_depth_7 : decode (z_c m_F_depth) 7 = .ok (.iload_n 3, 1) := by decide +kernel
theorem d_F_depth_8 : decode (z_c m_F_depth) 8 = .ok (.ifCond .eq 11, 3) := by decide +kernel
theorem d_F_depth_11 : decode (z_c m_F_depth) 11 = .ok (.aload_n 0, 1) := by decide +kernel
theorem d_F_depth_12 : decode (z_c m_F_depth) 12 = .ok (.iload_n 3, 1) := by decide +kernel
theorem d_F_depth_13 : decode (z_c m_F_depth) 13 = .ok (.invokevirtual 121, 3) := by decide +kernel
theorem d_F_depth_16 : decode (z_c m_F_depth) 16 = .ok (.goto 14, 3) := by decide +kernel
theorem d_F_depth_19 : decode (z_c m_F_depth) 19 = .ok (.aload_n 0, 1) := by decide +kernel
theorem d_F_depth_20 : decode (z_c m_F_depth) 20 = .ok (.aload_n 0, 1) := by decide +kernel
theorem d_F_depth_21 : decode (z_c m_F_depth) 21 = .ok (.getfield 50, 3) := by decide +kernel
theorem d_F_depth_24 : decode (z_c m_F_depth) 24 = .ok (.invokevirtual 297, 3) := by decide +kernel
theorem d_F_depth_27 : decode (z_c m_F_depth) 27 = .ok (.invokevirtual 176, 3) := by decide +kernel
theorem d_F_depth_30 : decode (z_c m_F_depth) 30 = .ok (.ireturn, 1) := by decide +kernel
set_option maxRecDepth 8000 in
theorem b_F_depth_0 {X : z_X} {N : Nat} {σ g : z_G} {Q : z_P} {a1 a2 : Int} (hx : z_lay X N σ 0 z_SF z_RF) (h : z_O X 4 m_F_whyNotOfTree [(2, 0), (0, a1), (0, a2)] N σ g (fun r0 g0 => (((r0 = 0) → ((-2147483648 ≤ ((g0 18 2) - 2) ∧ ((g0 18 2) - 2) ≤ 2147483647) ∧ Q ((g0 18 2) - 2) (z_up g0 0 0 0))) ∧ (¬ (r0 = 0) → Q (-1) (z_up g0 0 0 r0))))) : z_O X 5 m_F_depth [(2, 0), (0, a1), (0, a2)] N σ g Q := by
  refine z_Oenter mi_F_depth rfl (fun _ => ?_)
  show z_U X 5 m_F_depth 0 [(0, (2, 0)), (1, (0, a1)), (2, (0, a2))] [] N σ g Q
  refine z_aload_n (i := 0) (c := 0) 0 d_F_depth_0 rfl rfl rfl ?_
  refine z_iload_n (i := 1) 1 d_F_depth_1 rfl rfl ?_
  refine z_iload_n (i := 2) 2 d_F_depth_2 rfl rfl ?_
  refine z_cV (c := 0) (as := [(0, a1), (0, a2)]) (d' := 4) (st := []) d_F_depth_3 mi_F_whyNotOfTree ml_F_294 mv_F_whyNotOfTree se_F_whyNotOfTree rfl rfl rfl rfl (ks_F_0 hx) rfl rfl (kl_F_0 hx) rfl rfl (z_Omono h (fun r0 g0 _ h hro => ?_))
  show z_U X 5 m_F_depth 6 [(0, (2, 0)), (1, (0, a1)), (2, (0, a2))] [(0, r0)] N σ g0 Q
  refine z_istore_n (i := 3) (ls' := [(3, (0, r0)), (0, (2, 0)), (1, (0, a1)), (2, (0, a2))]) d_F_depth_6 rfl rfl rfl ?_
  refine z_iload_n (i := 3) 0 d_F_depth_7 rfl rfl ?_
  refine z_if_eq (tgt := 19) d_F_depth_8 (by decide) (fun c1 => ?_) (fun c1 => ?_)
  · have h := h.1 c1
    refine z_aload_n (i := 0) (c := 0) 1 d_F_depth_19 rfl rfl rfl ?_
    refine z_aload_n (i := 0) (c := 0) 1 d_F_depth_20 rfl rfl rfl ?_
    refine z_getr (c := 0) (kI := 8) (r2 := 18) d_F_depth_21 fd_F_chain fl_F_50 rfl rfl rfl (ks_F_0 hx) (kl_F_0 hx) (kr_F_0_8 hx) ?_
    refine z_cV (c := 18) (as := []) (d' := 1) (st := [(2, 0)]) d_F_depth_24 mi_Ch_turns ml_F_297 mv_Ch_turns se_Ch_turns rfl rfl rfl rfl (ks_F_18 hx) rfl rfl (kl_F_18 hx) rfl rfl (b_Ch_turns_0 (ky_F_18 hx) ?_)
    obtain ⟨c2, h⟩ := h
    refine ⟨c2, ?_⟩
    intro _
    show z_U X 5 m_F_depth 27 [(3, (0, r0)), (0, (2, 0)), (1, (0, a1)), (2, (0, a2))] [(0, (g0 18 2) - 2), (2, 0)] N σ g0 Q
    refine z_cV (c := 0) (as := [(0, (g0 18 2) - 2)]) (d' := 1) (st := []) d_F_depth_27 mi_F_give ml_F_176 mv_F_give se_F_give rfl rfl rfl rfl (ks_F_0 hx) rfl rfl (kl_F_0 hx) rfl rfl (b_F_give_0 hx ?_)
    intro _
    show z_U X 5 m_F_depth 30 [(3, (0, r0)), (0, (2, 0)), (1, (0, a1)), (2, (0, a2))] [(0, (g0 18 2) - 2)] N σ (z_up g0 0 0 0) Q
    exact z_iret d_F_depth_30 rfl (by decide) (by decide) ⟨rfl, rfl, h⟩
  · have h := h.2 c1
    refine z_aload_n (i := 0) (c := 0) 1 d_F_depth_11 rfl rfl rfl ?_
    refine z_iload_n (i := 3) 0 d_F_depth_12 rfl rfl ?_
    refine z_cV (c := 0) (as := [(0, r0)]) (d' := 1) (st := []) d_F_depth_13 mi_F_none ml_F_121 mv_F_none se_F_none rfl rfl rfl rfl (ks_F_0 hx) rfl rfl (kl_F_0 hx) rfl rfl (b_F_none_0 hx ?_)
    intro _
    show z_U X 5 m_F_depth 16 [(3, (0, r0)), (0, (2, 0)), (1, (0, a1)), (2, (0, a2))] [(0, (-1))] N σ (z_up g0 0 0 r0) Q
    refine z_goto (tgt := 30) d_F_depth_16 (by decide) ?_
    exact z_iret d_F_depth_30 rfl (by decide) (by decide) ⟨rfl, rfl, h⟩
theorem d_F_follow_0 : decode (z_c m_F_follow) 0 = .ok (.aload_n 0, 1) := by decide +kernel
theorem d_F_follow_1 : decode (z_c m_F_follow) 1 = .ok (.getfield 23, 3) := by decide +kernel
theorem d_F_follow_4 : decode (z_c m_F_follow) 4 = .ok (.iload_n 1, 1) := by decide +kernel
theorem d_F_follow_5 : decode (z_c m_F_follow) 5 = .ok (.invokevirtual 95, 3) := by decide +kernel
theorem d_F_follow_8 : decode (z_c m_F_follow) 8 = .ok (.ifCond .eq 13, 3) := by decide +kernel
theorem d_F_follow_11 : decode (z_c m_F_follow) 11 = .ok (.iload_n 2, 1) := by decide +kernel
theorem d_F_follow_12 : decode (z_c m_F_follow) 12 = .ok (.ifCond .lt 9, 3) := by decide +kernel
theorem d_F_follow_15 : decode (z_c m_F_follow) 15 = .ok (.iload_n 2, 1) := by decide +kernel
theorem d_F_follow_16 : decode (z_c m_F_follow) 16 = .ok (.bipush 20, 2) := by decide +kernel
theorem d_F_follow_18 : decode (z_c m_F_follow) 18 = .ok (.if_icmp .le 9, 3) := by decide +kernel
theorem d_F_follow_21 : decode (z_c m_F_follow) 21 = .ok (.aload_n 0, 1) := by decide +kernel
theorem d_F_follow_22 : decode (z_c m_F_follow) 22 = .ok (.iconst 1, 1) := by decide +kernel
theorem d_F_follow_23 : decode (z_c m_F_follow) 23 = .ok (.invokevirtual 102, 3) := by decide +kernel
theorem d_F_follow_26 : decode (z_c m_F_follow) 26 = .ok (.ireturn, 1) := by decide +kernel
theorem d_F_follow_27 : decode (z_c m_F_follow) 27 = .ok (.aload_n 0, 1) := by decide +kernel
theorem d_F_follow_28 : decode (z_c m_F_follow) 28 = .ok (.getfield 23, 3) := by decide +kernel
theorem d_F_follow_31 : decode (z_c m_F_follow) 31 = .ok (.iload_n 1, 1) := by decide +kernel
theorem d_F_follow_32 : decode (z_c m_F_follow) 32 = .ok (.invokevirtual 129, 3) := by decide +kernel
theorem d_F_follow_35 : decode (z_c m_F_follow) 35 = .ok (.ifCond .eq 9, 3) := by decide +kernel
theorem d_F_follow_38 : decode (z_c m_F_follow) 38 = .ok (.aload_n 0, 1) := by decide +kernel
theorem d_F_follow_39 : decode (z_c m_F_follow) 39 = .ok (.iconst 2, 1) := by decide +kernel
theorem d_F_follow_40 : decode (z_c m_F_follow) 40 = .ok (.invokevirtual 102, 3) := by decide +kernel
theorem d_F_follow_43 : decode (z_c m_F_follow) 43 = .ok (.ireturn, 1) := by decide +kernel
theorem d_F_follow_44 : decode (z_c m_F_follow) 44 = .ok (.aload_n 0, 1) := by decide +kernel
theorem d_F_follow_45 : decode (z_c m_F_follow) 45 = .ok (.getfield 23, 3) := by decide +kernel
theorem d_F_follow_48 : decode (z_c m_F_follow) 48 = .ok (.iload_n 1, 1) := by decide +kernel
theorem d_F_follow_49 : decode (z_c m_F_follow) 49 = .ok (.iconst 0, 1) := by decide +kernel
theorem d_F_follow_50 : decode (z_c m_F_follow) 50 = .ok (.iload_n 2, 1) := by decide +kernel
theorem d_F_follow_51 : decode (z_c m_F_follow) 51 = .ok (.invokevirtual 135, 3) := by decide +kernel
theorem d_F_follow_54 : decode (z_c m_F_follow) 54 = .ok (.ifCond .ne 9, 3) := by decide +kernel
theorem d_F_follow_57 : decode (z_c m_F_follow) 57 = .ok (.aload_n 0, 1) := by decide +kernel
theorem d_F_follow_58 : decode (z_c m_F_follow) 58 = .ok (.iconst 3, 1) := by decide +kernel
theorem d_F_follow_59 : decode (z_c m_F_follow) 59 = .ok (.invokevirtual 102, 3) := by decide +kernel
theorem d_F_follow_62 : decode (z_c m_F_follow) 62 = .ok (.ireturn, 1) := by decide +kernel
theorem d_F_follow_63 : decode (z_c m_F_follow) 63 = .ok (.aload_n 0, 1) := by decide +kernel
theorem d_F_follow_64 : decode (z_c m_F_follow) 64 = .ok (.getfield 60, 3) := by decide +kernel
theorem d_F_follow_67 : decode (z_c m_F_follow) 67 = .ok (.invokevirtual 310, 3) := by decide +kernel
theorem d_F_follow_70 : decode (z_c m_F_follow) 70 = .ok (.iconst 0, 1) := by decide +kernel
theorem d_F_follow_71 : decode (z_c m_F_follow) 71 = .ok (.istore_n 3, 1) := by decide +kernel
theorem d_F_follow_72 : decode (z_c m_F_follow) 72 = .ok (.iload_n 3, 1) := by decide +kernel
theorem d_F_follow_73 : decode (z_c m_F_follow) 73 = .ok (.iload_n 2, 1) := by decide +kernel
theorem d_F_follow_74 : decode (z_c m_F_follow) 74 = .ok (.if_icmp .ge 50, 3) := by decide +kernel
theorem d_F_follow_77 : decode (z_c m_F_follow) 77 = .ok (.aload_n 0, 1) := by decide +kernel
theorem d_F_follow_78 : decode (z_c m_F_follow) 78 = .ok (.getfield 23, 3) := by decide +kernel
theorem d_F_follow_81 : decode (z_c m_F_follow) 81 = .ok (.iload_n 1, 1) := by decide +kernel
theorem d_F_follow_82 : decode (z_c m_F_follow) 82 = .ok (.iload_n 3, 1) := by decide +kernel
theorem d_F_follow_83 : decode (z_c m_F_follow) 83 = .ok (.invokevirtual 125, 3) := by decide +kernel
theorem d_F_follow_86 : decode (z_c m_F_follow) 86 = .ok (.lstore 4, 2) := by decide +kernel
theorem d_F_follow_88 : decode (z_c m_F_follow) 88 = .ok (.lload 4, 2) := by decide +kernel
theorem d_F_follow_90 : decode (z_c m_F_follow) 90 = .ok (.lconst 0, 1) := by decide +kernel
theorem d_F_follow_91 : decode (z_c m_F_follow) 91 = .ok (.lcmp, 1) := by decide +kernel
theorem d_F_follow_92 : decode (z_c m_F_follow) 92 = .ok (.ifCond .eq 16, 3) := by decide +kernel
theorem d_F_follow_95 : decode (z_c m_F_follow) 95 = .ok (.lload 4, 2) := by decide +kernel
theorem d_F_follow_97 : decode (z_c m_F_follow) 97 = .ok (.lconst 1, 1) := by decide +kernel
theorem d_F_follow_98 : decode (z_c m_F_follow) 98 = .ok (.lcmp, 1) := by decide +kernel
theorem d_F_follow_99 : decode (z_c m_F_follow) 99 = .ok (.ifCond .eq 9, 3) := by decide +kernel
theorem d_F_follow_102 : decode (z_c m_F_follow) 102 = .ok (.aload_n 0, 1) := by decide +kernel
theorem d_F_follow_103 : decode (z_c m_F_follow) 103 = .ok (.iconst 5, 1) := by decide +kernel
theorem d_F_follow_104 : decode (z_c m_F_follow) 104 = .ok (.invokevirtual 102, 3) := by decide +kernel
theorem d_F_follow_107 : decode (z_c m_F_follow) 107 = .ok (.ireturn, 1) := by decide +kernel
theorem d_F_follow_108 : decode (z_c m_F_follow) 108 = .ok (.aload_n 0, 1) := by decide +kernel
theorem d_F_follow_109 : decode (z_c m_F_follow) 109 = .ok (.getfield 60, 3) := by decide +kernel
theorem d_F_follow_112 : decode (z_c m_F_follow) 112 = .ok (.lload 4, 2) := by decide +kernel
theorem d_F_follow_114 : decode (z_c m_F_follow) 114 = .ok (.l2i, 1) := by decide +kernel
theorem d_F_follow_115 : decode (z_c m_F_follow) 115 = .ok (.invokevirtual 313, 3) := by decide +kernel
theorem d_F_follow_118 : decode (z_c m_F_follow) 118 = .ok (.iinc 3 1, 3) := by decide +kernel
theorem d_F_follow_121 : decode (z_c m_F_follow) 121 = .ok (.goto (-49), 3) := by decide +kernel
theorem d_F_follow_124 : decode (z_c m_F_follow) 124 = .ok (.aload_n 0, 1) := by decide +kernel
theorem d_F_follow_125 : decode (z_c m_F_follow) 125 = .ok (.aload_n 0, 1) := by decide +kernel
theorem d_F_follow_126 : decode (z_c m_F_follow) 126 = .ok (.getfield 60, 3) := by decide +kernel
theorem d_F_follow_129 : decode (z_c m_F_follow) 129 = .ok (.invokevirtual 282, 3) := by decide +kernel
theorem d_F_follow_132 : decode (z_c m_F_follow) 132 = .ok (.i2l, 1) := by decide +kernel
theorem d_F_follow_133 : decode (z_c m_F_follow) 133 = .ok (.aload_n 0, 1) := by decide +kernel
theorem d_F_follow_134 : decode (z_c m_F_follow) 134 = .ok (.getfield 60, 3) := by decide +kernel
theorem d_F_follow_137 : decode (z_c m_F_follow) 137 = .ok (.invokevirtual 285, 3) := by decide +kernel
theorem d_F_follow_140 : decode (z_c m_F_follow) 140 = .ok (.i2l, 1) := by decide +kernel
theorem d_F_follow_141 : decode (z_c m_F_follow) 141 = .ok (.invokevirtual 233, 3) := by decide +kernel
theorem d_F_follow_144 : decode (z_c m_F_follow) 144 = .ok (.ireturn, 1) := by decide +kernel
abbrev L_F_follow_72 (X : z_X) (N : Nat) (σ : z_G) (x1 x2 x3 : Int) (g : z_G) (Q : z_P) : Prop := z_U X 5 m_F_follow 72 [(0, (2, 0)), (1, (0, x1)), (2, (0, x2)), (3, (0, x3))] [] N σ g Q
set_option maxRecDepth 8000 in
theorem b_F_follow_0 {X : z_X} {N : Nat} {σ g : z_G} {Q : z_P} {a1 a2 : Int} (hx : z_lay X N σ 0 z_SF z_RF) (h : ((a1 < 0) → Q 0 (z_up g 0 0 1)) ∧ (¬ (a1 < 0) → (((4 ≤ a1) → Q 0 (z_up g 0 0 1)) ∧ (¬ (4 ≤ a1) → (((a2 < 0) → Q 0 (z_up g 0 0 1)) ∧ (¬ (a2 < 0) → (((a2 ≤ 20) → ((0 ≤ a1 ∧ a1 < 4) ∧ ((((g 8 a1) = (-1)) → Q 0 (z_up g 0 0 2)) ∧ (¬ ((g 8 a1) = (-1)) → (z_O X 3 m_Tr_hasRoom [(2, 1), (0, a1), (0, 0), (0, a2)] N σ g (fun r0 g0 => (r0 = 0 ∨ r0 = 1) → (((r0 = 0) → Q 0 (z_up g0 0 0 3)) ∧ (¬ (r0 = 0) → (z_O X 1 m_Sp_toRoot [(2, 22)] N σ g0 (fun r1 g1 => L_F_follow_72 X N σ a1 a2 0 g1 Q)))))))))) ∧ (¬ (a2 ≤ 20) → Q 0 (z_up g 0 0 1))))))))) : z_O X 5 m_F_follow [(2, 0), (0, a1), (0, a2)] N σ g Q := by
  refine z_Oenter mi_F_follow rfl (fun _ => ?_)
  show z_U X 5 m_F_follow 0 [(0, (2, 0)), (1, (0, a1)), (2, (0, a2))] [] N σ g Q
  refine z_aload_n (i := 0) (c := 0) 0 d_F_follow_0 rfl rfl rfl ?_
  refine z_getr (c := 0) (kI := 3) (r2 := 1) d_F_follow_1 fd_F_trays fl_F_23 rfl rfl rfl (ks_F_0 hx) (kl_F_0 hx) (kr_F_0_3 hx) ?_
  refine z_iload_n (i := 1) 1 d_F_follow_4 rfl rfl ?_
  refine z_cV (c := 1) (as := [(0, a1)]) (d' := 1) (st := []) d_F_follow_5 mi_Tr_isTray ml_F_95 mv_Tr_isTray se_Tr_isTray rfl rfl rfl rfl (ks_F_1 hx) rfl rfl (kl_F_1 hx) rfl rfl (b_Tr_isTray_0 hx ?_)
  refine ⟨fun c1 => ?_, fun c1 => ?_⟩
  · have h := h.1 c1
    intro _
    show z_U X 5 m_F_follow 8 [(0, (2, 0)), (1, (0, a1)), (2, (0, a2))] [(0, 0)] N σ g Q
    refine z_if_eq (tgt := 21) d_F_follow_8 (by decide) (fun _ => ?_) (fun c => absurd (by decide) c)
    refine z_aload_n (i := 0) (c := 0) 0 d_F_follow_21 rfl rfl rfl ?_
    refine z_iconst (n := 1) d_F_follow_22 (by decide) ?_
    refine z_cV (c := 0) (as := [(0, 1)]) (d' := 1) (st := []) d_F_follow_23 mi_F_refuse ml_F_102 mv_F_refuse se_F_refuse rfl rfl rfl rfl (ks_F_0 hx) rfl rfl (kl_F_0 hx) rfl rfl (b_F_refuse_0 hx ?_)
    intro _
    show z_U X 5 m_F_follow 26 [(0, (2, 0)), (1, (0, a1)), (2, (0, a2))] [(0, 0)] N σ (z_up g 0 0 1) Q
    exact z_zret d_F_follow_26 rfl (by decide) (by decide) (by decide) ⟨rfl, rfl, h⟩
  · have h := h.2 c1
    refine ⟨fun c2 => ?_, fun c2 => ?_⟩
    · have h := h.1 c2
      intro _
      show z_U X 5 m_F_follow 8 [(0, (2, 0)), (1, (0, a1)), (2, (0, a2))] [(0, 0)] N σ g Q
      refine z_if_eq (tgt := 21) d_F_follow_8 (by decide) (fun _ => ?_) (fun c => absurd (by decide) c)
      refine z_aload_n (i := 0) (c := 0) 0 d_F_follow_21 rfl rfl rfl ?_
      refine z_iconst (n := 1) d_F_follow_22 (by decide) ?_
      refine z_cV (c := 0) (as := [(0, 1)]) (d' := 1) (st := []) d_F_follow_23 mi_F_refuse ml_F_102 mv_F_refuse se_F_refuse rfl rfl rfl rfl (ks_F_0 hx) rfl rfl (kl_F_0 hx) rfl rfl (b_F_refuse_0 hx ?_)
      intro _
      show z_U X 5 m_F_follow 26 [(0, (2, 0)), (1, (0, a1)), (2, (0, a2))] [(0, 0)] N σ (z_up g 0 0 1) Q
      exact z_zret d_F_follow_26 rfl (by decide) (by decide) (by decide) ⟨rfl, rfl, h⟩
    · have h := h.2 c2
      intro _
      show z_U X 5 m_F_follow 8 [(0, (2, 0)), (1, (0, a1)), (2, (0, a2))] [(0, 1)] N σ g Q
      refine z_if_eq (tgt := 21) d_F_follow_8 (by decide) (fun c => absurd c (by decide)) (fun _ => ?_)
      refine z_iload_n (i := 2) 2 d_F_follow_11 rfl rfl ?_
      refine z_if_lt (tgt := 21) d_F_follow_12 (by decide) (fun c3 => ?_) (fun c3 => ?_)
      · have h := h.1 c3
        refine z_aload_n (i := 0) (c := 0) 0 d_F_follow_21 rfl rfl rfl ?_
        refine z_iconst (n := 1) d_F_follow_22 (by decide) ?_
        refine z_cV (c := 0) (as := [(0, 1)]) (d' := 1) (st := []) d_F_follow_23 mi_F_refuse ml_F_102 mv_F_refuse se_F_refuse rfl rfl rfl rfl (ks_F_0 hx) rfl rfl (kl_F_0 hx) rfl rfl (b_F_refuse_0 hx ?_)
        intro _
        show z_U X 5 m_F_follow 26 [(0, (2, 0)), (1, (0, a1)), (2, (0, a2))] [(0, 0)] N σ (z_up g 0 0 1) Q
        exact z_zret d_F_follow_26 rfl (by decide) (by decide) (by decide) ⟨rfl, rfl, h⟩
      · have h := h.2 c3
        refine z_iload_n (i := 2) 2 d_F_follow_15 rfl rfl ?_
        refine z_bipush (n := 20) d_F_follow_16 (by decide) (by decide) ?_
        refine z_icmp_le (tgt := 27) d_F_follow_18 (by decide) (fun c4 => ?_) (fun c4 => ?_)
        · have h := h.1 c4
          refine z_aload_n (i := 0) (c := 0) 0 d_F_follow_27 rfl rfl rfl ?_
          refine z_getr (c := 0) (kI := 3) (r2 := 1) d_F_follow_28 fd_F_trays fl_F_23 rfl rfl rfl (ks_F_0 hx) (kl_F_0 hx) (kr_F_0_3 hx) ?_
          refine z_iload_n (i := 1) 1 d_F_follow_31 rfl rfl ?_
          refine z_cV (c := 1) (as := [(0, a1)]) (d' := 2) (st := []) d_F_follow_32 mi_Tr_isMissing ml_F_129 mv_Tr_isMissing se_Tr_isMissing rfl rfl rfl rfl (ks_F_1 hx) rfl rfl (kl_F_1 hx) rfl rfl (b_Tr_isMissing_0 hx ?_)
          refine ⟨fun c => absurd c c1, fun _ => ?_⟩
          refine ⟨fun c => absurd c c2, fun _ => ?_⟩
          obtain ⟨c5, h⟩ := h
          refine ⟨c5, ?_⟩
          refine ⟨fun c6 => ?_, fun c6 => ?_⟩
          · have h := h.1 c6
            intro _
            show z_U X 5 m_F_follow 35 [(0, (2, 0)), (1, (0, a1)), (2, (0, a2))] [(0, 1)] N σ g Q
            refine z_if_eq (tgt := 44) d_F_follow_35 (by decide) (fun c => absurd c (by decide)) (fun _ => ?_)
            refine z_aload_n (i := 0) (c := 0) 0 d_F_follow_38 rfl rfl rfl ?_
            refine z_iconst (n := 2) d_F_follow_39 (by decide) ?_
            refine z_cV (c := 0) (as := [(0, 2)]) (d' := 1) (st := []) d_F_follow_40 mi_F_refuse ml_F_102 mv_F_refuse se_F_refuse rfl rfl rfl rfl (ks_F_0 hx) rfl rfl (kl_F_0 hx) rfl rfl (b_F_refuse_0 hx ?_)
            intro _
            show z_U X 5 m_F_follow 43 [(0, (2, 0)), (1, (0, a1)), (2, (0, a2))] [(0, 0)] N σ (z_up g 0 0 2) Q
            exact z_zret d_F_follow_43 rfl (by decide) (by decide) (by decide) ⟨rfl, rfl, h⟩
          · have h := h.2 c6
            intro _
            show z_U X 5 m_F_follow 35 [(0, (2, 0)), (1, (0, a1)), (2, (0, a2))] [(0, 0)] N σ g Q
            refine z_if_eq (tgt := 44) d_F_follow_35 (by decide) (fun _ => ?_) (fun c => absurd (by decide) c)
            refine z_aload_n (i := 0) (c := 0) 0 d_F_follow_44 rfl rfl rfl ?_
            refine z_getr (c := 0) (kI := 3) (r2 := 1) d_F_follow_45 fd_F_trays fl_F_23 rfl rfl rfl (ks_F_0 hx) (kl_F_0 hx) (kr_F_0_3 hx) ?_
            refine z_iload_n (i := 1) 1 d_F_follow_48 rfl rfl ?_
            refine z_iconst (n := 0) d_F_follow_49 (by decide) ?_
            refine z_iload_n (i := 2) 2 d_F_follow_50 rfl rfl ?_
            refine z_cV (c := 1) (as := [(0, a1), (0, 0), (0, a2)]) (d' := 3) (st := []) d_F_follow_51 mi_Tr_hasRoom ml_F_135 mv_Tr_hasRoom se_Tr_hasRoom rfl rfl rfl rfl (ks_F_1 hx) rfl rfl (kl_F_1 hx) rfl rfl (z_Omono h (fun r0 g0 _ h hro => ?_))
            have h := h (z_b01 hro)
            have hzr0 := z_b01 hro
            show z_U X 5 m_F_follow 54 [(0, (2, 0)), (1, (0, a1)), (2, (0, a2))] [(0, r0)] N σ g0 Q
            refine z_if_ne (tgt := 63) d_F_follow_54 (by decide) (fun c7 => ?_) (fun c7 => ?_)
            · have h := h.2 c7
              refine z_aload_n (i := 0) (c := 0) 0 d_F_follow_63 rfl rfl rfl ?_
              refine z_getr (c := 0) (kI := 10) (r2 := 22) d_F_follow_64 fd_F_spot fl_F_60 rfl rfl rfl (ks_F_0 hx) (kl_F_0 hx) (kr_F_0_10 hx) ?_
              refine z_cV (c := 22) (as := []) (d' := 1) (st := []) d_F_follow_67 mi_Sp_toRoot ml_F_310 mv_Sp_toRoot se_Sp_toRoot rfl rfl rfl rfl (ks_F_22 hx) rfl rfl (kl_F_22 hx) rfl rfl (z_Omono h (fun r1 g1 _ h hro => ?_))
              show z_U X 5 m_F_follow 70 [(0, (2, 0)), (1, (0, a1)), (2, (0, a2))] [] N σ g1 Q
              refine z_iconst (n := 0) d_F_follow_70 (by decide) ?_
              refine z_istore_n (i := 3) (ls' := [(3, (0, 0)), (0, (2, 0)), (1, (0, a1)), (2, (0, a2))]) d_F_follow_71 rfl rfl rfl ?_
              refine z_sub (ls' := [(0, (2, 0)), (1, (0, a1)), (2, (0, a2)), (3, (0, 0))]) [1, 2, 3, 0] rfl ?_
              exact h
            · have h := h.1 c7
              refine z_aload_n (i := 0) (c := 0) 0 d_F_follow_57 rfl rfl rfl ?_
              refine z_iconst (n := 3) d_F_follow_58 (by decide) ?_
              refine z_cV (c := 0) (as := [(0, 3)]) (d' := 1) (st := []) d_F_follow_59 mi_F_refuse ml_F_102 mv_F_refuse se_F_refuse rfl rfl rfl rfl (ks_F_0 hx) rfl rfl (kl_F_0 hx) rfl rfl (b_F_refuse_0 hx ?_)
              intro _
              show z_U X 5 m_F_follow 62 [(0, (2, 0)), (1, (0, a1)), (2, (0, a2))] [(0, 0)] N σ (z_up g0 0 0 3) Q
              exact z_zret d_F_follow_62 rfl (by decide) (by decide) (by decide) ⟨rfl, rfl, h⟩
        · have h := h.2 c4
          refine z_aload_n (i := 0) (c := 0) 0 d_F_follow_21 rfl rfl rfl ?_
          refine z_iconst (n := 1) d_F_follow_22 (by decide) ?_
          refine z_cV (c := 0) (as := [(0, 1)]) (d' := 1) (st := []) d_F_follow_23 mi_F_refuse ml_F_102 mv_F_refuse se_F_refuse rfl rfl rfl rfl (ks_F_0 hx) rfl rfl (kl_F_0 hx) rfl rfl (b_F_refuse_0 hx ?_)
          intro _
          show z_U X 5 m_F_follow 26 [(0, (2, 0)), (1, (0, a1)), (2, (0, a2))] [(0, 0)] N σ (z_up g 0 0 1) Q
          exact z_zret d_F_follow_26 rfl (by decide) (by decide) (by decide) ⟨rfl, rfl, h⟩
set_option maxRecDepth 8000 in
theorem b_F_follow_72 {X : z_X} {N : Nat} {σ g : z_G} {Q : z_P} {x1 x2 x3 : Int} (hx : z_lay X N σ 0 z_SF z_RF) (h : ((x2 ≤ x3) → ((-2147483648 ≤ ((g 22 0) + (g 22 2)) ∧ ((g 22 0) + (g 22 2)) ≤ 2147483647) ∧ ((-2147483648 ≤ ((g 22 1) + (g 22 3)) ∧ ((g 22 1) + (g 22 3)) ≤ 2147483647) ∧ (z_O X 2 m_F_tell [(2, 0), (1, (g 22 0) + (g 22 2)), (1, (g 22 1) + (g 22 3))] N σ g (fun r0 g0 => (r0 = 0 ∨ r0 = 1) → Q r0 g0))))) ∧ (¬ (x2 ≤ x3) → (z_O X 4 m_Tr_look [(2, 1), (0, x1), (0, x3)] N σ g (fun r1 g1 => (((r1 = 0) → ((-2147483648 ≤ r1 ∧ r1 ≤ 2147483647) ∧ (z_O X 2 m_Sp_descend [(2, 22), (0, r1)] N σ g1 (fun r2 g2 => ((-2147483648 ≤ (x3 + 1) ∧ (x3 + 1) ≤ 2147483647) ∧ L_F_follow_72 X N σ x1 x2 (x3 + 1) g2 Q))))) ∧ (¬ (r1 = 0) → (((r1 = 1) → ((-2147483648 ≤ r1 ∧ r1 ≤ 2147483647) ∧ (z_O X 2 m_Sp_descend [(2, 22), (0, r1)] N σ g1 (fun r3 g3 => ((-2147483648 ≤ (x3 + 1) ∧ (x3 + 1) ≤ 2147483647) ∧ L_F_follow_72 X N σ x1 x2 (x3 + 1) g3 Q))))) ∧ (¬ (r1 = 1) → Q 0 (z_up g1 0 0 5))))))))) : L_F_follow_72 X N σ x1 x2 x3 g Q := by
  refine z_iload_n (i := 3) 3 d_F_follow_72 rfl rfl ?_
  refine z_iload_n (i := 2) 2 d_F_follow_73 rfl rfl ?_
  refine z_icmp_ge (tgt := 124) d_F_follow_74 (by decide) (fun c1 => ?_) (fun c1 => ?_)
  · have h := h.1 c1
    refine z_aload_n (i := 0) (c := 0) 0 d_F_follow_124 rfl rfl rfl ?_
    refine z_aload_n (i := 0) (c := 0) 0 d_F_follow_125 rfl rfl rfl ?_
    refine z_getr (c := 0) (kI := 10) (r2 := 22) d_F_follow_126 fd_F_spot fl_F_60 rfl rfl rfl (ks_F_0 hx) (kl_F_0 hx) (kr_F_0_10 hx) ?_
    refine z_cV (c := 22) (as := []) (d' := 1) (st := [(2, 0)]) d_F_follow_129 mi_Sp_ownTop ml_F_282 mv_Sp_ownTop se_Sp_ownTop rfl rfl rfl rfl (ks_F_22 hx) rfl rfl (kl_F_22 hx) rfl rfl (b_Sp_ownTop_0 (ky_F_22 hx) ?_)
    obtain ⟨c2, h⟩ := h
    refine ⟨c2, ?_⟩
    intro _
    show z_U X 5 m_F_follow 132 [(0, (2, 0)), (1, (0, x1)), (2, (0, x2)), (3, (0, x3))] [(0, (g 22 0) + (g 22 2)), (2, 0)] N σ g Q
    refine z_i2l d_F_follow_132 ?_
    refine z_aload_n (i := 0) (c := 0) 0 d_F_follow_133 rfl rfl rfl ?_
    refine z_getr (c := 0) (kI := 10) (r2 := 22) d_F_follow_134 fd_F_spot fl_F_60 rfl rfl rfl (ks_F_0 hx) (kl_F_0 hx) (kr_F_0_10 hx) ?_
    refine z_cV (c := 22) (as := []) (d' := 1) (st := [(1, (g 22 0) + (g 22 2)), (2, 0)]) d_F_follow_137 mi_Sp_ownBottom ml_F_285 mv_Sp_ownBottom se_Sp_ownBottom rfl rfl rfl rfl (ks_F_22 hx) rfl rfl (kl_F_22 hx) rfl rfl (b_Sp_ownBottom_0 (ky_F_22 hx) ?_)
    obtain ⟨c3, h⟩ := h
    refine ⟨c3, ?_⟩
    intro _
    show z_U X 5 m_F_follow 140 [(0, (2, 0)), (1, (0, x1)), (2, (0, x2)), (3, (0, x3))] [(0, (g 22 1) + (g 22 3)), (1, (g 22 0) + (g 22 2)), (2, 0)] N σ g Q
    refine z_i2l d_F_follow_140 ?_
    refine z_cV (c := 0) (as := [(1, (g 22 0) + (g 22 2)), (1, (g 22 1) + (g 22 3))]) (d' := 2) (st := []) d_F_follow_141 mi_F_tell ml_F_233 mv_F_tell se_F_tell rfl rfl rfl rfl (ks_F_0 hx) rfl rfl (kl_F_0 hx) rfl rfl (z_Omono h (fun r0 g0 _ h hro => ?_))
    have h := h (z_b01 hro)
    have hzr0 := z_b01 hro
    show z_U X 5 m_F_follow 144 [(0, (2, 0)), (1, (0, x1)), (2, (0, x2)), (3, (0, x3))] [(0, r0)] N σ g0 Q
    exact z_zret d_F_follow_144 rfl (by decide) (by decide) hzr0 ⟨rfl, rfl, h⟩
  · have h := h.2 c1
    refine z_aload_n (i := 0) (c := 0) 0 d_F_follow_77 rfl rfl rfl ?_
    refine z_getr (c := 0) (kI := 3) (r2 := 1) d_F_follow_78 fd_F_trays fl_F_23 rfl rfl rfl (ks_F_0 hx) (kl_F_0 hx) (kr_F_0_3 hx) ?_
    refine z_iload_n (i := 1) 1 d_F_follow_81 rfl rfl ?_
    refine z_iload_n (i := 3) 3 d_F_follow_82 rfl rfl ?_
    refine z_cV (c := 1) (as := [(0, x1), (0, x3)]) (d' := 4) (st := []) d_F_follow_83 mi_Tr_look ml_F_125 mv_Tr_look se_Tr_look rfl rfl rfl rfl (ks_F_1 hx) rfl rfl (kl_F_1 hx) rfl rfl (z_Omono h (fun r1 g1 _ h hro => ?_))
    show z_U X 5 m_F_follow 86 [(0, (2, 0)), (1, (0, x1)), (2, (0, x2)), (3, (0, x3))] [(1, r1)] N σ g1 Q
    refine z_lstore (ls' := [(4, (1, r1)), (0, (2, 0)), (1, (0, x1)), (2, (0, x2)), (3, (0, x3))]) d_F_follow_86 rfl rfl ?_
    refine z_lload 0 d_F_follow_88 rfl ?_
    refine z_lconst (v := 0) d_F_follow_90 (by decide) (by decide) ?_
    refine z_lcmp_eq (tgt := 108) d_F_follow_91 d_F_follow_92 (by decide) (fun c4 => ?_) (fun c4 => ?_)
    · have h := h.1 c4
      refine z_aload_n (i := 0) (c := 0) 1 d_F_follow_108 rfl rfl rfl ?_
      refine z_getr (c := 0) (kI := 10) (r2 := 22) d_F_follow_109 fd_F_spot fl_F_60 rfl rfl rfl (ks_F_0 hx) (kl_F_0 hx) (kr_F_0_10 hx) ?_
      refine z_lload 0 d_F_follow_112 rfl ?_
      obtain ⟨c5, h⟩ := h
      refine z_l2i' d_F_follow_114 c5 ?_
      refine z_cV (c := 22) (as := [(0, r1)]) (d' := 2) (st := []) d_F_follow_115 mi_Sp_descend ml_F_313 mv_Sp_descend se_Sp_descend rfl rfl rfl rfl (ks_F_22 hx) rfl rfl (kl_F_22 hx) rfl rfl (z_Omono h (fun r2 g2 _ h hro => ?_))
      show z_U X 5 m_F_follow 118 [(4, (1, r1)), (0, (2, 0)), (1, (0, x1)), (2, (0, x2)), (3, (0, x3))] [] N σ g2 Q
      obtain ⟨c6, h⟩ := h
      refine z_iinc (n := 1) (ls' := [(3, (0, x3 + 1)), (4, (1, r1)), (0, (2, 0)), (1, (0, x1)), (2, (0, x2))]) 4 d_F_follow_118 rfl c6 rfl rfl ?_
      refine z_goto (tgt := 72) d_F_follow_121 (by decide) ?_
      refine z_sub (ls' := [(0, (2, 0)), (1, (0, x1)), (2, (0, x2)), (3, (0, x3 + 1))]) [2, 3, 4, 0] rfl ?_
      exact h
    · have h := h.2 c4
      refine z_lload 0 d_F_follow_95 rfl ?_
      refine z_lconst (v := 1) d_F_follow_97 (by decide) (by decide) ?_
      refine z_lcmp_eq (tgt := 108) d_F_follow_98 d_F_follow_99 (by decide) (fun c7 => ?_) (fun c7 => ?_)
      · have h := h.1 c7
        refine z_aload_n (i := 0) (c := 0) 1 d_F_follow_108 rfl rfl rfl ?_
        refine z_getr (c := 0) (kI := 10) (r2 := 22) d_F_follow_109 fd_F_spot fl_F_60 rfl rfl rfl (ks_F_0 hx) (kl_F_0 hx) (kr_F_0_10 hx) ?_
        refine z_lload 0 d_F_follow_112 rfl ?_
        obtain ⟨c8, h⟩ := h
        refine z_l2i' d_F_follow_114 c8 ?_
        refine z_cV (c := 22) (as := [(0, r1)]) (d' := 2) (st := []) d_F_follow_115 mi_Sp_descend ml_F_313 mv_Sp_descend se_Sp_descend rfl rfl rfl rfl (ks_F_22 hx) rfl rfl (kl_F_22 hx) rfl rfl (z_Omono h (fun r3 g3 _ h hro => ?_))
        show z_U X 5 m_F_follow 118 [(4, (1, r1)), (0, (2, 0)), (1, (0, x1)), (2, (0, x2)), (3, (0, x3))] [] N σ g3 Q
        obtain ⟨c9, h⟩ := h
        refine z_iinc (n := 1) (ls' := [(3, (0, x3 + 1)), (4, (1, r1)), (0, (2, 0)), (1, (0, x1)), (2, (0, x2))]) 4 d_F_follow_118 rfl c9 rfl rfl ?_
        refine z_goto (tgt := 72) d_F_follow_121 (by decide) ?_
        refine z_sub (ls' := [(0, (2, 0)), (1, (0, x1)), (2, (0, x2)), (3, (0, x3 + 1))]) [2, 3, 4, 0] rfl ?_
        exact h
      · have h := h.2 c7
        refine z_aload_n (i := 0) (c := 0) 1 d_F_follow_102 rfl rfl rfl ?_
        refine z_iconst (n := 5) d_F_follow_103 (by decide) ?_
        refine z_cV (c := 0) (as := [(0, 5)]) (d' := 1) (st := []) d_F_follow_104 mi_F_refuse ml_F_102 mv_F_refuse se_F_refuse rfl rfl rfl rfl (ks_F_0 hx) rfl rfl (kl_F_0 hx) rfl rfl (b_F_refuse_0 hx ?_)
        intro _
        show z_U X 5 m_F_follow 107 [(4, (1, r1)), (0, (2, 0)), (1, (0, x1)), (2, (0, x2)), (3, (0, x3))] [(0, 0)] N σ (z_up g1 0 0 5) Q
        exact z_zret d_F_follow_107 rfl (by decide) (by decide) (by decide) ⟨rfl, rfl, h⟩
theorem d_F_gap_0 : decode (z_c m_F_gap) 0 = .ok (.aload_n 0, 1) := by decide +kernel
theorem d_F_gap_1 : decode (z_c m_F_gap) 1 = .ok (.getfield 67, 3) := by decide +kernel
theorem d_F_gap_4 : decode (z_c m_F_gap) 4 = .ok (.getfield 167, 3) := by decide +kernel
theorem d_F_gap_7 : decode (z_c m_F_gap) 7 = .ok (.astore_n 1, 1) := by decide +kernel
theorem d_F_gap_8 : decode (z_c m_F_gap) 8 = .ok (.iconst 0, 1) := by decide +kernel
theorem d_F_gap_9 : decode (z_c m_F_gap) 9 = .ok (.istore_n 2, 1) := by decide +kernel
theorem d_F_gap_10 : decode (z_c m_F_gap) 10 = .ok (.iconst 1, 1) := by decide +kernel
theorem d_F_gap_11 : decode (z_c m_F_gap) 11 = .ok (.istore_n 3, 1) := by decide +kernel
theorem d_F_gap_12 : decode (z_c m_F_gap) 12 = .ok (.lconst 0, 1) := by decide +kernel
theorem d_F_gap_13 : decode (z_c m_F_gap) 13 = .ok (.lstore 4, 2) := by decide +kernel
theorem d_F_gap_15 : decode (z_c m_F_gap) 15 = .ok (.lconst 1, 1) := by decide +kernel
theorem d_F_gap_16 : decode (z_c m_F_gap) 16 = .ok (.lstore 6, 2) := by decide +kernel
theorem d_F_gap_18 : decode (z_c m_F_gap) 18 = .ok (.iconst 0, 1) := by decide +kernel
theorem d_F_gap_19 : decode (z_c m_F_gap) 19 = .ok (.istore 8, 2) := by decide +kernel
theorem d_F_gap_21 : decode (z_c m_F_gap) 21 = .ok (.iload 8, 2) := by decide +kernel
theorem d_F_gap_23 : decode (z_c m_F_gap) 23 = .ok (.aload_n 1, 1) := by decide +kernel
theorem d_F_gap_24 : decode (z_c m_F_gap) 24 = .ok (.getfield 171, 3) := by decide +kernel
theorem d_F_gap_27 : decode (z_c m_F_gap) 27 = .ok (.if_icmp .gt 100, 3) := by decide +kernel
theorem d_F_gap_30 : decode (z_c m_F_gap) 30 = .ok (.aload_n 1, 1) := by decide +kernel
theorem d_F_gap_31 : decode (z_c m_F_gap) 31 = .ok (.iload 8, 2) := by decide +kernel
theorem d_F_gap_33 : decode (z_c m_F_gap) 33 = .ok (.invokevirtual 375, 3) := by decide +kernel
theorem d_F_gap_36 : decode (z_c m_F_gap) 36 = .ok (.istore 9, 2) := by decide +kernel
theorem d_F_gap_38 : decode (z_c m_F_gap) 38 = .ok (.iload 9, 2) := by decide +kernel
theorem d_F_gap_40 : decode (z_c m_F_gap) 40 = .ok (.ifCond .ge 7, 3) := by decide +kernel
theorem d_F_gap_43 : decode (z_c m_F_gap) 43 = .ok (.iconst 1, 1) := by decide +kernel
theorem d_F_gap_44 : decode (z_c m_F_gap) 44 = .ok (.goto 10, 3) := by decide +kernel
theorem d_F_gap_47 : decode (z_c m_F_gap) 47 = .ok (.aload_n 1, 1) := by decide +kernel
theorem d_F_gap_48 : decode (z_c m_F_gap) 48 = .ok (.getfield 384, 3) := by decide +kernel
theorem d_F_gap_51 : decode (z_c m_F_gap) 51 = .ok (.iload 9, 2) := by decide +kernel
theorem d_F_gap_53 : decode (z_c m_F_gap) 53 = .ok (.iaload, 1) := by decide +kernel
theorem d_F_gap_54 : decode (z_c m_F_gap) 54 = .ok (.istore 10, 2) := by decide +kernel
theorem d_F_gap_56 : decode (z_c m_F_gap) 56 = .ok (.iload 9, 2) := by decide +kernel
theorem d_F_gap_58 : decode (z_c m_F_gap) 58 = .ok (.ifCond .ge 7, 3) := by decide +kernel
theorem d_F_gap_61 : decode (z_c m_F_gap) 61 = .ok (.iconst 1, 1) := by decide +kernel
theorem d_F_gap_62 : decode (z_c m_F_gap) 62 = .ok (.goto 10, 3) := by decide +kernel
theorem d_F_gap_65 : decode (z_c m_F_gap) 65 = .ok (.aload_n 1, 1) := by decide +kernel
theorem d_F_gap_66 : decode (z_c m_F_gap) 66 = .ok (.getfield 387, 3) := by decide +kernel
theorem d_F_gap_69 : decode (z_c m_F_gap) 69 = .ok (.iload 9, 2) := by decide +kernel
theorem d_F_gap_71 : decode (z_c m_F_gap) 71 = .ok (.iaload, 1) := by decide +kernel
theorem d_F_gap_72 : decode (z_c m_F_gap) 72 = .ok (.istore 11, 2) := by decide +kernel
theorem d_F_gap_74 : decode (z_c m_F_gap) 74 = .ok (.iload 10, 2) := by decide +kernel
theorem d_F_gap_76 : decode (z_c m_F_gap) 76 = .ok (.iload 11, 2) := by decide +kernel
theorem d_F_gap_78 : decode (z_c m_F_gap) 78 = .ok (.iload_n 2, 1) := by decide +kernel
theorem d_F_gap_79 : decode (z_c m_F_gap) 79 = .ok (.iload_n 3, 1) := by decide +kernel
theorem d_F_gap_80 : decode (z_c m_F_gap) 80 = .ok (.invokestatic 263, 3) := by decide +kernel
theorem d_F_gap_83 : decode (z_c m_F_gap) 83 = .ok (.lstore 12, 2) := by decide +kernel
theorem d_F_gap_85 : decode (z_c m_F_gap) 85 = .ok (.iload 11, 2) := by decide +kernel
theorem d_F_gap_87 : decode (z_c m_F_gap) 87 = .ok (.i2l, 1) := by decide +kernel
theorem d_F_gap_88 : decode (z_c m_F_gap) 88 = .ok (.iload_n 3, 1) := by decide +kernel
theorem d_F_gap_89 : decode (z_c m_F_gap) 89 = .ok (.i2l, 1) := by decide +kernel
theorem d_F_gap_90 : decode (z_c m_F_gap) 90 = .ok (.lmul, 1) := by decide +kernel
theorem d_F_gap_91 : decode (z_c m_F_gap) 91 = .ok (.lstore 14, 2) := by decide +kernel
theorem d_F_gap_93 : decode (z_c m_F_gap) 93 = .ok (.lload 12, 2) := by decide +kernel
theorem d_F_gap_95 : decode (z_c m_F_gap) 95 = .ok (.lload 6, 2) := by decide +kernel
theorem d_F_gap_97 : decode (z_c m_F_gap) 97 = .ok (.lmul, 1) := by decide +kernel
theorem d_F_gap_98 : decode (z_c m_F_gap) 98 = .ok (.lload 4, 2) := by decide +kernel
theorem d_F_gap_100 : decode (z_c m_F_gap) 100 = .ok (.lload 14, 2) := by decide +kernel
theorem d_F_gap_102 : decode (z_c m_F_gap) 102 = .ok (.lmul, 1) := by decide +kernel
theorem d_F_gap_103 : decode (z_c m_F_gap) 103 = .ok (.lcmp, 1) := by decide +kernel
theorem d_F_gap_104 : decode (z_c m_F_gap) 104 = .ok (.ifCond .le 11, 3) := by decide +kernel
theorem d_F_gap_107 : decode (z_c m_F_gap) 107 = .ok (.lload 12, 2) := by decide +kernel
theorem d_F_gap_109 : decode (z_c m_F_gap) 109 = .ok (.lstore 4, 2) := by decide +kernel
theorem d_F_gap_111 : decode (z_c m_F_gap) 111 = .ok (.lload 14, 2) := by decide +kernel
theorem d_F_gap_113 : decode (z_c m_F_gap) 113 = .ok (.lstore 6, 2) := by decide +kernel
theorem d_F_gap_115 : decode (z_c m_F_gap) 115 = .ok (.iload 10, 2) := by decide +kernel
theorem d_F_gap_117 : decode (z_c m_F_gap) 117 = .ok (.istore_n 2, 1) := by decide +kernel
theorem d_F_gap_118 : decode (z_c m_F_gap) 118 = .ok (.iload 11, 2) := by decide +kernel
theorem d_F_gap_120 : decode (z_c m_F_gap) 120 = .ok (.istore_n 3, 1) := by decide +kernel
theorem d_F_gap_121 : decode (z_c m_F_gap) 121 = .ok (.iinc 8 1, 3) := by decide +kernel
theorem d_F_gap_124 : decode (z_c m_F_gap) 124 = .ok (.goto (-103), 3) := by decide +kernel
theorem d_F_gap_127 : decode (z_c m_F_gap) 127 = .ok (.aload_n 0, 1) := by decide +kernel
theorem d_F_gap_128 : decode (z_c m_F_gap) 128 = .ok (.lload 4, 2) := by decide +kernel
theorem d_F_gap_130 : decode (z_c m_F_gap) 130 = .ok (.lload 6, 2) := by decide +kernel
theorem d_F_gap_132 : decode (z_c m_F_gap) 132 = .ok (.invokevirtual 233, 3) := by decide +kernel
theorem d_F_gap_135 : decode (z_c m_F_gap) 135 = .ok (.ireturn, 1) := by decide +kernel
abbrev L_F_gap_21 (X : z_X) (N : Nat) (σ : z_G) (x2 x3 x4 x6 x8 : Int) (g : z_G) (Q : z_P) : Prop := z_U X 5 m_F_gap 21 [(0, (2, 0)), (1, (2, 25)), (2, (0, x2)), (3, (0, x3)), (4, (1, x4)), (6, (1, x6)), (8, (0, x8))] [] N σ g Q
set_option maxRecDepth 8000 in
theorem b_F_gap_0 {X : z_X} {N : Nat} {σ g : z_G} {Q : z_P} (hx : z_lay X N σ 0 z_SF z_RF) (h : L_F_gap_21 X N σ 0 1 0 1 0 g Q) : z_O X 5 m_F_gap [(2, 0)] N σ g Q := by
  refine z_Oenter mi_F_gap rfl (fun _ => ?_)
  show z_U X 5 m_F_gap 0 [(0, (2, 0))] [] N σ g Q
  refine z_aload_n (i := 0) (c := 0) 0 d_F_gap_0 rfl rfl rfl ?_
  refine z_getr (c := 0) (kI := 11) (r2 := 23) d_F_gap_1 fd_F_board fl_F_67 rfl rfl rfl (ks_F_0 hx) (kl_F_0 hx) (kr_F_0_11 hx) ?_
  refine z_getr (c := 23) (kI := 3) (r2 := 25) d_F_gap_4 fd_Bd_pins fl_F_167 rfl rfl rfl (ks_F_23 hx) (kl_F_23 hx) (kr_F_23_3 hx) ?_
  refine z_astore_n (i := 1) (c := 25) (ls' := [(1, (2, 25)), (0, (2, 0))]) d_F_gap_7 rfl rfl rfl rfl ?_
  refine z_iconst (n := 0) d_F_gap_8 (by decide) ?_
  refine z_istore_n (i := 2) (ls' := [(2, (0, 0)), (1, (2, 25)), (0, (2, 0))]) d_F_gap_9 rfl rfl rfl ?_
  refine z_iconst (n := 1) d_F_gap_10 (by decide) ?_
  refine z_istore_n (i := 3) (ls' := [(3, (0, 1)), (2, (0, 0)), (1, (2, 25)), (0, (2, 0))]) d_F_gap_11 rfl rfl rfl ?_
  refine z_lconst (v := 0) d_F_gap_12 (by decide) (by decide) ?_
  refine z_lstore (ls' := [(4, (1, 0)), (3, (0, 1)), (2, (0, 0)), (1, (2, 25)), (0, (2, 0))]) d_F_gap_13 rfl rfl ?_
  refine z_lconst (v := 1) d_F_gap_15 (by decide) (by decide) ?_
  refine z_lstore (ls' := [(6, (1, 1)), (4, (1, 0)), (3, (0, 1)), (2, (0, 0)), (1, (2, 25)), (0, (2, 0))]) d_F_gap_16 rfl rfl ?_
  refine z_iconst (n := 0) d_F_gap_18 (by decide) ?_
  refine z_istore (ls' := [(8, (0, 0)), (6, (1, 1)), (4, (1, 0)), (3, (0, 1)), (2, (0, 0)), (1, (2, 25)), (0, (2, 0))]) d_F_gap_19 rfl rfl ?_
  refine z_sub (ls' := [(0, (2, 0)), (1, (2, 25)), (2, (0, 0)), (3, (0, 1)), (4, (1, 0)), (6, (1, 1)), (8, (0, 0))]) [6, 5, 4, 3, 2, 1, 0] rfl ?_
  exact h
set_option maxRecDepth 8000 in
theorem b_F_gap_21 {X : z_X} {N : Nat} {σ g : z_G} {Q : z_P} {x2 x3 x4 x6 x8 : Int} (hx : z_lay X N σ 0 z_SF z_RF) (h : (((g 25 3) < x8) → (z_O X 2 m_F_tell [(2, 0), (1, x4), (1, x6)] N σ g (fun r0 g0 => (r0 = 0 ∨ r0 = 1) → Q r0 g0))) ∧ (¬ ((g 25 3) < x8) → (z_O X 4 m_Pi_rising [(2, 25), (0, x8)] N σ g (fun r1 g1 => (((0 ≤ r1) → ((0 ≤ r1 ∧ r1 < 12) ∧ ((-9223372036854775808 ≤ ((g1 26 r1) * x3) ∧ ((g1 26 r1) * x3) ≤ 9223372036854775807) ∧ ((-9223372036854775808 ≤ (x2 * (g1 27 r1)) ∧ (x2 * (g1 27 r1)) ≤ 9223372036854775807) ∧ ((-9223372036854775808 ≤ (((g1 26 r1) * x3) - (x2 * (g1 27 r1))) ∧ (((g1 26 r1) * x3) - (x2 * (g1 27 r1))) ≤ 9223372036854775807) ∧ ((-9223372036854775808 ≤ ((g1 27 r1) * x3) ∧ ((g1 27 r1) * x3) ≤ 9223372036854775807) ∧ ((-9223372036854775808 ≤ ((((g1 26 r1) * x3) - (x2 * (g1 27 r1))) * x6) ∧ ((((g1 26 r1) * x3) - (x2 * (g1 27 r1))) * x6) ≤ 9223372036854775807) ∧ ((-9223372036854775808 ≤ (x4 * ((g1 27 r1) * x3)) ∧ (x4 * ((g1 27 r1) * x3)) ≤ 9223372036854775807) ∧ (((((((g1 26 r1) * x3) - (x2 * (g1 27 r1))) * x6) ≤ (x4 * ((g1 27 r1) * x3))) → ((-2147483648 ≤ (x8 + 1) ∧ (x8 + 1) ≤ 2147483647) ∧ L_F_gap_21 X N σ (g1 26 r1) (g1 27 r1) x4 x6 (x8 + 1) g1 Q)) ∧ (¬ (((((g1 26 r1) * x3) - (x2 * (g1 27 r1))) * x6) ≤ (x4 * ((g1 27 r1) * x3))) → ((-2147483648 ≤ (x8 + 1) ∧ (x8 + 1) ≤ 2147483647) ∧ L_F_gap_21 X N σ (g1 26 r1) (g1 27 r1) (((g1 26 r1) * x3) - (x2 * (g1 27 r1))) ((g1 27 r1) * x3) (x8 + 1) g1 Q))))))))))) ∧ (¬ (0 ≤ r1) → ((-9223372036854775808 ≤ (1 * x3) ∧ (1 * x3) ≤ 9223372036854775807) ∧ ((-9223372036854775808 ≤ (x2 * 1) ∧ (x2 * 1) ≤ 9223372036854775807) ∧ ((-9223372036854775808 ≤ ((1 * x3) - (x2 * 1)) ∧ ((1 * x3) - (x2 * 1)) ≤ 9223372036854775807) ∧ ((-9223372036854775808 ≤ (((1 * x3) - (x2 * 1)) * x6) ∧ (((1 * x3) - (x2 * 1)) * x6) ≤ 9223372036854775807) ∧ ((-9223372036854775808 ≤ (x4 * (1 * x3)) ∧ (x4 * (1 * x3)) ≤ 9223372036854775807) ∧ ((((((1 * x3) - (x2 * 1)) * x6) ≤ (x4 * (1 * x3))) → ((-2147483648 ≤ (x8 + 1) ∧ (x8 + 1) ≤ 2147483647) ∧ L_F_gap_21 X N σ 1 1 x4 x6 (x8 + 1) g1 Q)) ∧ (¬ ((((1 * x3) - (x2 * 1)) * x6) ≤ (x4 * (1 * x3))) → ((-2147483648 ≤ (x8 + 1) ∧ (x8 + 1) ≤ 2147483647) ∧ L_F_gap_21 X N σ 1 1 ((1 * x3) - (x2 * 1)) (1 * x3) (x8 + 1) g1 Q)))))))))))))) : L_F_gap_21 X N σ x2 x3 x4 x6 x8 g Q := by
  refine z_iload 6 d_F_gap_21 rfl ?_
  refine z_aload_n (i := 1) (c := 25) 1 d_F_gap_23 rfl rfl rfl ?_
  refine z_geti (c := 25) (kI := 3) d_F_gap_24 fd_Pi_many fl_F_171 (Or.inl rfl) rfl rfl (ks_F_25 hx) (kl_F_25 hx) ?_
  refine z_icmp_gt (tgt := 127) d_F_gap_27 (by decide) (fun c1 => ?_) (fun c1 => ?_)
  · have h := h.1 c1
    refine z_aload_n (i := 0) (c := 0) 0 d_F_gap_127 rfl rfl rfl ?_
    refine z_lload 4 d_F_gap_128 rfl ?_
    refine z_lload 5 d_F_gap_130 rfl ?_
    refine z_cV (c := 0) (as := [(1, x4), (1, x6)]) (d' := 2) (st := []) d_F_gap_132 mi_F_tell ml_F_233 mv_F_tell se_F_tell rfl rfl rfl rfl (ks_F_0 hx) rfl rfl (kl_F_0 hx) rfl rfl (z_Omono h (fun r0 g0 _ h hro => ?_))
    have h := h (z_b01 hro)
    have hzr0 := z_b01 hro
    show z_U X 5 m_F_gap 135 [(0, (2, 0)), (1, (2, 25)), (2, (0, x2)), (3, (0, x3)), (4, (1, x4)), (6, (1, x6)), (8, (0, x8))] [(0, r0)] N σ g0 Q
    exact z_zret d_F_gap_135 rfl (by decide) (by decide) hzr0 ⟨rfl, rfl, h⟩
  · have h := h.2 c1
    refine z_aload_n (i := 1) (c := 25) 1 d_F_gap_30 rfl rfl rfl ?_
    refine z_iload 6 d_F_gap_31 rfl ?_
    refine z_cV (c := 25) (as := [(0, x8)]) (d' := 4) (st := []) d_F_gap_33 mi_Pi_rising ml_F_375 mv_Pi_rising se_Pi_rising rfl rfl rfl rfl (ks_F_25 hx) rfl rfl (kl_F_25 hx) rfl rfl (z_Omono h (fun r1 g1 _ h hro => ?_))
    show z_U X 5 m_F_gap 36 [(0, (2, 0)), (1, (2, 25)), (2, (0, x2)), (3, (0, x3)), (4, (1, x4)), (6, (1, x6)), (8, (0, x8))] [(0, r1)] N σ g1 Q
    refine z_istore (ls' := [(9, (0, r1)), (0, (2, 0)), (1, (2, 25)), (2, (0, x2)), (3, (0, x3)), (4, (1, x4)), (6, (1, x6)), (8, (0, x8))]) d_F_gap_36 rfl rfl ?_
    refine z_iload 0 d_F_gap_38 rfl ?_
    refine z_if_ge (tgt := 47) d_F_gap_40 (by decide) (fun c2 => ?_) (fun c2 => ?_)
    · have h := h.1 c2
      refine z_aload_n (i := 1) (c := 25) 2 d_F_gap_47 rfl rfl rfl ?_
      refine z_getr (c := 25) (kI := 0) (r2 := 26) d_F_gap_48 fd_Pi_tops fl_F_384 rfl rfl rfl (ks_F_25 hx) (kl_F_25 hx) (kr_F_25_0 hx) ?_
      refine z_iload 0 d_F_gap_51 rfl ?_
      obtain ⟨c3, h⟩ := h
      refine z_iald (c := 26) (m := 12) d_F_gap_53 rfl (ks_F_26 hx) (kl_F_26 hx) rfl (by decide) c3 ?_
      refine z_istore (ls' := [(10, (0, g1 26 r1)), (9, (0, r1)), (0, (2, 0)), (1, (2, 25)), (2, (0, x2)), (3, (0, x3)), (4, (1, x4)), (6, (1, x6)), (8, (0, x8))]) d_F_gap_54 rfl rfl ?_
      refine z_iload 1 d_F_gap_56 rfl ?_
      refine z_if_ge (tgt := 65) d_F_gap_58 (by decide) (fun _ => ?_) (fun c => absurd c2 c)
      refine z_aload_n (i := 1) (c := 25) 3 d_F_gap_65 rfl rfl rfl ?_
      refine z_getr (c := 25) (kI := 1) (r2 := 27) d_F_gap_66 fd_Pi_bottoms fl_F_387 rfl rfl rfl (ks_F_25 hx) (kl_F_25 hx) (kr_F_25_1 hx) ?_
      refine z_iload 1 d_F_gap_69 rfl ?_
      refine z_iald (c := 27) (m := 12) d_F_gap_71 rfl (ks_F_27 hx) (kl_F_27 hx) rfl (by decide) c3 ?_
      refine z_istore (ls' := [(11, (0, g1 27 r1)), (10, (0, g1 26 r1)), (9, (0, r1)), (0, (2, 0)), (1, (2, 25)), (2, (0, x2)), (3, (0, x3)), (4, (1, x4)), (6, (1, x6)), (8, (0, x8))]) d_F_gap_72 rfl rfl ?_
      refine z_iload 1 d_F_gap_74 rfl ?_
      refine z_iload 0 d_F_gap_76 rfl ?_
      refine z_iload_n (i := 2) 5 d_F_gap_78 rfl rfl ?_
      refine z_iload_n (i := 3) 6 d_F_gap_79 rfl rfl ?_
      refine z_cS (as := [(0, g1 26 r1), (0, g1 27 r1), (0, x2), (0, x3)]) (d' := 1) (st := []) d_F_gap_80 mi_F_cross ml_F_263 ms_F_cross rfl rfl rfl rfl rfl (b_F_cross_0  ?_)
      obtain ⟨c4, h⟩ := h
      refine ⟨c4, ?_⟩
      obtain ⟨c5, h⟩ := h
      refine ⟨c5, ?_⟩
      obtain ⟨c6, h⟩ := h
      refine ⟨c6, ?_⟩
      intro _
      show z_U X 5 m_F_gap 83 [(11, (0, g1 27 r1)), (10, (0, g1 26 r1)), (9, (0, r1)), (0, (2, 0)), (1, (2, 25)), (2, (0, x2)), (3, (0, x3)), (4, (1, x4)), (6, (1, x6)), (8, (0, x8))] [(1, ((g1 26 r1) * x3) - (x2 * (g1 27 r1)))] N σ g1 Q
      refine z_lstore (ls' := [(12, (1, ((g1 26 r1) * x3) - (x2 * (g1 27 r1)))), (11, (0, g1 27 r1)), (10, (0, g1 26 r1)), (9, (0, r1)), (0, (2, 0)), (1, (2, 25)), (2, (0, x2)), (3, (0, x3)), (4, (1, x4)), (6, (1, x6)), (8, (0, x8))]) d_F_gap_83 rfl rfl ?_
      refine z_iload 1 d_F_gap_85 rfl ?_
      refine z_i2l d_F_gap_87 ?_
      refine z_iload_n (i := 3) 7 d_F_gap_88 rfl rfl ?_
      refine z_i2l d_F_gap_89 ?_
      obtain ⟨c7, h⟩ := h
      refine z_lmul d_F_gap_90 c7 ?_
      refine z_lstore (ls' := [(14, (1, (g1 27 r1) * x3)), (12, (1, ((g1 26 r1) * x3) - (x2 * (g1 27 r1)))), (11, (0, g1 27 r1)), (10, (0, g1 26 r1)), (9, (0, r1)), (0, (2, 0)), (1, (2, 25)), (2, (0, x2)), (3, (0, x3)), (4, (1, x4)), (6, (1, x6)), (8, (0, x8))]) d_F_gap_91 rfl rfl ?_
      refine z_lload 1 d_F_gap_93 rfl ?_
      refine z_lload 10 d_F_gap_95 rfl ?_
      obtain ⟨c8, h⟩ := h
      refine z_lmul d_F_gap_97 c8 ?_
      refine z_lload 9 d_F_gap_98 rfl ?_
      refine z_lload 0 d_F_gap_100 rfl ?_
      obtain ⟨c9, h⟩ := h
      refine z_lmul d_F_gap_102 c9 ?_
      refine z_lcmp_le (tgt := 115) d_F_gap_103 d_F_gap_104 (by decide) (fun c10 => ?_) (fun c10 => ?_)
      · have h := h.1 c10
        refine z_iload 3 d_F_gap_115 rfl ?_
        refine z_istore_n (i := 2) (ls' := [(2, (0, g1 26 r1)), (14, (1, (g1 27 r1) * x3)), (12, (1, ((g1 26 r1) * x3) - (x2 * (g1 27 r1)))), (11, (0, g1 27 r1)), (10, (0, g1 26 r1)), (9, (0, r1)), (0, (2, 0)), (1, (2, 25)), (3, (0, x3)), (4, (1, x4)), (6, (1, x6)), (8, (0, x8))]) d_F_gap_117 rfl rfl rfl ?_
        refine z_iload 3 d_F_gap_118 rfl ?_
        refine z_istore_n (i := 3) (ls' := [(3, (0, g1 27 r1)), (2, (0, g1 26 r1)), (14, (1, (g1 27 r1) * x3)), (12, (1, ((g1 26 r1) * x3) - (x2 * (g1 27 r1)))), (11, (0, g1 27 r1)), (10, (0, g1 26 r1)), (9, (0, r1)), (0, (2, 0)), (1, (2, 25)), (4, (1, x4)), (6, (1, x6)), (8, (0, x8))]) d_F_gap_120 rfl rfl rfl ?_
        obtain ⟨c11, h⟩ := h
        refine z_iinc (n := 1) (ls' := [(8, (0, x8 + 1)), (3, (0, g1 27 r1)), (2, (0, g1 26 r1)), (14, (1, (g1 27 r1) * x3)), (12, (1, ((g1 26 r1) * x3) - (x2 * (g1 27 r1)))), (11, (0, g1 27 r1)), (10, (0, g1 26 r1)), (9, (0, r1)), (0, (2, 0)), (1, (2, 25)), (4, (1, x4)), (6, (1, x6))]) 11 d_F_gap_121 rfl c11 rfl rfl ?_
        refine z_goto (tgt := 21) d_F_gap_124 (by decide) ?_
        refine z_sub (ls' := [(0, (2, 0)), (1, (2, 25)), (2, (0, g1 26 r1)), (3, (0, g1 27 r1)), (4, (1, x4)), (6, (1, x6)), (8, (0, x8 + 1))]) [8, 9, 2, 1, 10, 11, 0] rfl ?_
        exact h
      · have h := h.2 c10
        refine z_lload 1 d_F_gap_107 rfl ?_
        refine z_lstore (ls' := [(4, (1, ((g1 26 r1) * x3) - (x2 * (g1 27 r1)))), (14, (1, (g1 27 r1) * x3)), (12, (1, ((g1 26 r1) * x3) - (x2 * (g1 27 r1)))), (11, (0, g1 27 r1)), (10, (0, g1 26 r1)), (9, (0, r1)), (0, (2, 0)), (1, (2, 25)), (2, (0, x2)), (3, (0, x3)), (6, (1, x6)), (8, (0, x8))]) d_F_gap_109 rfl rfl ?_
        refine z_lload 1 d_F_gap_111 rfl ?_
        refine z_lstore (ls' := [(6, (1, (g1 27 r1) * x3)), (4, (1, ((g1 26 r1) * x3) - (x2 * (g1 27 r1)))), (14, (1, (g1 27 r1) * x3)), (12, (1, ((g1 26 r1) * x3) - (x2 * (g1 27 r1)))), (11, (0, g1 27 r1)), (10, (0, g1 26 r1)), (9, (0, r1)), (0, (2, 0)), (1, (2, 25)), (2, (0, x2)), (3, (0, x3)), (8, (0, x8))]) d_F_gap_113 rfl rfl ?_
        refine z_iload 5 d_F_gap_115 rfl ?_
        refine z_istore_n (i := 2) (ls' := [(2, (0, g1 26 r1)), (6, (1, (g1 27 r1) * x3)), (4, (1, ((g1 26 r1) * x3) - (x2 * (g1 27 r1)))), (14, (1, (g1 27 r1) * x3)), (12, (1, ((g1 26 r1) * x3) - (x2 * (g1 27 r1)))), (11, (0, g1 27 r1)), (10, (0, g1 26 r1)), (9, (0, r1)), (0, (2, 0)), (1, (2, 25)), (3, (0, x3)), (8, (0, x8))]) d_F_gap_117 rfl rfl rfl ?_
        refine z_iload 5 d_F_gap_118 rfl ?_
        refine z_istore_n (i := 3) (ls' := [(3, (0, g1 27 r1)), (2, (0, g1 26 r1)), (6, (1, (g1 27 r1) * x3)), (4, (1, ((g1 26 r1) * x3) - (x2 * (g1 27 r1)))), (14, (1, (g1 27 r1) * x3)), (12, (1, ((g1 26 r1) * x3) - (x2 * (g1 27 r1)))), (11, (0, g1 27 r1)), (10, (0, g1 26 r1)), (9, (0, r1)), (0, (2, 0)), (1, (2, 25)), (8, (0, x8))]) d_F_gap_120 rfl rfl rfl ?_
        obtain ⟨c12, h⟩ := h
        refine z_iinc (n := 1) (ls' := [(8, (0, x8 + 1)), (3, (0, g1 27 r1)), (2, (0, g1 26 r1)), (6, (1, (g1 27 r1) * x3)), (4, (1, ((g1 26 r1) * x3) - (x2 * (g1 27 r1)))), (14, (1, (g1 27 r1) * x3)), (12, (1, ((g1 26 r1) * x3) - (x2 * (g1 27 r1)))), (11, (0, g1 27 r1)), (10, (0, g1 26 r1)), (9, (0, r1)), (0, (2, 0)), (1, (2, 25))]) 11 d_F_gap_121 rfl c12 rfl rfl ?_
        refine z_goto (tgt := 21) d_F_gap_124 (by decide) ?_
        refine z_sub (ls' := [(0, (2, 0)), (1, (2, 25)), (2, (0, g1 26 r1)), (3, (0, g1 27 r1)), (4, (1, ((g1 26 r1) * x3) - (x2 * (g1 27 r1)))), (6, (1, (g1 27 r1) * x3)), (8, (0, x8 + 1))]) [10, 11, 2, 1, 4, 3, 0] rfl ?_
        exact h
    · have h := h.2 c2
      refine z_iconst (n := 1) d_F_gap_43 (by decide) ?_
      refine z_goto (tgt := 54) d_F_gap_44 (by decide) ?_
      refine z_istore (ls' := [(10, (0, 1)), (9, (0, r1)), (0, (2, 0)), (1, (2, 25)), (2, (0, x2)), (3, (0, x3)), (4, (1, x4)), (6, (1, x6)), (8, (0, x8))]) d_F_gap_54 rfl rfl ?_
      refine z_iload 1 d_F_gap_56 rfl ?_
      refine z_if_ge (tgt := 65) d_F_gap_58 (by decide) (fun c => absurd c c2) (fun _ => ?_)
      refine z_iconst (n := 1) d_F_gap_61 (by decide) ?_
      refine z_goto (tgt := 72) d_F_gap_62 (by decide) ?_
      refine z_istore (ls' := [(11, (0, 1)), (10, (0, 1)), (9, (0, r1)), (0, (2, 0)), (1, (2, 25)), (2, (0, x2)), (3, (0, x3)), (4, (1, x4)), (6, (1, x6)), (8, (0, x8))]) d_F_gap_72 rfl rfl ?_
      refine z_iload 1 d_F_gap_74 rfl ?_
      refine z_iload 0 d_F_gap_76 rfl ?_
      refine z_iload_n (i := 2) 5 d_F_gap_78 rfl rfl ?_
      refine z_iload_n (i := 3) 6 d_F_gap_79 rfl rfl ?_
      refine z_cS (as := [(0, 1), (0, 1), (0, x2), (0, x3)]) (d' := 1) (st := []) d_F_gap_80 mi_F_cross ml_F_263 ms_F_cross rfl rfl rfl rfl rfl (b_F_cross_0  ?_)
      obtain ⟨c13, h⟩ := h
      refine ⟨c13, ?_⟩
      obtain ⟨c14, h⟩ := h
      refine ⟨c14, ?_⟩
      obtain ⟨c15, h⟩ := h
      refine ⟨c15, ?_⟩
      intro _
      show z_U X 5 m_F_gap 83 [(11, (0, 1)), (10, (0, 1)), (9, (0, r1)), (0, (2, 0)), (1, (2, 25)), (2, (0, x2)), (3, (0, x3)), (4, (1, x4)), (6, (1, x6)), (8, (0, x8))] [(1, (1 * x3) - (x2 * 1))] N σ g1 Q
      refine z_lstore (ls' := [(12, (1, (1 * x3) - (x2 * 1))), (11, (0, 1)), (10, (0, 1)), (9, (0, r1)), (0, (2, 0)), (1, (2, 25)), (2, (0, x2)), (3, (0, x3)), (4, (1, x4)), (6, (1, x6)), (8, (0, x8))]) d_F_gap_83 rfl rfl ?_
      refine z_iload 1 d_F_gap_85 rfl ?_
      refine z_i2l d_F_gap_87 ?_
      refine z_iload_n (i := 3) 7 d_F_gap_88 rfl rfl ?_
      refine z_i2l d_F_gap_89 ?_
      refine z_lmul d_F_gap_90 c13 ?_
      refine z_lstore (ls' := [(14, (1, 1 * x3)), (12, (1, (1 * x3) - (x2 * 1))), (11, (0, 1)), (10, (0, 1)), (9, (0, r1)), (0, (2, 0)), (1, (2, 25)), (2, (0, x2)), (3, (0, x3)), (4, (1, x4)), (6, (1, x6)), (8, (0, x8))]) d_F_gap_91 rfl rfl ?_
      refine z_lload 1 d_F_gap_93 rfl ?_
      refine z_lload 10 d_F_gap_95 rfl ?_
      obtain ⟨c16, h⟩ := h
      refine z_lmul d_F_gap_97 c16 ?_
      refine z_lload 9 d_F_gap_98 rfl ?_
      refine z_lload 0 d_F_gap_100 rfl ?_
      obtain ⟨c17, h⟩ := h
      refine z_lmul d_F_gap_102 c17 ?_
      refine z_lcmp_le (tgt := 115) d_F_gap_103 d_F_gap_104 (by decide) (fun c18 => ?_) (fun c18 => ?_)
      · have h := h.1 c18
        refine z_iload 3 d_F_gap_115 rfl ?_
        refine z_istore_n (i := 2) (ls' := [(2, (0, 1)), (14, (1, 1 * x3)), (12, (1, (1 * x3) - (x2 * 1))), (11, (0, 1)), (10, (0, 1)), (9, (0, r1)), (0, (2, 0)), (1, (2, 25)), (3, (0, x3)), (4, (1, x4)), (6, (1, x6)), (8, (0, x8))]) d_F_gap_117 rfl rfl rfl ?_
        refine z_iload 3 d_F_gap_118 rfl ?_
        refine z_istore_n (i := 3) (ls' := [(3, (0, 1)), (2, (0, 1)), (14, (1, 1 * x3)), (12, (1, (1 * x3) - (x2 * 1))), (11, (0, 1)), (10, (0, 1)), (9, (0, r1)), (0, (2, 0)), (1, (2, 25)), (4, (1, x4)), (6, (1, x6)), (8, (0, x8))]) d_F_gap_120 rfl rfl rfl ?_
        obtain ⟨c19, h⟩ := h
        refine z_iinc (n := 1) (ls' := [(8, (0, x8 + 1)), (3, (0, 1)), (2, (0, 1)), (14, (1, 1 * x3)), (12, (1, (1 * x3) - (x2 * 1))), (11, (0, 1)), (10, (0, 1)), (9, (0, r1)), (0, (2, 0)), (1, (2, 25)), (4, (1, x4)), (6, (1, x6))]) 11 d_F_gap_121 rfl c19 rfl rfl ?_
        refine z_goto (tgt := 21) d_F_gap_124 (by decide) ?_
        refine z_sub (ls' := [(0, (2, 0)), (1, (2, 25)), (2, (0, 1)), (3, (0, 1)), (4, (1, x4)), (6, (1, x6)), (8, (0, x8 + 1))]) [8, 9, 2, 1, 10, 11, 0] rfl ?_
        exact h
      · have h := h.2 c18
        refine z_lload 1 d_F_gap_107 rfl ?_
        refine z_lstore (ls' := [(4, (1, (1 * x3) - (x2 * 1))), (14, (1, 1 * x3)), (12, (1, (1 * x3) - (x2 * 1))), (11, (0, 1)), (10, (0, 1)), (9, (0, r1)), (0, (2, 0)), (1, (2, 25)), (2, (0, x2)), (3, (0, x3)), (6, (1, x6)), (8, (0, x8))]) d_F_gap_109 rfl rfl ?_
        refine z_lload 1 d_F_gap_111 rfl ?_
        refine z_lstore (ls' := [(6, (1, 1 * x3)), (4, (1, (1 * x3) - (x2 * 1))), (14, (1, 1 * x3)), (12, (1, (1 * x3) - (x2 * 1))), (11, (0, 1)), (10, (0, 1)), (9, (0, r1)), (0, (2, 0)), (1, (2, 25)), (2, (0, x2)), (3, (0, x3)), (8, (0, x8))]) d_F_gap_113 rfl rfl ?_
        refine z_iload 5 d_F_gap_115 rfl ?_
        refine z_istore_n (i := 2) (ls' := [(2, (0, 1)), (6, (1, 1 * x3)), (4, (1, (1 * x3) - (x2 * 1))), (14, (1, 1 * x3)), (12, (1, (1 * x3) - (x2 * 1))), (11, (0, 1)), (10, (0, 1)), (9, (0, r1)), (0, (2, 0)), (1, (2, 25)), (3, (0, x3)), (8, (0, x8))]) d_F_gap_117 rfl rfl rfl ?_
        refine z_iload 5 d_F_gap_118 rfl ?_
        refine z_istore_n (i := 3) (ls' := [(3, (0, 1)), (2, (0, 1)), (6, (1, 1 * x3)), (4, (1, (1 * x3) - (x2 * 1))), (14, (1, 1 * x3)), (12, (1, (1 * x3) - (x2 * 1))), (11, (0, 1)), (10, (0, 1)), (9, (0, r1)), (0, (2, 0)), (1, (2, 25)), (8, (0, x8))]) d_F_gap_120 rfl rfl rfl ?_
        obtain ⟨c20, h⟩ := h
        refine z_iinc (n := 1) (ls' := [(8, (0, x8 + 1)), (3, (0, 1)), (2, (0, 1)), (6, (1, 1 * x3)), (4, (1, (1 * x3) - (x2 * 1))), (14, (1, 1 * x3)), (12, (1, (1 * x3) - (x2 * 1))), (11, (0, 1)), (10, (0, 1)), (9, (0, r1)), (0, (2, 0)), (1, (2, 25))]) 11 d_F_gap_121 rfl c20 rfl rfl ?_
        refine z_goto (tgt := 21) d_F_gap_124 (by decide) ?_
        refine z_sub (ls' := [(0, (2, 0)), (1, (2, 25)), (2, (0, 1)), (3, (0, 1)), (4, (1, (1 * x3) - (x2 * 1))), (6, (1, 1 * x3)), (8, (0, x8 + 1))]) [10, 11, 2, 1, 4, 3, 0] rfl ?_
        exact h
theorem d_F_jump_0 : decode (z_c m_F_jump) 0 = .ok (.aload_n 0, 1) := by decide +kernel
theorem d_F_jump_1 : decode (z_c m_F_jump) 1 = .ok (.iload_n 1, 1) := by decide +kernel
theorem d_F_jump_2 : decode (z_c m_F_jump) 2 = .ok (.iload_n 2, 1) := by decide +kernel
theorem d_F_jump_3 : decode (z_c m_F_jump) 3 = .ok (.invokevirtual 294, 3) := by decide +kernel
theorem d_F_jump_6 : decode (z_c m_F_jump) 6 = .ok (.istore_n 3, 1) := by decide +kernel
theorem d_F_jump_7 : decode (z_c m_F_jump) 7 = .ok (.iload_n 3, 1) := by decide +kernel
theorem d_F_jump_8 : decode (z_c m_F_jump) 8 = .ok (.ifCond .eq 9, 3) := by decide +kernel
theorem d_F_jump_11 : decode (z_c m_F_jump) 11 = .ok (.aload_n 0, 1) := by decide +kernel
theorem d_F_jump_12 : decode (z_c m_F_jump) 12 = .ok (.iload_n 3, 1) := by decide +kernel
theorem d_F_jump_13 : decode (z_c m_F_jump) 13 = .ok (.invokevirtual 121, 3) := by decide +kernel
theorem d_F_jump_16 : decode (z_c m_F_jump) 16 = .ok (.ireturn, 1) := by decide +kernel
theorem d_F_jump_17 : decode (z_c m_F_jump) 17 = .ok (.aload_n 0, 1) := by decide +kernel
theorem d_F_jump_18 : decode (z_c m_F_jump) 18 = .ok (.getfield 67, 3) := by decide +kernel
theorem d_F_jump_21 : decode (z_c m_F_jump) 21 = .ok (.aload_n 0, 1) := by decide +kernel
theorem d_F_jump_22 : decode (z_c m_F_jump) 22 = .ok (.getfield 50, 3) := by decide +kernel
theorem d_F_jump_25 : decode (z_c m_F_jump) 25 = .ok (.invokevirtual 350, 3) := by decide +kernel
theorem d_F_jump_28 : decode (z_c m_F_jump) 28 = .ok (.aload_n 0, 1) := by decide +kernel
theorem d_F_jump_29 : decode (z_c m_F_jump) 29 = .ok (.aload_n 0, 1) := by decide +kernel
theorem d_F_jump_30 : decode (z_c m_F_jump) 30 = .ok (.getfield 67, 3) := by decide +kernel
theorem d_F_jump_33 : decode (z_c m_F_jump) 33 = .ok (.getfield 217, 3) := by decide +kernel
theorem d_F_jump_36 : decode (z_c m_F_jump) 36 = .ok (.getfield 220, 3) := by decide +kernel
theorem d_F_jump_39 : decode (z_c m_F_jump) 39 = .ok (.invokevirtual 176, 3) := by decide +kernel
theorem d_F_jump_42 : decode (z_c m_F_jump) 42 = .ok (.ireturn, 1) := by decide +kernel
set_option maxRecDepth 8000 in
theorem b_F_jump_0 {X : z_X} {N : Nat} {σ g : z_G} {Q : z_P} {a1 a2 : Int} (hx : z_lay X N σ 0 z_SF z_RF) (h : z_O X 4 m_F_whyNotOfTree [(2, 0), (0, a1), (0, a2)] N σ g (fun r0 g0 => (((r0 = 0) → (z_O X 3 m_Bd_goTo [(2, 23), (2, 18)] N σ g0 (fun r1 g1 => Q (g1 24 4) (z_up g1 0 0 0)))) ∧ (¬ (r0 = 0) → Q (-1) (z_up g0 0 0 r0))))) : z_O X 5 m_F_jump [(2, 0), (0, a1), (0, a2)] N σ g Q := by
  refine z_Oenter mi_F_jump rfl (fun _ => ?_)
  show z_U X 5 m_F_jump 0 [(0, (2, 0)), (1, (0, a1)), (2, (0, a2))] [] N σ g Q
  refine z_aload_n (i := 0) (c := 0) 0 d_F_jump_0 rfl rfl rfl ?_
  refine z_iload_n (i := 1) 1 d_F_jump_1 rfl rfl ?_
  refine z_iload_n (i := 2) 2 d_F_jump_2 rfl rfl ?_
  refine z_cV (c := 0) (as := [(0, a1), (0, a2)]) (d' := 4) (st := []) d_F_jump_3 mi_F_whyNotOfTree ml_F_294 mv_F_whyNotOfTree se_F_whyNotOfTree rfl rfl rfl rfl (ks_F_0 hx) rfl rfl (kl_F_0 hx) rfl rfl (z_Omono h (fun r0 g0 _ h hro => ?_))
  show z_U X 5 m_F_jump 6 [(0, (2, 0)), (1, (0, a1)), (2, (0, a2))] [(0, r0)] N σ g0 Q
  refine z_istore_n (i := 3) (ls' := [(3, (0, r0)), (0, (2, 0)), (1, (0, a1)), (2, (0, a2))]) d_F_jump_6 rfl rfl rfl ?_
  refine z_iload_n (i := 3) 0 d_F_jump_7 rfl rfl ?_
  refine z_if_eq (tgt := 17) d_F_jump_8 (by decide) (fun c1 => ?_) (fun c1 => ?_)
  · have h := h.1 c1
    refine z_aload_n (i := 0) (c := 0) 1 d_F_jump_17 rfl rfl rfl ?_
    refine z_getr (c := 0) (kI := 11) (r2 := 23) d_F_jump_18 fd_F_board fl_F_67 rfl rfl rfl (ks_F_0 hx) (kl_F_0 hx) (kr_F_0_11 hx) ?_
    refine z_aload_n (i := 0) (c := 0) 1 d_F_jump_21 rfl rfl rfl ?_
    refine z_getr (c := 0) (kI := 8) (r2 := 18) d_F_jump_22 fd_F_chain fl_F_50 rfl rfl rfl (ks_F_0 hx) (kl_F_0 hx) (kr_F_0_8 hx) ?_
    refine z_cV (c := 23) (as := [(2, 18)]) (d' := 3) (st := []) d_F_jump_25 mi_Bd_goTo ml_F_350 mv_Bd_goTo se_Bd_goTo rfl rfl rfl rfl (ks_F_23 hx) rfl rfl (kl_F_23 hx) rfl rfl (z_Omono h (fun r1 g1 _ h hro => ?_))
    show z_U X 5 m_F_jump 28 [(3, (0, r0)), (0, (2, 0)), (1, (0, a1)), (2, (0, a2))] [] N σ g1 Q
    refine z_aload_n (i := 0) (c := 0) 1 d_F_jump_28 rfl rfl rfl ?_
    refine z_aload_n (i := 0) (c := 0) 1 d_F_jump_29 rfl rfl rfl ?_
    refine z_getr (c := 0) (kI := 11) (r2 := 23) d_F_jump_30 fd_F_board fl_F_67 rfl rfl rfl (ks_F_0 hx) (kl_F_0 hx) (kr_F_0_11 hx) ?_
    refine z_getr (c := 23) (kI := 2) (r2 := 24) d_F_jump_33 fd_Bd_walker fl_F_217 rfl rfl rfl (ks_F_23 hx) (kl_F_23 hx) (kr_F_23_2 hx) ?_
    refine z_geti (c := 24) (kI := 4) d_F_jump_36 fd_Sp_deep fl_F_220 (Or.inl rfl) rfl rfl (ks_F_24 hx) (kl_F_24 hx) ?_
    refine z_cV (c := 0) (as := [(0, g1 24 4)]) (d' := 1) (st := []) d_F_jump_39 mi_F_give ml_F_176 mv_F_give se_F_give rfl rfl rfl rfl (ks_F_0 hx) rfl rfl (kl_F_0 hx) rfl rfl (b_F_give_0 hx ?_)
    intro _
    show z_U X 5 m_F_jump 42 [(3, (0, r0)), (0, (2, 0)), (1, (0, a1)), (2, (0, a2))] [(0, g1 24 4)] N σ (z_up g1 0 0 0) Q
    exact z_iret d_F_jump_42 rfl (by decide) (by decide) ⟨rfl, rfl, h⟩
  · have h := h.2 c1
    refine z_aload_n (i := 0) (c := 0) 1 d_F_jump_11 rfl rfl rfl ?_
    refine z_iload_n (i := 3) 0 d_F_jump_12 rfl rfl ?_
    refine z_cV (c := 0) (as := [(0, r0)]) (d' := 1) (st := []) d_F_jump_13 mi_F_none ml_F_121 mv_F_none se_F_none rfl rfl rfl rfl (ks_F_0 hx) rfl rfl (kl_F_0 hx) rfl rfl (b_F_none_0 hx ?_)
    intro _
    show z_U X 5 m_F_jump 16 [(3, (0, r0)), (0, (2, 0)), (1, (0, a1)), (2, (0, a2))] [(0, (-1))] N σ (z_up g0 0 0 r0) Q
    exact z_iret d_F_jump_16 rfl (by decide) (by decide) ⟨rfl, rfl, h⟩
theorem d_F_middle_0 : decode (z_c m_F_middle) 0 = .ok (.aload_n 0, 1) := by decide +kernel
theorem d_F_middle_1 : decode (z_c m_F_middle) 1 = .ok (.aload_n 0, 1) := by decide +kernel
theorem d_F_middle_2 : decode (z_c m_F_middle) 2 = .ok (.getfield 67, 3) := by decide +kernel
theorem d_F_middle_5 : decode (z_c m_F_middle) 5 = .ok (.getfield 167, 3) := by decide +kernel
theorem d_F_middle_8 : decode (z_c m_F_middle) 8 = .ok (.invokevirtual 381, 3) := by decide +kernel
theorem d_F_middle_11 : decode (z_c m_F_middle) 11 = .ok (.invokevirtual 372, 3) := by decide +kernel
theorem d_F_middle_14 : decode (z_c m_F_middle) 14 = .ok (.ireturn, 1) := by decide +kernel
set_option maxRecDepth 8000 in
theorem b_F_middle_0 {X : z_X} {N : Nat} {σ g : z_G} {Q : z_P} (hx : z_lay X N σ 0 z_SF z_RF) (h : z_O X 4 m_Pi_halfWay [(2, 25)] N σ g (fun r0 g0 => (z_O X 3 m_F_tellPin [(2, 0), (0, r0)] N σ g0 (fun r1 g1 => (r1 = 0 ∨ r1 = 1) → Q r1 g1)))) : z_O X 5 m_F_middle [(2, 0)] N σ g Q := by
  refine z_Oenter mi_F_middle rfl (fun _ => ?_)
  show z_U X 5 m_F_middle 0 [(0, (2, 0))] [] N σ g Q
  refine z_aload_n (i := 0) (c := 0) 0 d_F_middle_0 rfl rfl rfl ?_
  refine z_aload_n (i := 0) (c := 0) 0 d_F_middle_1 rfl rfl rfl ?_
  refine z_getr (c := 0) (kI := 11) (r2 := 23) d_F_middle_2 fd_F_board fl_F_67 rfl rfl rfl (ks_F_0 hx) (kl_F_0 hx) (kr_F_0_11 hx) ?_
  refine z_getr (c := 23) (kI := 3) (r2 := 25) d_F_middle_5 fd_Bd_pins fl_F_167 rfl rfl rfl (ks_F_23 hx) (kl_F_23 hx) (kr_F_23_3 hx) ?_
  refine z_cV (c := 25) (as := []) (d' := 4) (st := [(2, 0)]) d_F_middle_8 mi_Pi_halfWay ml_F_381 mv_Pi_halfWay se_Pi_halfWay rfl rfl rfl rfl (ks_F_25 hx) rfl rfl (kl_F_25 hx) rfl rfl (z_Omono h (fun r0 g0 _ h hro => ?_))
  show z_U X 5 m_F_middle 11 [(0, (2, 0))] [(0, r0), (2, 0)] N σ g0 Q
  refine z_cV (c := 0) (as := [(0, r0)]) (d' := 3) (st := []) d_F_middle_11 mi_F_tellPin ml_F_372 mv_F_tellPin se_F_tellPin rfl rfl rfl rfl (ks_F_0 hx) rfl rfl (kl_F_0 hx) rfl rfl (z_Omono h (fun r1 g1 _ h hro => ?_))
  have h := h (z_b01 hro)
  have hzr1 := z_b01 hro
  show z_U X 5 m_F_middle 14 [(0, (2, 0))] [(0, r1)] N σ g1 Q
  exact z_zret d_F_middle_14 rfl (by decide) (by decide) hzr1 ⟨rfl, rfl, h⟩
theorem d_F_parent_0 : decode (z_c m_F_parent) 0 = .ok (.aload_n 0, 1) := by decide +kernel
theorem d_F_parent_1 : decode (z_c m_F_parent) 1 = .ok (.iload_n 1, 1) := by decide +kernel
theorem d_F_parent_2 : decode (z_c m_F_parent) 2 = .ok (.iload_n 2, 1) := by decide +kernel
theorem d_F_parent_3 : decode (z_c m_F_parent) 3 = .ok (.invokevirtual 294, 3) := by decide +kernel
theorem d_F_parent_6 : decode (z_c m_F_parent) 6 = .ok (.istore_n 3, 1) := by decide +kernel
theorem d_F_parent_7 : decode (z_c m_F_parent) 7 = .ok (.iload_n 3, 1) := by decide +kernel
theorem d_F_parent_8 : decode (z_c m_F_parent) 8 = .ok (.ifCond .eq 9, 3) := by decide +kernel
theorem d_F_parent_11 : decode (z_c m_F_parent) 11 = .ok (.aload_n 0, 1) := by decide +kernel
theorem d_F_parent_12 : decode (z_c m_F_parent) 12 = .ok (.iload_n 3, 1) := by decide +kernel
theorem d_F_parent_13 : decode (z_c m_F_parent) 13 = .ok (.invokevirtual 102, 3) := by decide +kernel
theorem d_F_parent_16 : decode (z_c m_F_parent) 16 = .ok (.ireturn, 1) := by decide +kernel
theorem d_F_parent_17 : decode (z_c m_F_parent) 17 = .ok (.aload_n 0, 1) := by decide +kernel
theorem d_F_parent_18 : decode (z_c m_F_parent) 18 = .ok (.getfield 60, 3) := by decide +kernel
theorem d_F_parent_21 : decode (z_c m_F_parent) 21 = .ok (.aload_n 0, 1) := by decide +kernel
theorem d_F_parent_22 : decode (z_c m_F_parent) 22 = .ok (.getfield 50, 3) := by decide +kernel
theorem d_F_parent_25 : decode (z_c m_F_parent) 25 = .ok (.invokevirtual 303, 3) := by decide +kernel
theorem d_F_parent_28 : decode (z_c m_F_parent) 28 = .ok (.aload_n 0, 1) := by decide +kernel
theorem d_F_parent_29 : decode (z_c m_F_parent) 29 = .ok (.getfield 60, 3) := by decide +kernel
theorem d_F_parent_32 : decode (z_c m_F_parent) 32 = .ok (.invokevirtual 307, 3) := by decide +kernel
theorem d_F_parent_35 : decode (z_c m_F_parent) 35 = .ok (.ifCond .eq 26, 3) := by decide +kernel
theorem d_F_parent_38 : decode (z_c m_F_parent) 38 = .ok (.aload_n 0, 1) := by decide +kernel
theorem d_F_parent_39 : decode (z_c m_F_parent) 39 = .ok (.aload_n 0, 1) := by decide +kernel
theorem d_F_parent_40 : decode (z_c m_F_parent) 40 = .ok (.getfield 60, 3) := by decide +kernel
theorem d_F_parent_43 : decode (z_c m_F_parent) 43 = .ok (.invokevirtual 282, 3) := by decide +kernel
theorem d_F_parent_46 : decode (z_c m_F_parent) 46 = .ok (.i2l, 1) := by decide +kernel
theorem d_F_parent_47 : decode (z_c m_F_parent) 47 = .ok (.aload_n 0, 1) := by decide +kernel
theorem d_F_parent_48 : decode (z_c m_F_parent) 48 = .ok (.getfield 60, 3) := by decide +kernel
theorem d_F_parent_51 : decode (z_c m_F_parent) 51 = .ok (.invokevirtual 285, 3) := by decide +kernel
theorem d_F_parent_54 : decode (z_c m_F_parent) 54 = .ok (.i2l, 1) := by decide +kernel
theorem d_F_parent_55 : decode (z_c m_F_parent) 55 = .ok (.invokevirtual 233, 3) := by decide +kernel
theorem d_F_parent_58 : decode (z_c m_F_parent) 58 = .ok (.goto 9, 3) := by decide +kernel
theorem d_F_parent_61 : decode (z_c m_F_parent) 61 = .ok (.aload_n 0, 1) := by decide +kernel
theorem d_F_parent_62 : decode (z_c m_F_parent) 62 = .ok (.bipush 6, 2) := by decide +kernel
theorem d_F_parent_64 : decode (z_c m_F_parent) 64 = .ok (.invokevirtual 102, 3) := by decide +kernel
theorem d_F_parent_67 : decode (z_c m_F_parent) 67 = .ok (.ireturn, 1) := by decide +kernel
set_option maxRecDepth 8000 in
theorem b_F_parent_0 {X : z_X} {N : Nat} {σ g : z_G} {Q : z_P} {a1 a2 : Int} (hx : z_lay X N σ 0 z_SF z_RF) (h : z_O X 4 m_F_whyNotOfTree [(2, 0), (0, a1), (0, a2)] N σ g (fun r0 g0 => (((r0 = 0) → (z_O X 2 m_Sp_standOn [(2, 22), (2, 18)] N σ g0 (fun r1 g1 => (z_O X 1 m_Sp_climb [(2, 22)] N σ g1 (fun r2 g2 => (r2 = 0 ∨ r2 = 1) → (((r2 = 0) → Q 0 (z_up g2 0 0 6)) ∧ (¬ (r2 = 0) → ((-2147483648 ≤ ((g2 22 0) + (g2 22 2)) ∧ ((g2 22 0) + (g2 22 2)) ≤ 2147483647) ∧ ((-2147483648 ≤ ((g2 22 1) + (g2 22 3)) ∧ ((g2 22 1) + (g2 22 3)) ≤ 2147483647) ∧ (z_O X 2 m_F_tell [(2, 0), (1, (g2 22 0) + (g2 22 2)), (1, (g2 22 1) + (g2 22 3))] N σ g2 (fun r3 g3 => (r3 = 0 ∨ r3 = 1) → Q r3 g3))))))))))) ∧ (¬ (r0 = 0) → Q 0 (z_up g0 0 0 r0))))) : z_O X 5 m_F_parent [(2, 0), (0, a1), (0, a2)] N σ g Q := by
  refine z_Oenter mi_F_parent rfl (fun _ => ?_)
  show z_U X 5 m_F_parent 0 [(0, (2, 0)), (1, (0, a1)), (2, (0, a2))] [] N σ g Q
  refine z_aload_n (i := 0) (c := 0) 0 d_F_parent_0 rfl rfl rfl ?_
  refine z_iload_n (i := 1) 1 d_F_parent_1 rfl rfl ?_
  refine z_iload_n (i := 2) 2 d_F_parent_2 rfl rfl ?_
  refine z_cV (c := 0) (as := [(0, a1), (0, a2)]) (d' := 4) (st := []) d_F_parent_3 mi_F_whyNotOfTree ml_F_294 mv_F_whyNotOfTree se_F_whyNotOfTree rfl rfl rfl rfl (ks_F_0 hx) rfl rfl (kl_F_0 hx) rfl rfl (z_Omono h (fun r0 g0 _ h hro => ?_))
  show z_U X 5 m_F_parent 6 [(0, (2, 0)), (1, (0, a1)), (2, (0, a2))] [(0, r0)] N σ g0 Q
  refine z_istore_n (i := 3) (ls' := [(3, (0, r0)), (0, (2, 0)), (1, (0, a1)), (2, (0, a2))]) d_F_parent_6 rfl rfl rfl ?_
  refine z_iload_n (i := 3) 0 d_F_parent_7 rfl rfl ?_
  refine z_if_eq (tgt := 17) d_F_parent_8 (by decide) (fun c1 => ?_) (fun c1 => ?_)
  · have h := h.1 c1
    refine z_aload_n (i := 0) (c := 0) 1 d_F_parent_17 rfl rfl rfl ?_
    refine z_getr (c := 0) (kI := 10) (r2 := 22) d_F_parent_18 fd_F_spot fl_F_60 rfl rfl rfl (ks_F_0 hx) (kl_F_0 hx) (kr_F_0_10 hx) ?_
    refine z_aload_n (i := 0) (c := 0) 1 d_F_parent_21 rfl rfl rfl ?_
    refine z_getr (c := 0) (kI := 8) (r2 := 18) d_F_parent_22 fd_F_chain fl_F_50 rfl rfl rfl (ks_F_0 hx) (kl_F_0 hx) (kr_F_0_8 hx) ?_
    refine z_cV (c := 22) (as := [(2, 18)]) (d' := 2) (st := []) d_F_parent_25 mi_Sp_standOn ml_F_303 mv_Sp_standOn se_Sp_standOn rfl rfl rfl rfl (ks_F_22 hx) rfl rfl (kl_F_22 hx) rfl rfl (z_Omono h (fun r1 g1 _ h hro => ?_))
    show z_U X 5 m_F_parent 28 [(3, (0, r0)), (0, (2, 0)), (1, (0, a1)), (2, (0, a2))] [] N σ g1 Q
    refine z_aload_n (i := 0) (c := 0) 1 d_F_parent_28 rfl rfl rfl ?_
    refine z_getr (c := 0) (kI := 10) (r2 := 22) d_F_parent_29 fd_F_spot fl_F_60 rfl rfl rfl (ks_F_0 hx) (kl_F_0 hx) (kr_F_0_10 hx) ?_
    refine z_cV (c := 22) (as := []) (d' := 1) (st := []) d_F_parent_32 mi_Sp_climb ml_F_307 mv_Sp_climb se_Sp_climb rfl rfl rfl rfl (ks_F_22 hx) rfl rfl (kl_F_22 hx) rfl rfl (z_Omono h (fun r2 g2 _ h hro => ?_))
    have h := h (z_b01 hro)
    have hzr2 := z_b01 hro
    show z_U X 5 m_F_parent 35 [(3, (0, r0)), (0, (2, 0)), (1, (0, a1)), (2, (0, a2))] [(0, r2)] N σ g2 Q
    refine z_if_eq (tgt := 61) d_F_parent_35 (by decide) (fun c2 => ?_) (fun c2 => ?_)
    · have h := h.1 c2
      refine z_aload_n (i := 0) (c := 0) 1 d_F_parent_61 rfl rfl rfl ?_
      refine z_bipush (n := 6) d_F_parent_62 (by decide) (by decide) ?_
      refine z_cV (c := 0) (as := [(0, 6)]) (d' := 1) (st := []) d_F_parent_64 mi_F_refuse ml_F_102 mv_F_refuse se_F_refuse rfl rfl rfl rfl (ks_F_0 hx) rfl rfl (kl_F_0 hx) rfl rfl (b_F_refuse_0 hx ?_)
      intro _
      show z_U X 5 m_F_parent 67 [(3, (0, r0)), (0, (2, 0)), (1, (0, a1)), (2, (0, a2))] [(0, 0)] N σ (z_up g2 0 0 6) Q
      exact z_zret d_F_parent_67 rfl (by decide) (by decide) (by decide) ⟨rfl, rfl, h⟩
    · have h := h.2 c2
      refine z_aload_n (i := 0) (c := 0) 1 d_F_parent_38 rfl rfl rfl ?_
      refine z_aload_n (i := 0) (c := 0) 1 d_F_parent_39 rfl rfl rfl ?_
      refine z_getr (c := 0) (kI := 10) (r2 := 22) d_F_parent_40 fd_F_spot fl_F_60 rfl rfl rfl (ks_F_0 hx) (kl_F_0 hx) (kr_F_0_10 hx) ?_
      refine z_cV (c := 22) (as := []) (d' := 1) (st := [(2, 0)]) d_F_parent_43 mi_Sp_ownTop ml_F_282 mv_Sp_ownTop se_Sp_ownTop rfl rfl rfl rfl (ks_F_22 hx) rfl rfl (kl_F_22 hx) rfl rfl (b_Sp_ownTop_0 (ky_F_22 hx) ?_)
      obtain ⟨c3, h⟩ := h
      refine ⟨c3, ?_⟩
      intro _
      show z_U X 5 m_F_parent 46 [(3, (0, r0)), (0, (2, 0)), (1, (0, a1)), (2, (0, a2))] [(0, (g2 22 0) + (g2 22 2)), (2, 0)] N σ g2 Q
      refine z_i2l d_F_parent_46 ?_
      refine z_aload_n (i := 0) (c := 0) 1 d_F_parent_47 rfl rfl rfl ?_
      refine z_getr (c := 0) (kI := 10) (r2 := 22) d_F_parent_48 fd_F_spot fl_F_60 rfl rfl rfl (ks_F_0 hx) (kl_F_0 hx) (kr_F_0_10 hx) ?_
      refine z_cV (c := 22) (as := []) (d' := 1) (st := [(1, (g2 22 0) + (g2 22 2)), (2, 0)]) d_F_parent_51 mi_Sp_ownBottom ml_F_285 mv_Sp_ownBottom se_Sp_ownBottom rfl rfl rfl rfl (ks_F_22 hx) rfl rfl (kl_F_22 hx) rfl rfl (b_Sp_ownBottom_0 (ky_F_22 hx) ?_)
      obtain ⟨c4, h⟩ := h
      refine ⟨c4, ?_⟩
      intro _
      show z_U X 5 m_F_parent 54 [(3, (0, r0)), (0, (2, 0)), (1, (0, a1)), (2, (0, a2))] [(0, (g2 22 1) + (g2 22 3)), (1, (g2 22 0) + (g2 22 2)), (2, 0)] N σ g2 Q
      refine z_i2l d_F_parent_54 ?_
      refine z_cV (c := 0) (as := [(1, (g2 22 0) + (g2 22 2)), (1, (g2 22 1) + (g2 22 3))]) (d' := 2) (st := []) d_F_parent_55 mi_F_tell ml_F_233 mv_F_tell se_F_tell rfl rfl rfl rfl (ks_F_0 hx) rfl rfl (kl_F_0 hx) rfl rfl (z_Omono h (fun r3 g3 _ h hro => ?_))
      have h := h (z_b01 hro)
      have hzr3 := z_b01 hro
      show z_U X 5 m_F_parent 58 [(3, (0, r0)), (0, (2, 0)), (1, (0, a1)), (2, (0, a2))] [(0, r3)] N σ g3 Q
      refine z_goto (tgt := 67) d_F_parent_58 (by decide) ?_
      exact z_zret d_F_parent_67 rfl (by decide) (by decide) hzr3 ⟨rfl, rfl, h⟩
  · have h := h.2 c1
    refine z_aload_n (i := 0) (c := 0) 1 d_F_parent_11 rfl rfl rfl ?_
    refine z_iload_n (i := 3) 0 d_F_parent_12 rfl rfl ?_
    refine z_cV (c := 0) (as := [(0, r0)]) (d' := 1) (st := []) d_F_parent_13 mi_F_refuse ml_F_102 mv_F_refuse se_F_refuse rfl rfl rfl rfl (ks_F_0 hx) rfl rfl (kl_F_0 hx) rfl rfl (b_F_refuse_0 hx ?_)
    intro _
    show z_U X 5 m_F_parent 16 [(3, (0, r0)), (0, (2, 0)), (1, (0, a1)), (2, (0, a2))] [(0, 0)] N σ (z_up g0 0 0 r0) Q
    exact z_zret d_F_parent_16 rfl (by decide) (by decide) (by decide) ⟨rfl, rfl, h⟩
theorem d_F_pour_0 : decode (z_c m_F_pour) 0 = .ok (.aload_n 0, 1) := by decide +kernel
theorem d_F_pour_1 : decode (z_c m_F_pour) 1 = .ok (.getfield 23, 3) := by decide +kernel
theorem d_F_pour_4 : decode (z_c m_F_pour) 4 = .ok (.iload_n 1, 1) := by decide +kernel
theorem d_F_pour_5 : decode (z_c m_F_pour) 5 = .ok (.invokevirtual 95, 3) := by decide +kernel
theorem d_F_pour_8 : decode (z_c m_F_pour) 8 = .ok (.ifCond .eq 28, 3) := by decide +kernel
theorem d_F_pour_11 : decode (z_c m_F_pour) 11 = .ok (.aload_n 0, 1) := by decide +kernel
theorem d_F_pour_12 : decode (z_c m_F_pour) 12 = .ok (.getfield 23, 3) := by decide +kernel
theorem d_F_pour_15 : decode (z_c m_F_pour) 15 = .ok (.iload_n 3, 1) := by decide +kernel
theorem d_F_pour_16 : decode (z_c m_F_pour) 16 = .ok (.invokevirtual 95, 3) := by decide +kernel
theorem d_F_pour_19 : decode (z_c m_F_pour) 19 = .ok (.ifCond .eq 17, 3) := by decide +kernel
theorem d_F_pour_22 : decode (z_c m_F_pour) 22 = .ok (.iload_n 2, 1) := by decide +kernel
theorem d_F_pour_23 : decode (z_c m_F_pour) 23 = .ok (.ifCond .lt 13, 3) := by decide +kernel
theorem d_F_pour_26 : decode (z_c m_F_pour) 26 = .ok (.iload 4, 2) := by decide +kernel
theorem d_F_pour_28 : decode (z_c m_F_pour) 28 = .ok (.ifCond .lt 8, 3) := by decide +kernel
theorem d_F_pour_31 : decode (z_c m_F_pour) 31 = .ok (.iload 5, 2) := by decide +kernel
theorem d_F_pour_33 : decode (z_c m_F_pour) 33 = .ok (.ifCond .ge 9, 3) := by decide +kernel
theorem d_F_pour_36 : decode (z_c m_F_pour) 36 = .ok (.aload_n 0, 1) := by decide +kernel
theorem d_F_pour_37 : decode (z_c m_F_pour) 37 = .ok (.iconst 1, 1) := by decide +kernel
theorem d_F_pour_38 : decode (z_c m_F_pour) 38 = .ok (.invokevirtual 102, 3) := by decide +kernel
theorem d_F_pour_41 : decode (z_c m_F_pour) 41 = .ok (.ireturn, 1) := by decide +kernel
theorem d_F_pour_42 : decode (z_c m_F_pour) 42 = .ok (.aload_n 0, 1) := by decide +kernel
theorem d_F_pour_43 : decode (z_c m_F_pour) 43 = .ok (.getfield 23, 3) := by decide +kernel
theorem d_F_pour_46 : decode (z_c m_F_pour) 46 = .ok (.iload_n 1, 1) := by decide +kernel
theorem d_F_pour_47 : decode (z_c m_F_pour) 47 = .ok (.invokevirtual 129, 3) := by decide +kernel
theorem d_F_pour_50 : decode (z_c m_F_pour) 50 = .ok (.ifCond .ne 14, 3) := by decide +kernel
theorem d_F_pour_53 : decode (z_c m_F_pour) 53 = .ok (.aload_n 0, 1) := by decide +kernel
theorem d_F_pour_54 : decode (z_c m_F_pour) 54 = .ok (.getfield 23, 3) := by decide +kernel
theorem d_F_pour_57 : decode (z_c m_F_pour) 57 = .ok (.iload_n 3, 1) := by decide +kernel
theorem d_F_pour_58 : decode (z_c m_F_pour) 58 = .ok (.invokevirtual 129, 3) := by decide +kernel
theorem d_F_pour_61 : decode (z_c m_F_pour) 61 = .ok (.ifCond .eq 9, 3) := by decide +kernel
theorem d_F_pour_64 : decode (z_c m_F_pour) 64 = .ok (.aload_n 0, 1) := by decide +kernel
theorem d_F_pour_65 : decode (z_c m_F_pour) 65 = .ok (.iconst 2, 1) := by decide +kernel
theorem d_F_pour_66 : decode (z_c m_F_pour) 66 = .ok (.invokevirtual 102, 3) := by decide +kernel
theorem d_F_pour_69 : decode (z_c m_F_pour) 69 = .ok (.ireturn, 1) := by decide +kernel
theorem d_F_pour_70 : decode (z_c m_F_pour) 70 = .ok (.aload_n 0, 1) := by decide +kernel
theorem d_F_pour_71 : decode (z_c m_F_pour) 71 = .ok (.getfield 23, 3) := by decide +kernel
theorem d_F_pour_74 : decode (z_c m_F_pour) 74 = .ok (.iload_n 1, 1) := by decide +kernel
theorem d_F_pour_75 : decode (z_c m_F_pour) 75 = .ok (.invokevirtual 132, 3) := by decide +kernel
theorem d_F_pour_78 : decode (z_c m_F_pour) 78 = .ok (.aload_n 0, 1) := by decide +kernel
theorem d_F_pour_79 : decode (z_c m_F_pour) 79 = .ok (.getfield 23, 3) := by decide +kernel
theorem d_F_pour_82 : decode (z_c m_F_pour) 82 = .ok (.iload_n 3, 1) := by decide +kernel
theorem d_F_pour_83 : decode (z_c m_F_pour) 83 = .ok (.invokevirtual 132, 3) := by decide +kernel
theorem d_F_pour_86 : decode (z_c m_F_pour) 86 = .ok (.if_icmp .eq 10, 3) := by decide +kernel
theorem d_F_pour_89 : decode (z_c m_F_pour) 89 = .ok (.aload_n 0, 1) := by decide +kernel
theorem d_F_pour_90 : decode (z_c m_F_pour) 90 = .ok (.bipush 8, 2) := by decide +kernel
theorem d_F_pour_92 : decode (z_c m_F_pour) 92 = .ok (.invokevirtual 102, 3) := by decide +kernel
theorem d_F_pour_95 : decode (z_c m_F_pour) 95 = .ok (.ireturn, 1) := by decide +kernel
theorem d_F_pour_96 : decode (z_c m_F_pour) 96 = .ok (.aload_n 0, 1) := by decide +kernel
theorem d_F_pour_97 : decode (z_c m_F_pour) 97 = .ok (.getfield 23, 3) := by decide +kernel
theorem d_F_pour_100 : decode (z_c m_F_pour) 100 = .ok (.iload_n 1, 1) := by decide +kernel
theorem d_F_pour_101 : decode (z_c m_F_pour) 101 = .ok (.iload_n 2, 1) := by decide +kernel
theorem d_F_pour_102 : decode (z_c m_F_pour) 102 = .ok (.iload 5, 2) := by decide +kernel
theorem d_F_pour_104 : decode (z_c m_F_pour) 104 = .ok (.invokevirtual 135, 3) := by decide +kernel
theorem d_F_pour_107 : decode (z_c m_F_pour) 107 = .ok (.ifCond .eq 18, 3) := by decide +kernel
theorem d_F_pour_110 : decode (z_c m_F_pour) 110 = .ok (.aload_n 0, 1) := by decide +kernel
theorem d_F_pour_111 : decode (z_c m_F_pour) 111 = .ok (.getfield 23, 3) := by decide +kernel
theorem d_F_pour_114 : decode (z_c m_F_pour) 114 = .ok (.iload_n 3, 1) := by decide +kernel
theorem d_F_pour_115 : decode (z_c m_F_pour) 115 = .ok (.iload 4, 2) := by decide +kernel
theorem d_F_pour_117 : decode (z_c m_F_pour) 117 = .ok (.iload 5, 2) := by decide +kernel
theorem d_F_pour_119 : decode (z_c m_F_pour) 119 = .ok (.invokevirtual 135, 3) := by decide +kernel
theorem d_F_pour_122 : decode (z_c m_F_pour) 122 = .ok (.ifCond .ne 9, 3) := by decide +kernel
theorem d_F_pour_125 : decode (z_c m_F_pour) 125 = .ok (.aload_n 0, 1) := by decide +kernel
theorem d_F_pour_126 : decode (z_c m_F_pour) 126 = .ok (.iconst 3, 1) := by decide +kernel
theorem d_F_pour_127 : decode (z_c m_F_pour) 127 = .ok (.invokevirtual 102, 3) := by decide +kernel
theorem d_F_pour_130 : decode (z_c m_F_pour) 130 = .ok (.ireturn, 1) := by decide +kernel
theorem d_F_pour_131 : decode (z_c m_F_pour) 131 = .ok (.aload_n 0, 1) := by decide +kernel
theorem d_F_pour_132 : decode (z_c m_F_pour) 132 = .ok (.getfield 23, 3) := by decide +kernel
theorem d_F_pour_135 : decode (z_c m_F_pour) 135 = .ok (.iload_n 1, 1) := by decide +kernel
theorem d_F_pour_136 : decode (z_c m_F_pour) 136 = .ok (.iload_n 2, 1) := by decide +kernel
theorem d_F_pour_137 : decode (z_c m_F_pour) 137 = .ok (.iload_n 3, 1) := by decide +kernel
theorem d_F_pour_138 : decode (z_c m_F_pour) 138 = .ok (.iload 4, 2) := by decide +kernel
theorem d_F_pour_140 : decode (z_c m_F_pour) 140 = .ok (.iload 5, 2) := by decide +kernel
theorem d_F_pour_142 : decode (z_c m_F_pour) 142 = .ok (.invokevirtual 139, 3) := by decide +kernel
theorem d_F_pour_145 : decode (z_c m_F_pour) 145 = .ok (.aload_n 0, 1) := by decide +kernel
theorem d_F_pour_146 : decode (z_c m_F_pour) 146 = .ok (.invokevirtual 109, 3) := by decide +kernel
theorem d_F_pour_149 : decode (z_c m_F_pour) 149 = .ok (.ireturn, 1) := by decide +kernel
set_option maxRecDepth 8000 in
theorem b_F_pour_0 {X : z_X} {N : Nat} {σ g : z_G} {Q : z_P} {a1 a2 a3 a4 a5 : Int} (hx : z_lay X N σ 0 z_SF z_RF) (h : ((a1 < 0) → Q 0 (z_up g 0 0 1)) ∧ (¬ (a1 < 0) → (((4 ≤ a1) → Q 0 (z_up g 0 0 1)) ∧ (¬ (4 ≤ a1) → (((a3 < 0) → Q 0 (z_up g 0 0 1)) ∧ (¬ (a3 < 0) → (((4 ≤ a3) → Q 0 (z_up g 0 0 1)) ∧ (¬ (4 ≤ a3) → (((a2 < 0) → Q 0 (z_up g 0 0 1)) ∧ (¬ (a2 < 0) → (((a4 < 0) → Q 0 (z_up g 0 0 1)) ∧ (¬ (a4 < 0) → (((0 ≤ a5) → ((0 ≤ a1 ∧ a1 < 4) ∧ ((((g 8 a1) = (-1)) → Q 0 (z_up g 0 0 2)) ∧ (¬ ((g 8 a1) = (-1)) → ((0 ≤ a3 ∧ a3 < 4) ∧ ((((g 8 a3) = (-1)) → Q 0 (z_up g 0 0 2)) ∧ (¬ ((g 8 a3) = (-1)) → ((((g 7 a1) = (g 7 a3)) → (z_O X 3 m_Tr_hasRoom [(2, 1), (0, a1), (0, a2), (0, a5)] N σ g (fun r0 g0 => (r0 = 0 ∨ r0 = 1) → (((r0 = 0) → Q 0 (z_up g0 0 0 3)) ∧ (¬ (r0 = 0) → (z_O X 3 m_Tr_hasRoom [(2, 1), (0, a3), (0, a4), (0, a5)] N σ g0 (fun r1 g1 => (r1 = 0 ∨ r1 = 1) → (((r1 = 0) → Q 0 (z_up g1 0 0 3)) ∧ (¬ (r1 = 0) → (z_O X 4 m_Tr_move [(2, 1), (0, a1), (0, a2), (0, a3), (0, a4), (0, a5)] N σ g1 (fun r2 g2 => Q 1 (z_up g2 0 0 0)))))))))))) ∧ (¬ ((g 7 a1) = (g 7 a3)) → Q 0 (z_up g 0 0 8)))))))))) ∧ (¬ (0 ≤ a5) → Q 0 (z_up g 0 0 1))))))))))))))) : z_O X 5 m_F_pour [(2, 0), (0, a1), (0, a2), (0, a3), (0, a4), (0, a5)] N σ g Q := by
  refine z_Oenter mi_F_pour rfl (fun _ => ?_)
  show z_U X 5 m_F_pour 0 [(0, (2, 0)), (1, (0, a1)), (2, (0, a2)), (3, (0, a3)), (4, (0, a4)), (5, (0, a5))] [] N σ g Q
  refine z_aload_n (i := 0) (c := 0) 0 d_F_pour_0 rfl rfl rfl ?_
  refine z_getr (c := 0) (kI := 3) (r2 := 1) d_F_pour_1 fd_F_trays fl_F_23 rfl rfl rfl (ks_F_0 hx) (kl_F_0 hx) (kr_F_0_3 hx) ?_
  refine z_iload_n (i := 1) 1 d_F_pour_4 rfl rfl ?_
  refine z_cV (c := 1) (as := [(0, a1)]) (d' := 1) (st := []) d_F_pour_5 mi_Tr_isTray ml_F_95 mv_Tr_isTray se_Tr_isTray rfl rfl rfl rfl (ks_F_1 hx) rfl rfl (kl_F_1 hx) rfl rfl (b_Tr_isTray_0 hx ?_)
  refine ⟨fun c1 => ?_, fun c1 => ?_⟩
  · have h := h.1 c1
    intro _
    show z_U X 5 m_F_pour 8 [(0, (2, 0)), (1, (0, a1)), (2, (0, a2)), (3, (0, a3)), (4, (0, a4)), (5, (0, a5))] [(0, 0)] N σ g Q
    refine z_if_eq (tgt := 36) d_F_pour_8 (by decide) (fun _ => ?_) (fun c => absurd (by decide) c)
    refine z_aload_n (i := 0) (c := 0) 0 d_F_pour_36 rfl rfl rfl ?_
    refine z_iconst (n := 1) d_F_pour_37 (by decide) ?_
    refine z_cV (c := 0) (as := [(0, 1)]) (d' := 1) (st := []) d_F_pour_38 mi_F_refuse ml_F_102 mv_F_refuse se_F_refuse rfl rfl rfl rfl (ks_F_0 hx) rfl rfl (kl_F_0 hx) rfl rfl (b_F_refuse_0 hx ?_)
    intro _
    show z_U X 5 m_F_pour 41 [(0, (2, 0)), (1, (0, a1)), (2, (0, a2)), (3, (0, a3)), (4, (0, a4)), (5, (0, a5))] [(0, 0)] N σ (z_up g 0 0 1) Q
    exact z_zret d_F_pour_41 rfl (by decide) (by decide) (by decide) ⟨rfl, rfl, h⟩
  · have h := h.2 c1
    refine ⟨fun c2 => ?_, fun c2 => ?_⟩
    · have h := h.1 c2
      intro _
      show z_U X 5 m_F_pour 8 [(0, (2, 0)), (1, (0, a1)), (2, (0, a2)), (3, (0, a3)), (4, (0, a4)), (5, (0, a5))] [(0, 0)] N σ g Q
      refine z_if_eq (tgt := 36) d_F_pour_8 (by decide) (fun _ => ?_) (fun c => absurd (by decide) c)
      refine z_aload_n (i := 0) (c := 0) 0 d_F_pour_36 rfl rfl rfl ?_
      refine z_iconst (n := 1) d_F_pour_37 (by decide) ?_
      refine z_cV (c := 0) (as := [(0, 1)]) (d' := 1) (st := []) d_F_pour_38 mi_F_refuse ml_F_102 mv_F_refuse se_F_refuse rfl rfl rfl rfl (ks_F_0 hx) rfl rfl (kl_F_0 hx) rfl rfl (b_F_refuse_0 hx ?_)
      intro _
      show z_U X 5 m_F_pour 41 [(0, (2, 0)), (1, (0, a1)), (2, (0, a2)), (3, (0, a3)), (4, (0, a4)), (5, (0, a5))] [(0, 0)] N σ (z_up g 0 0 1) Q
      exact z_zret d_F_pour_41 rfl (by decide) (by decide) (by decide) ⟨rfl, rfl, h⟩
    · have h := h.2 c2
      intro _
      show z_U X 5 m_F_pour 8 [(0, (2, 0)), (1, (0, a1)), (2, (0, a2)), (3, (0, a3)), (4, (0, a4)), (5, (0, a5))] [(0, 1)] N σ g Q
      refine z_if_eq (tgt := 36) d_F_pour_8 (by decide) (fun c => absurd c (by decide)) (fun _ => ?_)
      refine z_aload_n (i := 0) (c := 0) 0 d_F_pour_11 rfl rfl rfl ?_
      refine z_getr (c := 0) (kI := 3) (r2 := 1) d_F_pour_12 fd_F_trays fl_F_23 rfl rfl rfl (ks_F_0 hx) (kl_F_0 hx) (kr_F_0_3 hx) ?_
      refine z_iload_n (i := 3) 3 d_F_pour_15 rfl rfl ?_
      refine z_cV (c := 1) (as := [(0, a3)]) (d' := 1) (st := []) d_F_pour_16 mi_Tr_isTray ml_F_95 mv_Tr_isTray se_Tr_isTray rfl rfl rfl rfl (ks_F_1 hx) rfl rfl (kl_F_1 hx) rfl rfl (b_Tr_isTray_0 hx ?_)
      refine ⟨fun c3 => ?_, fun c3 => ?_⟩
      · have h := h.1 c3
        intro _
        show z_U X 5 m_F_pour 19 [(0, (2, 0)), (1, (0, a1)), (2, (0, a2)), (3, (0, a3)), (4, (0, a4)), (5, (0, a5))] [(0, 0)] N σ g Q
        refine z_if_eq (tgt := 36) d_F_pour_19 (by decide) (fun _ => ?_) (fun c => absurd (by decide) c)
        refine z_aload_n (i := 0) (c := 0) 0 d_F_pour_36 rfl rfl rfl ?_
        refine z_iconst (n := 1) d_F_pour_37 (by decide) ?_
        refine z_cV (c := 0) (as := [(0, 1)]) (d' := 1) (st := []) d_F_pour_38 mi_F_refuse ml_F_102 mv_F_refuse se_F_refuse rfl rfl rfl rfl (ks_F_0 hx) rfl rfl (kl_F_0 hx) rfl rfl (b_F_refuse_0 hx ?_)
        intro _
        show z_U X 5 m_F_pour 41 [(0, (2, 0)), (1, (0, a1)), (2, (0, a2)), (3, (0, a3)), (4, (0, a4)), (5, (0, a5))] [(0, 0)] N σ (z_up g 0 0 1) Q
        exact z_zret d_F_pour_41 rfl (by decide) (by decide) (by decide) ⟨rfl, rfl, h⟩
      · have h := h.2 c3
        refine ⟨fun c4 => ?_, fun c4 => ?_⟩
        · have h := h.1 c4
          intro _
          show z_U X 5 m_F_pour 19 [(0, (2, 0)), (1, (0, a1)), (2, (0, a2)), (3, (0, a3)), (4, (0, a4)), (5, (0, a5))] [(0, 0)] N σ g Q
          refine z_if_eq (tgt := 36) d_F_pour_19 (by decide) (fun _ => ?_) (fun c => absurd (by decide) c)
          refine z_aload_n (i := 0) (c := 0) 0 d_F_pour_36 rfl rfl rfl ?_
          refine z_iconst (n := 1) d_F_pour_37 (by decide) ?_
          refine z_cV (c := 0) (as := [(0, 1)]) (d' := 1) (st := []) d_F_pour_38 mi_F_refuse ml_F_102 mv_F_refuse se_F_refuse rfl rfl rfl rfl (ks_F_0 hx) rfl rfl (kl_F_0 hx) rfl rfl (b_F_refuse_0 hx ?_)
          intro _
          show z_U X 5 m_F_pour 41 [(0, (2, 0)), (1, (0, a1)), (2, (0, a2)), (3, (0, a3)), (4, (0, a4)), (5, (0, a5))] [(0, 0)] N σ (z_up g 0 0 1) Q
          exact z_zret d_F_pour_41 rfl (by decide) (by decide) (by decide) ⟨rfl, rfl, h⟩
        · have h := h.2 c4
          intro _
          show z_U X 5 m_F_pour 19 [(0, (2, 0)), (1, (0, a1)), (2, (0, a2)), (3, (0, a3)), (4, (0, a4)), (5, (0, a5))] [(0, 1)] N σ g Q
          refine z_if_eq (tgt := 36) d_F_pour_19 (by decide) (fun c => absurd c (by decide)) (fun _ => ?_)
          refine z_iload_n (i := 2) 2 d_F_pour_22 rfl rfl ?_
          refine z_if_lt (tgt := 36) d_F_pour_23 (by decide) (fun c5 => ?_) (fun c5 => ?_)
          · have h := h.1 c5
            refine z_aload_n (i := 0) (c := 0) 0 d_F_pour_36 rfl rfl rfl ?_
            refine z_iconst (n := 1) d_F_pour_37 (by decide) ?_
            refine z_cV (c := 0) (as := [(0, 1)]) (d' := 1) (st := []) d_F_pour_38 mi_F_refuse ml_F_102 mv_F_refuse se_F_refuse rfl rfl rfl rfl (ks_F_0 hx) rfl rfl (kl_F_0 hx) rfl rfl (b_F_refuse_0 hx ?_)
            intro _
            show z_U X 5 m_F_pour 41 [(0, (2, 0)), (1, (0, a1)), (2, (0, a2)), (3, (0, a3)), (4, (0, a4)), (5, (0, a5))] [(0, 0)] N σ (z_up g 0 0 1) Q
            exact z_zret d_F_pour_41 rfl (by decide) (by decide) (by decide) ⟨rfl, rfl, h⟩
          · have h := h.2 c5
            refine z_iload 4 d_F_pour_26 rfl ?_
            refine z_if_lt (tgt := 36) d_F_pour_28 (by decide) (fun c6 => ?_) (fun c6 => ?_)
            · have h := h.1 c6
              refine z_aload_n (i := 0) (c := 0) 0 d_F_pour_36 rfl rfl rfl ?_
              refine z_iconst (n := 1) d_F_pour_37 (by decide) ?_
              refine z_cV (c := 0) (as := [(0, 1)]) (d' := 1) (st := []) d_F_pour_38 mi_F_refuse ml_F_102 mv_F_refuse se_F_refuse rfl rfl rfl rfl (ks_F_0 hx) rfl rfl (kl_F_0 hx) rfl rfl (b_F_refuse_0 hx ?_)
              intro _
              show z_U X 5 m_F_pour 41 [(0, (2, 0)), (1, (0, a1)), (2, (0, a2)), (3, (0, a3)), (4, (0, a4)), (5, (0, a5))] [(0, 0)] N σ (z_up g 0 0 1) Q
              exact z_zret d_F_pour_41 rfl (by decide) (by decide) (by decide) ⟨rfl, rfl, h⟩
            · have h := h.2 c6
              refine z_iload 5 d_F_pour_31 rfl ?_
              refine z_if_ge (tgt := 42) d_F_pour_33 (by decide) (fun c7 => ?_) (fun c7 => ?_)
              · have h := h.1 c7
                refine z_aload_n (i := 0) (c := 0) 0 d_F_pour_42 rfl rfl rfl ?_
                refine z_getr (c := 0) (kI := 3) (r2 := 1) d_F_pour_43 fd_F_trays fl_F_23 rfl rfl rfl (ks_F_0 hx) (kl_F_0 hx) (kr_F_0_3 hx) ?_
                refine z_iload_n (i := 1) 1 d_F_pour_46 rfl rfl ?_
                refine z_cV (c := 1) (as := [(0, a1)]) (d' := 2) (st := []) d_F_pour_47 mi_Tr_isMissing ml_F_129 mv_Tr_isMissing se_Tr_isMissing rfl rfl rfl rfl (ks_F_1 hx) rfl rfl (kl_F_1 hx) rfl rfl (b_Tr_isMissing_0 hx ?_)
                refine ⟨fun c => absurd c c1, fun _ => ?_⟩
                refine ⟨fun c => absurd c c2, fun _ => ?_⟩
                obtain ⟨c8, h⟩ := h
                refine ⟨c8, ?_⟩
                refine ⟨fun c9 => ?_, fun c9 => ?_⟩
                · have h := h.1 c9
                  intro _
                  show z_U X 5 m_F_pour 50 [(0, (2, 0)), (1, (0, a1)), (2, (0, a2)), (3, (0, a3)), (4, (0, a4)), (5, (0, a5))] [(0, 1)] N σ g Q
                  refine z_if_ne (tgt := 64) d_F_pour_50 (by decide) (fun _ => ?_) (fun c => absurd c (by decide))
                  refine z_aload_n (i := 0) (c := 0) 0 d_F_pour_64 rfl rfl rfl ?_
                  refine z_iconst (n := 2) d_F_pour_65 (by decide) ?_
                  refine z_cV (c := 0) (as := [(0, 2)]) (d' := 1) (st := []) d_F_pour_66 mi_F_refuse ml_F_102 mv_F_refuse se_F_refuse rfl rfl rfl rfl (ks_F_0 hx) rfl rfl (kl_F_0 hx) rfl rfl (b_F_refuse_0 hx ?_)
                  intro _
                  show z_U X 5 m_F_pour 69 [(0, (2, 0)), (1, (0, a1)), (2, (0, a2)), (3, (0, a3)), (4, (0, a4)), (5, (0, a5))] [(0, 0)] N σ (z_up g 0 0 2) Q
                  exact z_zret d_F_pour_69 rfl (by decide) (by decide) (by decide) ⟨rfl, rfl, h⟩
                · have h := h.2 c9
                  intro _
                  show z_U X 5 m_F_pour 50 [(0, (2, 0)), (1, (0, a1)), (2, (0, a2)), (3, (0, a3)), (4, (0, a4)), (5, (0, a5))] [(0, 0)] N σ g Q
                  refine z_if_ne (tgt := 64) d_F_pour_50 (by decide) (fun c => absurd (by decide) c) (fun _ => ?_)
                  refine z_aload_n (i := 0) (c := 0) 0 d_F_pour_53 rfl rfl rfl ?_
                  refine z_getr (c := 0) (kI := 3) (r2 := 1) d_F_pour_54 fd_F_trays fl_F_23 rfl rfl rfl (ks_F_0 hx) (kl_F_0 hx) (kr_F_0_3 hx) ?_
                  refine z_iload_n (i := 3) 3 d_F_pour_57 rfl rfl ?_
                  refine z_cV (c := 1) (as := [(0, a3)]) (d' := 2) (st := []) d_F_pour_58 mi_Tr_isMissing ml_F_129 mv_Tr_isMissing se_Tr_isMissing rfl rfl rfl rfl (ks_F_1 hx) rfl rfl (kl_F_1 hx) rfl rfl (b_Tr_isMissing_0 hx ?_)
                  refine ⟨fun c => absurd c c3, fun _ => ?_⟩
                  refine ⟨fun c => absurd c c4, fun _ => ?_⟩
                  obtain ⟨c10, h⟩ := h
                  refine ⟨c10, ?_⟩
                  refine ⟨fun c11 => ?_, fun c11 => ?_⟩
                  · have h := h.1 c11
                    intro _
                    show z_U X 5 m_F_pour 61 [(0, (2, 0)), (1, (0, a1)), (2, (0, a2)), (3, (0, a3)), (4, (0, a4)), (5, (0, a5))] [(0, 1)] N σ g Q
                    refine z_if_eq (tgt := 70) d_F_pour_61 (by decide) (fun c => absurd c (by decide)) (fun _ => ?_)
                    refine z_aload_n (i := 0) (c := 0) 0 d_F_pour_64 rfl rfl rfl ?_
                    refine z_iconst (n := 2) d_F_pour_65 (by decide) ?_
                    refine z_cV (c := 0) (as := [(0, 2)]) (d' := 1) (st := []) d_F_pour_66 mi_F_refuse ml_F_102 mv_F_refuse se_F_refuse rfl rfl rfl rfl (ks_F_0 hx) rfl rfl (kl_F_0 hx) rfl rfl (b_F_refuse_0 hx ?_)
                    intro _
                    show z_U X 5 m_F_pour 69 [(0, (2, 0)), (1, (0, a1)), (2, (0, a2)), (3, (0, a3)), (4, (0, a4)), (5, (0, a5))] [(0, 0)] N σ (z_up g 0 0 2) Q
                    exact z_zret d_F_pour_69 rfl (by decide) (by decide) (by decide) ⟨rfl, rfl, h⟩
                  · have h := h.2 c11
                    intro _
                    show z_U X 5 m_F_pour 61 [(0, (2, 0)), (1, (0, a1)), (2, (0, a2)), (3, (0, a3)), (4, (0, a4)), (5, (0, a5))] [(0, 0)] N σ g Q
                    refine z_if_eq (tgt := 70) d_F_pour_61 (by decide) (fun _ => ?_) (fun c => absurd (by decide) c)
                    refine z_aload_n (i := 0) (c := 0) 0 d_F_pour_70 rfl rfl rfl ?_
                    refine z_getr (c := 0) (kI := 3) (r2 := 1) d_F_pour_71 fd_F_trays fl_F_23 rfl rfl rfl (ks_F_0 hx) (kl_F_0 hx) (kr_F_0_3 hx) ?_
                    refine z_iload_n (i := 1) 1 d_F_pour_74 rfl rfl ?_
                    refine z_cV (c := 1) (as := [(0, a1)]) (d' := 2) (st := []) d_F_pour_75 mi_Tr_sortOf ml_F_132 mv_Tr_sortOf se_Tr_sortOf rfl rfl rfl rfl (ks_F_1 hx) rfl rfl (kl_F_1 hx) rfl rfl (b_Tr_sortOf_0 hx ?_)
                    refine ⟨fun c => absurd c c1, fun _ => ?_⟩
                    refine ⟨fun c => absurd c c2, fun _ => ?_⟩
                    refine ⟨c8, ?_⟩
                    intro _
                    show z_U X 5 m_F_pour 78 [(0, (2, 0)), (1, (0, a1)), (2, (0, a2)), (3, (0, a3)), (4, (0, a4)), (5, (0, a5))] [(0, g 7 a1)] N σ g Q
                    refine z_aload_n (i := 0) (c := 0) 0 d_F_pour_78 rfl rfl rfl ?_
                    refine z_getr (c := 0) (kI := 3) (r2 := 1) d_F_pour_79 fd_F_trays fl_F_23 rfl rfl rfl (ks_F_0 hx) (kl_F_0 hx) (kr_F_0_3 hx) ?_
                    refine z_iload_n (i := 3) 3 d_F_pour_82 rfl rfl ?_
                    refine z_cV (c := 1) (as := [(0, a3)]) (d' := 2) (st := [(0, g 7 a1)]) d_F_pour_83 mi_Tr_sortOf ml_F_132 mv_Tr_sortOf se_Tr_sortOf rfl rfl rfl rfl (ks_F_1 hx) rfl rfl (kl_F_1 hx) rfl rfl (b_Tr_sortOf_0 hx ?_)
                    refine ⟨fun c => absurd c c3, fun _ => ?_⟩
                    refine ⟨fun c => absurd c c4, fun _ => ?_⟩
                    refine ⟨c10, ?_⟩
                    intro _
                    show z_U X 5 m_F_pour 86 [(0, (2, 0)), (1, (0, a1)), (2, (0, a2)), (3, (0, a3)), (4, (0, a4)), (5, (0, a5))] [(0, g 7 a3), (0, g 7 a1)] N σ g Q
                    refine z_icmp_eq (tgt := 96) d_F_pour_86 (by decide) (fun c12 => ?_) (fun c12 => ?_)
                    · have h := h.1 c12
                      refine z_aload_n (i := 0) (c := 0) 0 d_F_pour_96 rfl rfl rfl ?_
                      refine z_getr (c := 0) (kI := 3) (r2 := 1) d_F_pour_97 fd_F_trays fl_F_23 rfl rfl rfl (ks_F_0 hx) (kl_F_0 hx) (kr_F_0_3 hx) ?_
                      refine z_iload_n (i := 1) 1 d_F_pour_100 rfl rfl ?_
                      refine z_iload_n (i := 2) 2 d_F_pour_101 rfl rfl ?_
                      refine z_iload 5 d_F_pour_102 rfl ?_
                      refine z_cV (c := 1) (as := [(0, a1), (0, a2), (0, a5)]) (d' := 3) (st := []) d_F_pour_104 mi_Tr_hasRoom ml_F_135 mv_Tr_hasRoom se_Tr_hasRoom rfl rfl rfl rfl (ks_F_1 hx) rfl rfl (kl_F_1 hx) rfl rfl (z_Omono h (fun r0 g0 _ h hro => ?_))
                      have h := h (z_b01 hro)
                      have hzr0 := z_b01 hro
                      show z_U X 5 m_F_pour 107 [(0, (2, 0)), (1, (0, a1)), (2, (0, a2)), (3, (0, a3)), (4, (0, a4)), (5, (0, a5))] [(0, r0)] N σ g0 Q
                      refine z_if_eq (tgt := 125) d_F_pour_107 (by decide) (fun c13 => ?_) (fun c13 => ?_)
                      · have h := h.1 c13
                        refine z_aload_n (i := 0) (c := 0) 0 d_F_pour_125 rfl rfl rfl ?_
                        refine z_iconst (n := 3) d_F_pour_126 (by decide) ?_
                        refine z_cV (c := 0) (as := [(0, 3)]) (d' := 1) (st := []) d_F_pour_127 mi_F_refuse ml_F_102 mv_F_refuse se_F_refuse rfl rfl rfl rfl (ks_F_0 hx) rfl rfl (kl_F_0 hx) rfl rfl (b_F_refuse_0 hx ?_)
                        intro _
                        show z_U X 5 m_F_pour 130 [(0, (2, 0)), (1, (0, a1)), (2, (0, a2)), (3, (0, a3)), (4, (0, a4)), (5, (0, a5))] [(0, 0)] N σ (z_up g0 0 0 3) Q
                        exact z_zret d_F_pour_130 rfl (by decide) (by decide) (by decide) ⟨rfl, rfl, h⟩
                      · have h := h.2 c13
                        refine z_aload_n (i := 0) (c := 0) 0 d_F_pour_110 rfl rfl rfl ?_
                        refine z_getr (c := 0) (kI := 3) (r2 := 1) d_F_pour_111 fd_F_trays fl_F_23 rfl rfl rfl (ks_F_0 hx) (kl_F_0 hx) (kr_F_0_3 hx) ?_
                        refine z_iload_n (i := 3) 3 d_F_pour_114 rfl rfl ?_
                        refine z_iload 4 d_F_pour_115 rfl ?_
                        refine z_iload 5 d_F_pour_117 rfl ?_
                        refine z_cV (c := 1) (as := [(0, a3), (0, a4), (0, a5)]) (d' := 3) (st := []) d_F_pour_119 mi_Tr_hasRoom ml_F_135 mv_Tr_hasRoom se_Tr_hasRoom rfl rfl rfl rfl (ks_F_1 hx) rfl rfl (kl_F_1 hx) rfl rfl (z_Omono h (fun r1 g1 _ h hro => ?_))
                        have h := h (z_b01 hro)
                        have hzr1 := z_b01 hro
                        show z_U X 5 m_F_pour 122 [(0, (2, 0)), (1, (0, a1)), (2, (0, a2)), (3, (0, a3)), (4, (0, a4)), (5, (0, a5))] [(0, r1)] N σ g1 Q
                        refine z_if_ne (tgt := 131) d_F_pour_122 (by decide) (fun c14 => ?_) (fun c14 => ?_)
                        · have h := h.2 c14
                          refine z_aload_n (i := 0) (c := 0) 0 d_F_pour_131 rfl rfl rfl ?_
                          refine z_getr (c := 0) (kI := 3) (r2 := 1) d_F_pour_132 fd_F_trays fl_F_23 rfl rfl rfl (ks_F_0 hx) (kl_F_0 hx) (kr_F_0_3 hx) ?_
                          refine z_iload_n (i := 1) 1 d_F_pour_135 rfl rfl ?_
                          refine z_iload_n (i := 2) 2 d_F_pour_136 rfl rfl ?_
                          refine z_iload_n (i := 3) 3 d_F_pour_137 rfl rfl ?_
                          refine z_iload 4 d_F_pour_138 rfl ?_
                          refine z_iload 5 d_F_pour_140 rfl ?_
                          refine z_cV (c := 1) (as := [(0, a1), (0, a2), (0, a3), (0, a4), (0, a5)]) (d' := 4) (st := []) d_F_pour_142 mi_Tr_move ml_F_139 mv_Tr_move se_Tr_move rfl rfl rfl rfl (ks_F_1 hx) rfl rfl (kl_F_1 hx) rfl rfl (z_Omono h (fun r2 g2 _ h hro => ?_))
                          show z_U X 5 m_F_pour 145 [(0, (2, 0)), (1, (0, a1)), (2, (0, a2)), (3, (0, a3)), (4, (0, a4)), (5, (0, a5))] [] N σ g2 Q
                          refine z_aload_n (i := 0) (c := 0) 0 d_F_pour_145 rfl rfl rfl ?_
                          refine z_cV (c := 0) (as := []) (d' := 1) (st := []) d_F_pour_146 mi_F_accept ml_F_109 mv_F_accept se_F_accept rfl rfl rfl rfl (ks_F_0 hx) rfl rfl (kl_F_0 hx) rfl rfl (b_F_accept_0 hx ?_)
                          intro _
                          show z_U X 5 m_F_pour 149 [(0, (2, 0)), (1, (0, a1)), (2, (0, a2)), (3, (0, a3)), (4, (0, a4)), (5, (0, a5))] [(0, 1)] N σ (z_up g2 0 0 0) Q
                          exact z_zret d_F_pour_149 rfl (by decide) (by decide) (by decide) ⟨rfl, rfl, h⟩
                        · have h := h.1 c14
                          refine z_aload_n (i := 0) (c := 0) 0 d_F_pour_125 rfl rfl rfl ?_
                          refine z_iconst (n := 3) d_F_pour_126 (by decide) ?_
                          refine z_cV (c := 0) (as := [(0, 3)]) (d' := 1) (st := []) d_F_pour_127 mi_F_refuse ml_F_102 mv_F_refuse se_F_refuse rfl rfl rfl rfl (ks_F_0 hx) rfl rfl (kl_F_0 hx) rfl rfl (b_F_refuse_0 hx ?_)
                          intro _
                          show z_U X 5 m_F_pour 130 [(0, (2, 0)), (1, (0, a1)), (2, (0, a2)), (3, (0, a3)), (4, (0, a4)), (5, (0, a5))] [(0, 0)] N σ (z_up g1 0 0 3) Q
                          exact z_zret d_F_pour_130 rfl (by decide) (by decide) (by decide) ⟨rfl, rfl, h⟩
                    · have h := h.2 c12
                      refine z_aload_n (i := 0) (c := 0) 0 d_F_pour_89 rfl rfl rfl ?_
                      refine z_bipush (n := 8) d_F_pour_90 (by decide) (by decide) ?_
                      refine z_cV (c := 0) (as := [(0, 8)]) (d' := 1) (st := []) d_F_pour_92 mi_F_refuse ml_F_102 mv_F_refuse se_F_refuse rfl rfl rfl rfl (ks_F_0 hx) rfl rfl (kl_F_0 hx) rfl rfl (b_F_refuse_0 hx ?_)
                      intro _
                      show z_U X 5 m_F_pour 95 [(0, (2, 0)), (1, (0, a1)), (2, (0, a2)), (3, (0, a3)), (4, (0, a4)), (5, (0, a5))] [(0, 0)] N σ (z_up g 0 0 8) Q
                      exact z_zret d_F_pour_95 rfl (by decide) (by decide) (by decide) ⟨rfl, rfl, h⟩
              · have h := h.2 c7
                refine z_aload_n (i := 0) (c := 0) 0 d_F_pour_36 rfl rfl rfl ?_
                refine z_iconst (n := 1) d_F_pour_37 (by decide) ?_
                refine z_cV (c := 0) (as := [(0, 1)]) (d' := 1) (st := []) d_F_pour_38 mi_F_refuse ml_F_102 mv_F_refuse se_F_refuse rfl rfl rfl rfl (ks_F_0 hx) rfl rfl (kl_F_0 hx) rfl rfl (b_F_refuse_0 hx ?_)
                intro _
                show z_U X 5 m_F_pour 41 [(0, (2, 0)), (1, (0, a1)), (2, (0, a2)), (3, (0, a3)), (4, (0, a4)), (5, (0, a5))] [(0, 0)] N σ (z_up g 0 0 1) Q
                exact z_zret d_F_pour_41 rfl (by decide) (by decide) (by decide) ⟨rfl, rfl, h⟩
theorem d_F_read_0 : decode (z_c m_F_read) 0 = .ok (.aload_n 0, 1) := by decide +kernel
theorem d_F_read_1 : decode (z_c m_F_read) 1 = .ok (.iload_n 1, 1) := by decide +kernel
theorem d_F_read_2 : decode (z_c m_F_read) 2 = .ok (.iload_n 2, 1) := by decide +kernel
theorem d_F_read_3 : decode (z_c m_F_read) 3 = .ok (.invokevirtual 113, 3) := by decide +kernel
theorem d_F_read_6 : decode (z_c m_F_read) 6 = .ok (.istore_n 3, 1) := by decide +kernel
theorem d_F_read_7 : decode (z_c m_F_read) 7 = .ok (.iload_n 3, 1) := by decide +kernel
theorem d_F_read_8 : decode (z_c m_F_read) 8 = .ok (.ifCond .eq 10, 3) := by decide +kernel
theorem d_F_read_11 : decode (z_c m_F_read) 11 = .ok (.aload_n 0, 1) := by decide +kernel
theorem d_F_read_12 : decode (z_c m_F_read) 12 = .ok (.iload_n 3, 1) := by decide +kernel
theorem d_F_read_13 : decode (z_c m_F_read) 13 = .ok (.invokevirtual 121, 3) := by decide +kernel
theorem d_F_read_16 : decode (z_c m_F_read) 16 = .ok (.i2l, 1) := by decide +kernel
theorem d_F_read_17 : decode (z_c m_F_read) 17 = .ok (.lreturn, 1) := by decide +kernel
theorem d_F_read_18 : decode (z_c m_F_read) 18 = .ok (.aload_n 0, 1) := by decide +kernel
theorem d_F_read_19 : decode (z_c m_F_read) 19 = .ok (.iconst 0, 1) := by decide +kernel
theorem d_F_read_20 : decode (z_c m_F_read) 20 = .ok (.putfield 7, 3) := by decide +kernel
theorem d_F_read_23 : decode (z_c m_F_read) 23 = .ok (.aload_n 0, 1) := by decide +kernel
theorem d_F_read_24 : decode (z_c m_F_read) 24 = .ok (.getfield 23, 3) := by decide +kernel
theorem d_F_read_27 : decode (z_c m_F_read) 27 = .ok (.iload_n 1, 1) := by decide +kernel
theorem d_F_read_28 : decode (z_c m_F_read) 28 = .ok (.iload_n 2, 1) := by decide +kernel
theorem d_F_read_29 : decode (z_c m_F_read) 29 = .ok (.invokevirtual 125, 3) := by decide +kernel
theorem d_F_read_32 : decode (z_c m_F_read) 32 = .ok (.lreturn, 1) := by decide +kernel
set_option maxRecDepth 8000 in
theorem b_F_read_0 {X : z_X} {N : Nat} {σ g : z_G} {Q : z_P} {a1 a2 : Int} (hx : z_lay X N σ 0 z_SF z_RF) (h : z_O X 4 m_F_whyNoPlace [(2, 0), (0, a1), (0, a2)] N σ g (fun r0 g0 => (((r0 = 0) → (z_O X 4 m_Tr_look [(2, 1), (0, a1), (0, a2)] N σ (z_up g0 0 0 0) (fun r1 g1 => Q r1 g1))) ∧ (¬ (r0 = 0) → Q (-1) (z_up g0 0 0 r0))))) : z_O X 5 m_F_read [(2, 0), (0, a1), (0, a2)] N σ g Q := by
  refine z_Oenter mi_F_read rfl (fun _ => ?_)
  show z_U X 5 m_F_read 0 [(0, (2, 0)), (1, (0, a1)), (2, (0, a2))] [] N σ g Q
  refine z_aload_n (i := 0) (c := 0) 0 d_F_read_0 rfl rfl rfl ?_
  refine z_iload_n (i := 1) 1 d_F_read_1 rfl rfl ?_
  refine z_iload_n (i := 2) 2 d_F_read_2 rfl rfl ?_
  refine z_cV (c := 0) (as := [(0, a1), (0, a2)]) (d' := 4) (st := []) d_F_read_3 mi_F_whyNoPlace ml_F_113 mv_F_whyNoPlace se_F_whyNoPlace rfl rfl rfl rfl (ks_F_0 hx) rfl rfl (kl_F_0 hx) rfl rfl (z_Omono h (fun r0 g0 _ h hro => ?_))
  show z_U X 5 m_F_read 6 [(0, (2, 0)), (1, (0, a1)), (2, (0, a2))] [(0, r0)] N σ g0 Q
  refine z_istore_n (i := 3) (ls' := [(3, (0, r0)), (0, (2, 0)), (1, (0, a1)), (2, (0, a2))]) d_F_read_6 rfl rfl rfl ?_
  refine z_iload_n (i := 3) 0 d_F_read_7 rfl rfl ?_
  refine z_if_eq (tgt := 18) d_F_read_8 (by decide) (fun c1 => ?_) (fun c1 => ?_)
  · have h := h.1 c1
    refine z_aload_n (i := 0) (c := 0) 1 d_F_read_18 rfl rfl rfl ?_
    refine z_iconst (n := 0) d_F_read_19 (by decide) ?_
    refine z_puti (c := 0) (kI := 0) d_F_read_20 fd_F_latestStatus fl_F_7 pf_F_latestStatus rfl rfl rfl rfl (ks_F_0 hx) (kl_F_0 hx) ?_
    refine z_aload_n (i := 0) (c := 0) 1 d_F_read_23 rfl rfl rfl ?_
    refine z_getr (c := 0) (kI := 3) (r2 := 1) d_F_read_24 fd_F_trays fl_F_23 rfl rfl rfl (ks_F_0 hx) (kl_F_0 hx) (kr_F_0_3 hx) ?_
    refine z_iload_n (i := 1) 2 d_F_read_27 rfl rfl ?_
    refine z_iload_n (i := 2) 3 d_F_read_28 rfl rfl ?_
    refine z_cV (c := 1) (as := [(0, a1), (0, a2)]) (d' := 4) (st := []) d_F_read_29 mi_Tr_look ml_F_125 mv_Tr_look se_Tr_look rfl rfl rfl rfl (ks_F_1 hx) rfl rfl (kl_F_1 hx) rfl rfl (z_Omono h (fun r1 g1 _ h hro => ?_))
    show z_U X 5 m_F_read 32 [(3, (0, r0)), (0, (2, 0)), (1, (0, a1)), (2, (0, a2))] [(1, r1)] N σ g1 Q
    exact z_lret d_F_read_32 rfl (by decide) (by decide) ⟨rfl, rfl, h⟩
  · have h := h.2 c1
    refine z_aload_n (i := 0) (c := 0) 1 d_F_read_11 rfl rfl rfl ?_
    refine z_iload_n (i := 3) 0 d_F_read_12 rfl rfl ?_
    refine z_cV (c := 0) (as := [(0, r0)]) (d' := 1) (st := []) d_F_read_13 mi_F_none ml_F_121 mv_F_none se_F_none rfl rfl rfl rfl (ks_F_0 hx) rfl rfl (kl_F_0 hx) rfl rfl (b_F_none_0 hx ?_)
    intro _
    show z_U X 5 m_F_read 16 [(3, (0, r0)), (0, (2, 0)), (1, (0, a1)), (2, (0, a2))] [(0, (-1))] N σ (z_up g0 0 0 r0) Q
    refine z_i2l d_F_read_16 ?_
    exact z_lret d_F_read_17 rfl (by decide) (by decide) ⟨rfl, rfl, h⟩
theorem d_F_risingAt_0 : decode (z_c m_F_risingAt) 0 = .ok (.iload_n 1, 1) := by decide +kernel
theorem d_F_risingAt_1 : decode (z_c m_F_risingAt) 1 = .ok (.ifCond .ge 9, 3) := by decide +kernel
theorem d_F_risingAt_4 : decode (z_c m_F_risingAt) 4 = .ok (.aload_n 0, 1) := by decide +kernel
theorem d_F_risingAt_5 : decode (z_c m_F_risingAt) 5 = .ok (.iconst 1, 1) := by decide +kernel
theorem d_F_risingAt_6 : decode (z_c m_F_risingAt) 6 = .ok (.invokevirtual 102, 3) := by decide +kernel
theorem d_F_risingAt_9 : decode (z_c m_F_risingAt) 9 = .ok (.ireturn, 1) := by decide +kernel
theorem d_F_risingAt_10 : decode (z_c m_F_risingAt) 10 = .ok (.aload_n 0, 1) := by decide +kernel
theorem d_F_risingAt_11 : decode (z_c m_F_risingAt) 11 = .ok (.aload_n 0, 1) := by decide +kernel
theorem d_F_risingAt_12 : decode (z_c m_F_risingAt) 12 = .ok (.getfield 67, 3) := by decide +kernel
theorem d_F_risingAt_15 : decode (z_c m_F_risingAt) 15 = .ok (.getfield 167, 3) := by decide +kernel
theorem d_F_risingAt_18 : decode (z_c m_F_risingAt) 18 = .ok (.iload_n 1, 1) := by decide +kernel
theorem d_F_risingAt_19 : decode (z_c m_F_risingAt) 19 = .ok (.invokevirtual 375, 3) := by decide +kernel
theorem d_F_risingAt_22 : decode (z_c m_F_risingAt) 22 = .ok (.invokevirtual 372, 3) := by decide +kernel
theorem d_F_risingAt_25 : decode (z_c m_F_risingAt) 25 = .ok (.ireturn, 1) := by decide +kernel
set_option maxRecDepth 8000 in
theorem b_F_risingAt_0 {X : z_X} {N : Nat} {σ g : z_G} {Q : z_P} {a1 : Int} (hx : z_lay X N σ 0 z_SF z_RF) (h : ((0 ≤ a1) → (z_O X 4 m_Pi_rising [(2, 25), (0, a1)] N σ g (fun r0 g0 => (z_O X 3 m_F_tellPin [(2, 0), (0, r0)] N σ g0 (fun r1 g1 => (r1 = 0 ∨ r1 = 1) → Q r1 g1))))) ∧ (¬ (0 ≤ a1) → Q 0 (z_up g 0 0 1))) : z_O X 5 m_F_risingAt [(2, 0), (0, a1)] N σ g Q := by
  refine z_Oenter mi_F_risingAt rfl (fun _ => ?_)
  show z_U X 5 m_F_risingAt 0 [(0, (2, 0)), (1, (0, a1))] [] N σ g Q
  refine z_iload_n (i := 1) 1 d_F_risingAt_0 rfl rfl ?_
  refine z_if_ge (tgt := 10) d_F_risingAt_1 (by decide) (fun c1 => ?_) (fun c1 => ?_)
  · have h := h.1 c1
    refine z_aload_n (i := 0) (c := 0) 0 d_F_risingAt_10 rfl rfl rfl ?_
    refine z_aload_n (i := 0) (c := 0) 0 d_F_risingAt_11 rfl rfl rfl ?_
    refine z_getr (c := 0) (kI := 11) (r2 := 23) d_F_risingAt_12 fd_F_board fl_F_67 rfl rfl rfl (ks_F_0 hx) (kl_F_0 hx) (kr_F_0_11 hx) ?_
    refine z_getr (c := 23) (kI := 3) (r2 := 25) d_F_risingAt_15 fd_Bd_pins fl_F_167 rfl rfl rfl (ks_F_23 hx) (kl_F_23 hx) (kr_F_23_3 hx) ?_
    refine z_iload_n (i := 1) 1 d_F_risingAt_18 rfl rfl ?_
    refine z_cV (c := 25) (as := [(0, a1)]) (d' := 4) (st := [(2, 0)]) d_F_risingAt_19 mi_Pi_rising ml_F_375 mv_Pi_rising se_Pi_rising rfl rfl rfl rfl (ks_F_25 hx) rfl rfl (kl_F_25 hx) rfl rfl (z_Omono h (fun r0 g0 _ h hro => ?_))
    show z_U X 5 m_F_risingAt 22 [(0, (2, 0)), (1, (0, a1))] [(0, r0), (2, 0)] N σ g0 Q
    refine z_cV (c := 0) (as := [(0, r0)]) (d' := 3) (st := []) d_F_risingAt_22 mi_F_tellPin ml_F_372 mv_F_tellPin se_F_tellPin rfl rfl rfl rfl (ks_F_0 hx) rfl rfl (kl_F_0 hx) rfl rfl (z_Omono h (fun r1 g1 _ h hro => ?_))
    have h := h (z_b01 hro)
    have hzr1 := z_b01 hro
    show z_U X 5 m_F_risingAt 25 [(0, (2, 0)), (1, (0, a1))] [(0, r1)] N σ g1 Q
    exact z_zret d_F_risingAt_25 rfl (by decide) (by decide) hzr1 ⟨rfl, rfl, h⟩
  · have h := h.2 c1
    refine z_aload_n (i := 0) (c := 0) 0 d_F_risingAt_4 rfl rfl rfl ?_
    refine z_iconst (n := 1) d_F_risingAt_5 (by decide) ?_
    refine z_cV (c := 0) (as := [(0, 1)]) (d' := 1) (st := []) d_F_risingAt_6 mi_F_refuse ml_F_102 mv_F_refuse se_F_refuse rfl rfl rfl rfl (ks_F_0 hx) rfl rfl (kl_F_0 hx) rfl rfl (b_F_refuse_0 hx ?_)
    intro _
    show z_U X 5 m_F_risingAt 9 [(0, (2, 0)), (1, (0, a1))] [(0, 0)] N σ (z_up g 0 0 1) Q
    exact z_zret d_F_risingAt_9 rfl (by decide) (by decide) (by decide) ⟨rfl, rfl, h⟩
theorem d_F_turnAt_0 : decode (z_c m_F_turnAt) 0 = .ok (.iload_n 3, 1) := by decide +kernel
theorem d_F_turnAt_1 : decode (z_c m_F_turnAt) 1 = .ok (.ifCond .ge 9, 3) := by decide +kernel
theorem d_F_turnAt_4 : decode (z_c m_F_turnAt) 4 = .ok (.aload_n 0, 1) := by decide +kernel
theorem d_F_turnAt_5 : decode (z_c m_F_turnAt) 5 = .ok (.iconst 1, 1) := by decide +kernel
theorem d_F_turnAt_6 : decode (z_c m_F_turnAt) 6 = .ok (.invokevirtual 121, 3) := by decide +kernel
theorem d_F_turnAt_9 : decode (z_c m_F_turnAt) 9 = .ok (.ireturn, 1) := by decide +kernel
theorem d_F_turnAt_10 : decode (z_c m_F_turnAt) 10 = .ok (.aload_n 0, 1) := by decide +kernel
theorem d_F_turnAt_11 : decode (z_c m_F_turnAt) 11 = .ok (.iload_n 1, 1) := by decide +kernel
theorem d_F_turnAt_12 : decode (z_c m_F_turnAt) 12 = .ok (.iload_n 2, 1) := by decide +kernel
theorem d_F_turnAt_13 : decode (z_c m_F_turnAt) 13 = .ok (.invokevirtual 294, 3) := by decide +kernel
theorem d_F_turnAt_16 : decode (z_c m_F_turnAt) 16 = .ok (.istore 4, 2) := by decide +kernel
theorem d_F_turnAt_18 : decode (z_c m_F_turnAt) 18 = .ok (.iload 4, 2) := by decide +kernel
theorem d_F_turnAt_20 : decode (z_c m_F_turnAt) 20 = .ok (.ifCond .eq 10, 3) := by decide +kernel
theorem d_F_turnAt_23 : decode (z_c m_F_turnAt) 23 = .ok (.aload_n 0, 1) := by decide +kernel
theorem d_F_turnAt_24 : decode (z_c m_F_turnAt) 24 = .ok (.iload 4, 2) := by decide +kernel
theorem d_F_turnAt_26 : decode (z_c m_F_turnAt) 26 = .ok (.invokevirtual 121, 3) := by decide +kernel
theorem d_F_turnAt_29 : decode (z_c m_F_turnAt) 29 = .ok (.ireturn, 1) := by decide +kernel
theorem d_F_turnAt_30 : decode (z_c m_F_turnAt) 30 = .ok (.iload_n 3, 1) := by decide +kernel
theorem d_F_turnAt_31 : decode (z_c m_F_turnAt) 31 = .ok (.aload_n 0, 1) := by decide +kernel
theorem d_F_turnAt_32 : decode (z_c m_F_turnAt) 32 = .ok (.getfield 50, 3) := by decide +kernel
theorem d_F_turnAt_35 : decode (z_c m_F_turnAt) 35 = .ok (.invokevirtual 297, 3) := by decide +kernel
theorem d_F_turnAt_38 : decode (z_c m_F_turnAt) 38 = .ok (.if_icmp .lt 12, 3) := by decide +kernel
theorem d_F_turnAt_41 : decode (z_c m_F_turnAt) 41 = .ok (.aload_n 0, 1) := by decide +kernel
theorem d_F_turnAt_42 : decode (z_c m_F_turnAt) 42 = .ok (.bipush 6, 2) := by decide +kernel
theorem d_F_turnAt_44 : decode (z_c m_F_turnAt) 44 = .ok (.invokevirtual 121, 3) := by decide +kernel
theorem d_F_turnAt_47 : decode (z_c m_F_turnAt) 47 = .ok (.goto 15, 3) := by decide +kernel
theorem d_F_turnAt_50 : decode (z_c m_F_turnAt) 50 = .ok (.aload_n 0, 1) := by decide +kernel
theorem d_F_turnAt_51 : decode (z_c m_F_turnAt) 51 = .ok (.aload_n 0, 1) := by decide +kernel
theorem d_F_turnAt_52 : decode (z_c m_F_turnAt) 52 = .ok (.getfield 50, 3) := by decide +kernel
theorem d_F_turnAt_55 : decode (z_c m_F_turnAt) 55 = .ok (.iload_n 3, 1) := by decide +kernel
theorem d_F_turnAt_56 : decode (z_c m_F_turnAt) 56 = .ok (.invokevirtual 300, 3) := by decide +kernel
theorem d_F_turnAt_59 : decode (z_c m_F_turnAt) 59 = .ok (.invokevirtual 176, 3) := by decide +kernel
theorem d_F_turnAt_62 : decode (z_c m_F_turnAt) 62 = .ok (.ireturn, 1) := by decide +kernel
set_option maxRecDepth 8000 in
theorem b_F_turnAt_0 {X : z_X} {N : Nat} {σ g : z_G} {Q : z_P} {a1 a2 a3 : Int} (hx : z_lay X N σ 0 z_SF z_RF) (h : ((0 ≤ a3) → (z_O X 4 m_F_whyNotOfTree [(2, 0), (0, a1), (0, a2)] N σ g (fun r0 g0 => (((r0 = 0) → ((-2147483648 ≤ ((g0 18 2) - 2) ∧ ((g0 18 2) - 2) ≤ 2147483647) ∧ (((a3 < ((g0 18 2) - 2)) → (z_O X 2 m_Ch_turnOf [(2, 18), (0, a3)] N σ g0 (fun r1 g1 => Q r1 (z_up g1 0 0 0)))) ∧ (¬ (a3 < ((g0 18 2) - 2)) → Q (-1) (z_up g0 0 0 6))))) ∧ (¬ (r0 = 0) → Q (-1) (z_up g0 0 0 r0)))))) ∧ (¬ (0 ≤ a3) → Q (-1) (z_up g 0 0 1))) : z_O X 5 m_F_turnAt [(2, 0), (0, a1), (0, a2), (0, a3)] N σ g Q := by
  refine z_Oenter mi_F_turnAt rfl (fun _ => ?_)
  show z_U X 5 m_F_turnAt 0 [(0, (2, 0)), (1, (0, a1)), (2, (0, a2)), (3, (0, a3))] [] N σ g Q
  refine z_iload_n (i := 3) 3 d_F_turnAt_0 rfl rfl ?_
  refine z_if_ge (tgt := 10) d_F_turnAt_1 (by decide) (fun c1 => ?_) (fun c1 => ?_)
  · have h := h.1 c1
    refine z_aload_n (i := 0) (c := 0) 0 d_F_turnAt_10 rfl rfl rfl ?_
    refine z_iload_n (i := 1) 1 d_F_turnAt_11 rfl rfl ?_
    refine z_iload_n (i := 2) 2 d_F_turnAt_12 rfl rfl ?_
    refine z_cV (c := 0) (as := [(0, a1), (0, a2)]) (d' := 4) (st := []) d_F_turnAt_13 mi_F_whyNotOfTree ml_F_294 mv_F_whyNotOfTree se_F_whyNotOfTree rfl rfl rfl rfl (ks_F_0 hx) rfl rfl (kl_F_0 hx) rfl rfl (z_Omono h (fun r0 g0 _ h hro => ?_))
    show z_U X 5 m_F_turnAt 16 [(0, (2, 0)), (1, (0, a1)), (2, (0, a2)), (3, (0, a3))] [(0, r0)] N σ g0 Q
    refine z_istore (ls' := [(4, (0, r0)), (0, (2, 0)), (1, (0, a1)), (2, (0, a2)), (3, (0, a3))]) d_F_turnAt_16 rfl rfl ?_
    refine z_iload 0 d_F_turnAt_18 rfl ?_
    refine z_if_eq (tgt := 30) d_F_turnAt_20 (by decide) (fun c2 => ?_) (fun c2 => ?_)
    · have h := h.1 c2
      refine z_iload_n (i := 3) 4 d_F_turnAt_30 rfl rfl ?_
      refine z_aload_n (i := 0) (c := 0) 1 d_F_turnAt_31 rfl rfl rfl ?_
      refine z_getr (c := 0) (kI := 8) (r2 := 18) d_F_turnAt_32 fd_F_chain fl_F_50 rfl rfl rfl (ks_F_0 hx) (kl_F_0 hx) (kr_F_0_8 hx) ?_
      refine z_cV (c := 18) (as := []) (d' := 1) (st := [(0, a3)]) d_F_turnAt_35 mi_Ch_turns ml_F_297 mv_Ch_turns se_Ch_turns rfl rfl rfl rfl (ks_F_18 hx) rfl rfl (kl_F_18 hx) rfl rfl (b_Ch_turns_0 (ky_F_18 hx) ?_)
      obtain ⟨c3, h⟩ := h
      refine ⟨c3, ?_⟩
      intro _
      show z_U X 5 m_F_turnAt 38 [(4, (0, r0)), (0, (2, 0)), (1, (0, a1)), (2, (0, a2)), (3, (0, a3))] [(0, (g0 18 2) - 2), (0, a3)] N σ g0 Q
      refine z_icmp_lt (tgt := 50) d_F_turnAt_38 (by decide) (fun c4 => ?_) (fun c4 => ?_)
      · have h := h.1 c4
        refine z_aload_n (i := 0) (c := 0) 1 d_F_turnAt_50 rfl rfl rfl ?_
        refine z_aload_n (i := 0) (c := 0) 1 d_F_turnAt_51 rfl rfl rfl ?_
        refine z_getr (c := 0) (kI := 8) (r2 := 18) d_F_turnAt_52 fd_F_chain fl_F_50 rfl rfl rfl (ks_F_0 hx) (kl_F_0 hx) (kr_F_0_8 hx) ?_
        refine z_iload_n (i := 3) 4 d_F_turnAt_55 rfl rfl ?_
        refine z_cV (c := 18) (as := [(0, a3)]) (d' := 2) (st := [(2, 0)]) d_F_turnAt_56 mi_Ch_turnOf ml_F_300 mv_Ch_turnOf se_Ch_turnOf rfl rfl rfl rfl (ks_F_18 hx) rfl rfl (kl_F_18 hx) rfl rfl (z_Omono h (fun r1 g1 _ h hro => ?_))
        show z_U X 5 m_F_turnAt 59 [(4, (0, r0)), (0, (2, 0)), (1, (0, a1)), (2, (0, a2)), (3, (0, a3))] [(0, r1), (2, 0)] N σ g1 Q
        refine z_cV (c := 0) (as := [(0, r1)]) (d' := 1) (st := []) d_F_turnAt_59 mi_F_give ml_F_176 mv_F_give se_F_give rfl rfl rfl rfl (ks_F_0 hx) rfl rfl (kl_F_0 hx) rfl rfl (b_F_give_0 hx ?_)
        intro _
        show z_U X 5 m_F_turnAt 62 [(4, (0, r0)), (0, (2, 0)), (1, (0, a1)), (2, (0, a2)), (3, (0, a3))] [(0, r1)] N σ (z_up g1 0 0 0) Q
        exact z_iret d_F_turnAt_62 rfl (by decide) (by decide) ⟨rfl, rfl, h⟩
      · have h := h.2 c4
        refine z_aload_n (i := 0) (c := 0) 1 d_F_turnAt_41 rfl rfl rfl ?_
        refine z_bipush (n := 6) d_F_turnAt_42 (by decide) (by decide) ?_
        refine z_cV (c := 0) (as := [(0, 6)]) (d' := 1) (st := []) d_F_turnAt_44 mi_F_none ml_F_121 mv_F_none se_F_none rfl rfl rfl rfl (ks_F_0 hx) rfl rfl (kl_F_0 hx) rfl rfl (b_F_none_0 hx ?_)
        intro _
        show z_U X 5 m_F_turnAt 47 [(4, (0, r0)), (0, (2, 0)), (1, (0, a1)), (2, (0, a2)), (3, (0, a3))] [(0, (-1))] N σ (z_up g0 0 0 6) Q
        refine z_goto (tgt := 62) d_F_turnAt_47 (by decide) ?_
        exact z_iret d_F_turnAt_62 rfl (by decide) (by decide) ⟨rfl, rfl, h⟩
    · have h := h.2 c2
      refine z_aload_n (i := 0) (c := 0) 1 d_F_turnAt_23 rfl rfl rfl ?_
      refine z_iload 0 d_F_turnAt_24 rfl ?_
      refine z_cV (c := 0) (as := [(0, r0)]) (d' := 1) (st := []) d_F_turnAt_26 mi_F_none ml_F_121 mv_F_none se_F_none rfl rfl rfl rfl (ks_F_0 hx) rfl rfl (kl_F_0 hx) rfl rfl (b_F_none_0 hx ?_)
      intro _
      show z_U X 5 m_F_turnAt 29 [(4, (0, r0)), (0, (2, 0)), (1, (0, a1)), (2, (0, a2)), (3, (0, a3))] [(0, (-1))] N σ (z_up g0 0 0 r0) Q
      exact z_iret d_F_turnAt_29 rfl (by decide) (by decide) ⟨rfl, rfl, h⟩
  · have h := h.2 c1
    refine z_aload_n (i := 0) (c := 0) 0 d_F_turnAt_4 rfl rfl rfl ?_
    refine z_iconst (n := 1) d_F_turnAt_5 (by decide) ?_
    refine z_cV (c := 0) (as := [(0, 1)]) (d' := 1) (st := []) d_F_turnAt_6 mi_F_none ml_F_121 mv_F_none se_F_none rfl rfl rfl rfl (ks_F_0 hx) rfl rfl (kl_F_0 hx) rfl rfl (b_F_none_0 hx ?_)
    intro _
    show z_U X 5 m_F_turnAt 9 [(0, (2, 0)), (1, (0, a1)), (2, (0, a2)), (3, (0, a3))] [(0, (-1))] N σ (z_up g 0 0 1) Q
    exact z_iret d_F_turnAt_9 rfl (by decide) (by decide) ⟨rfl, rfl, h⟩
theorem d_F_write_0 : decode (z_c m_F_write) 0 = .ok (.aload_n 0, 1) := by decide +kernel
theorem d_F_write_1 : decode (z_c m_F_write) 1 = .ok (.iload_n 1, 1) := by decide +kernel
theorem d_F_write_2 : decode (z_c m_F_write) 2 = .ok (.iload_n 2, 1) := by decide +kernel
theorem d_F_write_3 : decode (z_c m_F_write) 3 = .ok (.invokevirtual 113, 3) := by decide +kernel
theorem d_F_write_6 : decode (z_c m_F_write) 6 = .ok (.istore 5, 2) := by decide +kernel
theorem d_F_write_8 : decode (z_c m_F_write) 8 = .ok (.iload 5, 2) := by decide +kernel
theorem d_F_write_10 : decode (z_c m_F_write) 10 = .ok (.ifCond .eq 10, 3) := by decide +kernel
theorem d_F_write_13 : decode (z_c m_F_write) 13 = .ok (.aload_n 0, 1) := by decide +kernel
theorem d_F_write_14 : decode (z_c m_F_write) 14 = .ok (.iload 5, 2) := by decide +kernel
theorem d_F_write_16 : decode (z_c m_F_write) 16 = .ok (.invokevirtual 102, 3) := by decide +kernel
theorem d_F_write_19 : decode (z_c m_F_write) 19 = .ok (.ireturn, 1) := by decide +kernel
theorem d_F_write_20 : decode (z_c m_F_write) 20 = .ok (.aload_n 0, 1) := by decide +kernel
theorem d_F_write_21 : decode (z_c m_F_write) 21 = .ok (.getfield 23, 3) := by decide +kernel
theorem d_F_write_24 : decode (z_c m_F_write) 24 = .ok (.iload_n 1, 1) := by decide +kernel
theorem d_F_write_25 : decode (z_c m_F_write) 25 = .ok (.iload_n 2, 1) := by decide +kernel
theorem d_F_write_26 : decode (z_c m_F_write) 26 = .ok (.lload_n 3, 1) := by decide +kernel
theorem d_F_write_27 : decode (z_c m_F_write) 27 = .ok (.invokevirtual 117, 3) := by decide +kernel
theorem d_F_write_30 : decode (z_c m_F_write) 30 = .ok (.aload_n 0, 1) := by decide +kernel
theorem d_F_write_31 : decode (z_c m_F_write) 31 = .ok (.invokevirtual 109, 3) := by decide +kernel
theorem d_F_write_34 : decode (z_c m_F_write) 34 = .ok (.ireturn, 1) := by decide +kernel
set_option maxRecDepth 8000 in
theorem b_F_write_0 {X : z_X} {N : Nat} {σ g : z_G} {Q : z_P} {a1 a2 a3 : Int} (hx : z_lay X N σ 0 z_SF z_RF) (h : z_O X 4 m_F_whyNoPlace [(2, 0), (0, a1), (0, a2)] N σ g (fun r0 g0 => (((r0 = 0) → (z_O X 4 m_Tr_put [(2, 1), (0, a1), (0, a2), (1, a3)] N σ g0 (fun r1 g1 => Q 1 (z_up g1 0 0 0)))) ∧ (¬ (r0 = 0) → Q 0 (z_up g0 0 0 r0))))) : z_O X 5 m_F_write [(2, 0), (0, a1), (0, a2), (1, a3)] N σ g Q := by
  refine z_Oenter mi_F_write rfl (fun _ => ?_)
  show z_U X 5 m_F_write 0 [(0, (2, 0)), (1, (0, a1)), (2, (0, a2)), (3, (1, a3))] [] N σ g Q
  refine z_aload_n (i := 0) (c := 0) 0 d_F_write_0 rfl rfl rfl ?_
  refine z_iload_n (i := 1) 1 d_F_write_1 rfl rfl ?_
  refine z_iload_n (i := 2) 2 d_F_write_2 rfl rfl ?_
  refine z_cV (c := 0) (as := [(0, a1), (0, a2)]) (d' := 4) (st := []) d_F_write_3 mi_F_whyNoPlace ml_F_113 mv_F_whyNoPlace se_F_whyNoPlace rfl rfl rfl rfl (ks_F_0 hx) rfl rfl (kl_F_0 hx) rfl rfl (z_Omono h (fun r0 g0 _ h hro => ?_))
  show z_U X 5 m_F_write 6 [(0, (2, 0)), (1, (0, a1)), (2, (0, a2)), (3, (1, a3))] [(0, r0)] N σ g0 Q
  refine z_istore (ls' := [(5, (0, r0)), (0, (2, 0)), (1, (0, a1)), (2, (0, a2)), (3, (1, a3))]) d_F_write_6 rfl rfl ?_
  refine z_iload 0 d_F_write_8 rfl ?_
  refine z_if_eq (tgt := 20) d_F_write_10 (by decide) (fun c1 => ?_) (fun c1 => ?_)
  · have h := h.1 c1
    refine z_aload_n (i := 0) (c := 0) 1 d_F_write_20 rfl rfl rfl ?_
    refine z_getr (c := 0) (kI := 3) (r2 := 1) d_F_write_21 fd_F_trays fl_F_23 rfl rfl rfl (ks_F_0 hx) (kl_F_0 hx) (kr_F_0_3 hx) ?_
    refine z_iload_n (i := 1) 2 d_F_write_24 rfl rfl ?_
    refine z_iload_n (i := 2) 3 d_F_write_25 rfl rfl ?_
    refine z_lload_n (i := 3) 4 d_F_write_26 rfl rfl ?_
    refine z_cV (c := 1) (as := [(0, a1), (0, a2), (1, a3)]) (d' := 4) (st := []) d_F_write_27 mi_Tr_put ml_F_117 mv_Tr_put se_Tr_put rfl rfl rfl rfl (ks_F_1 hx) rfl rfl (kl_F_1 hx) rfl rfl (z_Omono h (fun r1 g1 _ h hro => ?_))
    show z_U X 5 m_F_write 30 [(5, (0, r0)), (0, (2, 0)), (1, (0, a1)), (2, (0, a2)), (3, (1, a3))] [] N σ g1 Q
    refine z_aload_n (i := 0) (c := 0) 1 d_F_write_30 rfl rfl rfl ?_
    refine z_cV (c := 0) (as := []) (d' := 1) (st := []) d_F_write_31 mi_F_accept ml_F_109 mv_F_accept se_F_accept rfl rfl rfl rfl (ks_F_0 hx) rfl rfl (kl_F_0 hx) rfl rfl (b_F_accept_0 hx ?_)
    intro _
    show z_U X 5 m_F_write 34 [(5, (0, r0)), (0, (2, 0)), (1, (0, a1)), (2, (0, a2)), (3, (1, a3))] [(0, 1)] N σ (z_up g1 0 0 0) Q
    exact z_zret d_F_write_34 rfl (by decide) (by decide) (by decide) ⟨rfl, rfl, h⟩
  · have h := h.2 c1
    refine z_aload_n (i := 0) (c := 0) 1 d_F_write_13 rfl rfl rfl ?_
    refine z_iload 0 d_F_write_14 rfl ?_
    refine z_cV (c := 0) (as := [(0, r0)]) (d' := 1) (st := []) d_F_write_16 mi_F_refuse ml_F_102 mv_F_refuse se_F_refuse rfl rfl rfl rfl (ks_F_0 hx) rfl rfl (kl_F_0 hx) rfl rfl (b_F_refuse_0 hx ?_)
    intro _
    show z_U X 5 m_F_write 19 [(5, (0, r0)), (0, (2, 0)), (1, (0, a1)), (2, (0, a2)), (3, (1, a3))] [(0, 0)] N σ (z_up g0 0 0 r0) Q
    exact z_zret d_F_write_19 rfl (by decide) (by decide) (by decide) ⟨rfl, rfl, h⟩
theorem d_Wk_act_0 : decode (z_c m_Wk_act) 0 = .ok (.iload_n 2, 1) := by decide +kernel
theorem d_Wk_act_1 : decode (z_c m_Wk_act) 1 = .ok (.tableswitch 97 0 6 #[43, 53, 63, 72, 78, 85, 91], 43) := by decide +kernel
theorem d_Wk_act_44 : decode (z_c m_Wk_act) 44 = .ok (.aload_n 0, 1) := by decide +kernel
theorem d_Wk_act_45 : decode (z_c m_Wk_act) 45 = .ok (.aload_n 1, 1) := by decide +kernel
theorem d_Wk_act_46 : decode (z_c m_Wk_act) 46 = .ok (.iconst 0, 1) := by decide +kernel
theorem d_Wk_act_47 : decode (z_c m_Wk_act) 47 = .ok (.invokevirtual 104, 3) := by decide +kernel
theorem d_Wk_act_50 : decode (z_c m_Wk_act) 50 = .ok (.invokevirtual 108, 3) := by decide +kernel
theorem d_Wk_act_53 : decode (z_c m_Wk_act) 53 = .ok (.ireturn, 1) := by decide +kernel
theorem d_Wk_act_54 : decode (z_c m_Wk_act) 54 = .ok (.aload_n 0, 1) := by decide +kernel
theorem d_Wk_act_55 : decode (z_c m_Wk_act) 55 = .ok (.aload_n 1, 1) := by decide +kernel
theorem d_Wk_act_56 : decode (z_c m_Wk_act) 56 = .ok (.iconst 1, 1) := by decide +kernel
theorem d_Wk_act_57 : decode (z_c m_Wk_act) 57 = .ok (.invokevirtual 104, 3) := by decide +kernel
theorem d_Wk_act_60 : decode (z_c m_Wk_act) 60 = .ok (.invokevirtual 108, 3) := by decide +kernel
theorem d_Wk_act_63 : decode (z_c m_Wk_act) 63 = .ok (.ireturn, 1) := by decide +kernel
theorem d_Wk_act_64 : decode (z_c m_Wk_act) 64 = .ok (.aload_n 0, 1) := by decide +kernel
theorem d_Wk_act_65 : decode (z_c m_Wk_act) 65 = .ok (.aload_n 1, 1) := by decide +kernel
theorem d_Wk_act_66 : decode (z_c m_Wk_act) 66 = .ok (.invokevirtual 112, 3) := by decide +kernel
theorem d_Wk_act_69 : decode (z_c m_Wk_act) 69 = .ok (.invokevirtual 108, 3) := by decide +kernel
theorem d_Wk_act_72 : decode (z_c m_Wk_act) 72 = .ok (.ireturn, 1) := by decide +kernel
theorem d_Wk_act_73 : decode (z_c m_Wk_act) 73 = .ok (.aload_n 1, 1) := by decide +kernel
theorem d_Wk_act_74 : decode (z_c m_Wk_act) 74 = .ok (.invokevirtual 116, 3) := by decide +kernel
theorem d_Wk_act_77 : decode (z_c m_Wk_act) 77 = .ok (.iconst 1, 1) := by decide +kernel
theorem d_Wk_act_78 : decode (z_c m_Wk_act) 78 = .ok (.ireturn, 1) := by decide +kernel
theorem d_Wk_act_79 : decode (z_c m_Wk_act) 79 = .ok (.aload_n 0, 1) := by decide +kernel
theorem d_Wk_act_80 : decode (z_c m_Wk_act) 80 = .ok (.aload_n 1, 1) := by decide +kernel
theorem d_Wk_act_81 : decode (z_c m_Wk_act) 81 = .ok (.iload_n 3, 1) := by decide +kernel
theorem d_Wk_act_82 : decode (z_c m_Wk_act) 82 = .ok (.invokevirtual 119, 3) := by decide +kernel
theorem d_Wk_act_85 : decode (z_c m_Wk_act) 85 = .ok (.ireturn, 1) := by decide +kernel
theorem d_Wk_act_86 : decode (z_c m_Wk_act) 86 = .ok (.aload_n 0, 1) := by decide +kernel
theorem d_Wk_act_87 : decode (z_c m_Wk_act) 87 = .ok (.aload_n 1, 1) := by decide +kernel
theorem d_Wk_act_88 : decode (z_c m_Wk_act) 88 = .ok (.invokevirtual 122, 3) := by decide +kernel
theorem d_Wk_act_91 : decode (z_c m_Wk_act) 91 = .ok (.ireturn, 1) := by decide +kernel
theorem d_Wk_act_92 : decode (z_c m_Wk_act) 92 = .ok (.aload_n 1, 1) := by decide +kernel
theorem d_Wk_act_93 : decode (z_c m_Wk_act) 93 = .ok (.iload_n 3, 1) := by decide +kernel
theorem d_Wk_act_94 : decode (z_c m_Wk_act) 94 = .ok (.invokestatic 126, 3) := by decide +kernel
theorem d_Wk_act_97 : decode (z_c m_Wk_act) 97 = .ok (.ireturn, 1) := by decide +kernel
theorem d_Wk_act_98 : decode (z_c m_Wk_act) 98 = .ok (.aload_n 0, 1) := by decide +kernel
theorem d_Wk_act_99 : decode (z_c m_Wk_act) 99 = .ok (.aload_n 1, 1) := by decide +kernel
theorem d_Wk_act_100 : decode (z_c m_Wk_act) 100 = .ok (.invokevirtual 129, 3) := by decide +kernel
theorem d_Wk_act_103 : decode (z_c m_Wk_act) 103 = .ok (.ireturn, 1) := by decide +kernel
set_option maxRecDepth 8000 in
theorem b_Wk_act_0 {X : z_X} {N : Nat} {σ g : z_G} {Q : z_P} {a2 a3 : Int} {o p1 : Nat} (ho : z_lay X N σ o z_SWk z_RWk) (hp1 : z_lay X N σ p1 z_SBd z_RBd) (h : ((a2 = 0) → (z_O X 3 m_Bd_goDown [(2, ((p1 : Nat) : Int)), (0, 0)] N σ g (fun r0 g0 => (r0 = 0 ∨ r0 = 1) → (((r0 = 0) → ((r0 = 0 ∨ r0 = 1) ∧ Q r0 g0)) ∧ (¬ (r0 = 0) → ((-2147483648 ≤ ((g0 o 2) + 1) ∧ ((g0 o 2) + 1) ≤ 2147483647) ∧ ((r0 = 0 ∨ r0 = 1) ∧ Q r0 (z_up g0 o 2 ((g0 o 2) + 1))))))))) ∧ ((a2 = 1) → (z_O X 3 m_Bd_goDown [(2, ((p1 : Nat) : Int)), (0, 1)] N σ g (fun r3 g3 => (r3 = 0 ∨ r3 = 1) → (((r3 = 0) → ((r3 = 0 ∨ r3 = 1) ∧ Q r3 g3)) ∧ (¬ (r3 = 0) → ((-2147483648 ≤ ((g3 o 2) + 1) ∧ ((g3 o 2) + 1) ≤ 2147483647) ∧ ((r3 = 0 ∨ r3 = 1) ∧ Q r3 (z_up g3 o 2 ((g3 o 2) + 1))))))))) ∧ ((a2 = 2) → (z_O X 3 m_Bd_goUp [(2, ((p1 : Nat) : Int))] N σ g (fun r6 g6 => (r6 = 0 ∨ r6 = 1) → (((r6 = 0) → ((r6 = 0 ∨ r6 = 1) ∧ Q r6 g6)) ∧ (¬ (r6 = 0) → ((-2147483648 ≤ ((g6 o 2) + 1) ∧ ((g6 o 2) + 1) ≤ 2147483647) ∧ ((r6 = 0 ∨ r6 = 1) ∧ Q r6 (z_up g6 o 2 ((g6 o 2) + 1))))))))) ∧ ((a2 = 3) → (z_O X 3 m_Bd_goAcross [(2, ((p1 : Nat) : Int))] N σ g (fun r9 g9 => Q 1 g9))) ∧ ((a2 = 4) → (z_O X 3 m_Wk_pins [(2, ((o : Nat) : Int)), (2, ((p1 : Nat) : Int)), (0, a3)] N σ g (fun r10 g10 => (r10 = 0 ∨ r10 = 1) → Q r10 g10))) ∧ ((a2 = 5) → (z_O X 3 m_Wk_lifts [(2, ((o : Nat) : Int)), (2, ((p1 : Nat) : Int))] N σ g (fun r11 g11 => (r11 = 0 ∨ r11 = 1) → Q r11 g11))) ∧ ((a2 = 6) → ((((g p1 0) = a3) → Q 0 g) ∧ (¬ ((g p1 0) = a3) → Q 1 (z_up g p1 0 a3)))) ∧ ((¬ (a2 = 0) ∧ ¬ (a2 = 1) ∧ ¬ (a2 = 2) ∧ ¬ (a2 = 3) ∧ ¬ (a2 = 4) ∧ ¬ (a2 = 5) ∧ ¬ (a2 = 6)) → (z_O X 4 m_Wk_wanders [(2, ((o : Nat) : Int)), (2, ((p1 : Nat) : Int))] N σ g (fun r12 g12 => (r12 = 0 ∨ r12 = 1) → Q r12 g12)))) : z_O X 5 m_Wk_act [(2, ((o : Nat) : Int)), (2, ((p1 : Nat) : Int)), (0, a2), (0, a3)] N σ g Q := by
  refine z_Oenter mi_Wk_act rfl (fun _ => ?_)
  show z_U X 5 m_Wk_act 0 [(0, (2, ((o : Nat) : Int))), (1, (2, ((p1 : Nat) : Int))), (2, (0, a2)), (3, (0, a3))] [] N σ g Q
  refine z_iload_n (i := 2) 2 d_Wk_act_0 rfl rfl ?_
  by_cases c2 : a2 = 0
  · have h := h.1 c2
    refine z_ti c2 ?_
    refine z_tab (off := 43) (tgt := 44) d_Wk_act_1 (by decide) (by decide) (by decide) (by decide) ?_
    refine z_aload_n (i := 0) (c := o) 0 d_Wk_act_44 rfl rfl rfl ?_
    refine z_aload_n (i := 1) (c := p1) 1 d_Wk_act_45 rfl rfl rfl ?_
    refine z_iconst (n := 0) d_Wk_act_46 (by decide) ?_
    refine z_cV (c := p1) (as := [(0, 0)]) (d' := 3) (st := [(2, ((o : Nat) : Int))]) d_Wk_act_47 mi_Bd_goDown ml_Wk_104 mv_Bd_goDown se_Bd_goDown rfl rfl rfl rfl (ks_Bd_0 hp1) rfl rfl (kl_Bd_0 hp1) rfl rfl (z_Omono h (fun r0 g0 _ h hro => ?_))
    have h := h (z_b01 hro)
    have hzr0 := z_b01 hro
    show z_U X 5 m_Wk_act 50 [(0, (2, ((o : Nat) : Int))), (1, (2, ((p1 : Nat) : Int))), (2, (0, a2)), (3, (0, a3))] [(0, r0), (2, ((o : Nat) : Int))] N σ g0 Q
    refine z_cV (c := o) (as := [(0, r0)]) (d' := 1) (st := []) d_Wk_act_50 mi_Wk_moves ml_Wk_108 mv_Wk_moves se_Wk_moves rfl rfl rfl rfl (ks_Wk_0 ho) rfl rfl (kl_Wk_0 ho) rfl rfl (b_Wk_moves_0 ho ?_)
    refine ⟨fun c3 => ?_, fun c3 => ?_⟩
    · have h := h.1 c3
      obtain ⟨c4, h⟩ := h
      refine ⟨c4, ?_⟩
      intro hro1
      show z_U X 5 m_Wk_act 53 [(0, (2, ((o : Nat) : Int))), (1, (2, ((p1 : Nat) : Int))), (2, (0, a2)), (3, (0, a3))] [(0, r0)] N σ g0 Q
      exact z_zret d_Wk_act_53 rfl (by decide) (by decide) (z_b01 hro1) ⟨rfl, rfl, h⟩
    · have h := h.2 c3
      obtain ⟨c5, h⟩ := h
      refine ⟨c5, ?_⟩
      obtain ⟨c6, h⟩ := h
      refine ⟨c6, ?_⟩
      intro hro2
      show z_U X 5 m_Wk_act 53 [(0, (2, ((o : Nat) : Int))), (1, (2, ((p1 : Nat) : Int))), (2, (0, a2)), (3, (0, a3))] [(0, r0)] N σ (z_up g0 o 2 ((g0 o 2) + 1)) Q
      exact z_zret d_Wk_act_53 rfl (by decide) (by decide) (z_b01 hro2) ⟨rfl, rfl, h⟩
  have h := h.2
  by_cases c7 : a2 = 1
  · have h := h.1 c7
    refine z_ti c7 ?_
    refine z_tab (off := 53) (tgt := 54) d_Wk_act_1 (by decide) (by decide) (by decide) (by decide) ?_
    refine z_aload_n (i := 0) (c := o) 0 d_Wk_act_54 rfl rfl rfl ?_
    refine z_aload_n (i := 1) (c := p1) 1 d_Wk_act_55 rfl rfl rfl ?_
    refine z_iconst (n := 1) d_Wk_act_56 (by decide) ?_
    refine z_cV (c := p1) (as := [(0, 1)]) (d' := 3) (st := [(2, ((o : Nat) : Int))]) d_Wk_act_57 mi_Bd_goDown ml_Wk_104 mv_Bd_goDown se_Bd_goDown rfl rfl rfl rfl (ks_Bd_0 hp1) rfl rfl (kl_Bd_0 hp1) rfl rfl (z_Omono h (fun r3 g3 _ h hro => ?_))
    have h := h (z_b01 hro)
    have hzr3 := z_b01 hro
    show z_U X 5 m_Wk_act 60 [(0, (2, ((o : Nat) : Int))), (1, (2, ((p1 : Nat) : Int))), (2, (0, a2)), (3, (0, a3))] [(0, r3), (2, ((o : Nat) : Int))] N σ g3 Q
    refine z_cV (c := o) (as := [(0, r3)]) (d' := 1) (st := []) d_Wk_act_60 mi_Wk_moves ml_Wk_108 mv_Wk_moves se_Wk_moves rfl rfl rfl rfl (ks_Wk_0 ho) rfl rfl (kl_Wk_0 ho) rfl rfl (b_Wk_moves_0 ho ?_)
    refine ⟨fun c8 => ?_, fun c8 => ?_⟩
    · have h := h.1 c8
      obtain ⟨c9, h⟩ := h
      refine ⟨c9, ?_⟩
      intro hro4
      show z_U X 5 m_Wk_act 63 [(0, (2, ((o : Nat) : Int))), (1, (2, ((p1 : Nat) : Int))), (2, (0, a2)), (3, (0, a3))] [(0, r3)] N σ g3 Q
      exact z_zret d_Wk_act_63 rfl (by decide) (by decide) (z_b01 hro4) ⟨rfl, rfl, h⟩
    · have h := h.2 c8
      obtain ⟨c10, h⟩ := h
      refine ⟨c10, ?_⟩
      obtain ⟨c11, h⟩ := h
      refine ⟨c11, ?_⟩
      intro hro5
      show z_U X 5 m_Wk_act 63 [(0, (2, ((o : Nat) : Int))), (1, (2, ((p1 : Nat) : Int))), (2, (0, a2)), (3, (0, a3))] [(0, r3)] N σ (z_up g3 o 2 ((g3 o 2) + 1)) Q
      exact z_zret d_Wk_act_63 rfl (by decide) (by decide) (z_b01 hro5) ⟨rfl, rfl, h⟩
  have h := h.2
  by_cases c12 : a2 = 2
  · have h := h.1 c12
    refine z_ti c12 ?_
    refine z_tab (off := 63) (tgt := 64) d_Wk_act_1 (by decide) (by decide) (by decide) (by decide) ?_
    refine z_aload_n (i := 0) (c := o) 0 d_Wk_act_64 rfl rfl rfl ?_
    refine z_aload_n (i := 1) (c := p1) 1 d_Wk_act_65 rfl rfl rfl ?_
    refine z_cV (c := p1) (as := []) (d' := 3) (st := [(2, ((o : Nat) : Int))]) d_Wk_act_66 mi_Bd_goUp ml_Wk_112 mv_Bd_goUp se_Bd_goUp rfl rfl rfl rfl (ks_Bd_0 hp1) rfl rfl (kl_Bd_0 hp1) rfl rfl (z_Omono h (fun r6 g6 _ h hro => ?_))
    have h := h (z_b01 hro)
    have hzr6 := z_b01 hro
    show z_U X 5 m_Wk_act 69 [(0, (2, ((o : Nat) : Int))), (1, (2, ((p1 : Nat) : Int))), (2, (0, a2)), (3, (0, a3))] [(0, r6), (2, ((o : Nat) : Int))] N σ g6 Q
    refine z_cV (c := o) (as := [(0, r6)]) (d' := 1) (st := []) d_Wk_act_69 mi_Wk_moves ml_Wk_108 mv_Wk_moves se_Wk_moves rfl rfl rfl rfl (ks_Wk_0 ho) rfl rfl (kl_Wk_0 ho) rfl rfl (b_Wk_moves_0 ho ?_)
    refine ⟨fun c13 => ?_, fun c13 => ?_⟩
    · have h := h.1 c13
      obtain ⟨c14, h⟩ := h
      refine ⟨c14, ?_⟩
      intro hro7
      show z_U X 5 m_Wk_act 72 [(0, (2, ((o : Nat) : Int))), (1, (2, ((p1 : Nat) : Int))), (2, (0, a2)), (3, (0, a3))] [(0, r6)] N σ g6 Q
      exact z_zret d_Wk_act_72 rfl (by decide) (by decide) (z_b01 hro7) ⟨rfl, rfl, h⟩
    · have h := h.2 c13
      obtain ⟨c15, h⟩ := h
      refine ⟨c15, ?_⟩
      obtain ⟨c16, h⟩ := h
      refine ⟨c16, ?_⟩
      intro hro8
      show z_U X 5 m_Wk_act 72 [(0, (2, ((o : Nat) : Int))), (1, (2, ((p1 : Nat) : Int))), (2, (0, a2)), (3, (0, a3))] [(0, r6)] N σ (z_up g6 o 2 ((g6 o 2) + 1)) Q
      exact z_zret d_Wk_act_72 rfl (by decide) (by decide) (z_b01 hro8) ⟨rfl, rfl, h⟩
  have h := h.2
  by_cases c17 : a2 = 3
  · have h := h.1 c17
    refine z_ti c17 ?_
    refine z_tab (off := 72) (tgt := 73) d_Wk_act_1 (by decide) (by decide) (by decide) (by decide) ?_
    refine z_aload_n (i := 1) (c := p1) 1 d_Wk_act_73 rfl rfl rfl ?_
    refine z_cV (c := p1) (as := []) (d' := 3) (st := []) d_Wk_act_74 mi_Bd_goAcross ml_Wk_116 mv_Bd_goAcross se_Bd_goAcross rfl rfl rfl rfl (ks_Bd_0 hp1) rfl rfl (kl_Bd_0 hp1) rfl rfl (z_Omono h (fun r9 g9 _ h hro => ?_))
    show z_U X 5 m_Wk_act 77 [(0, (2, ((o : Nat) : Int))), (1, (2, ((p1 : Nat) : Int))), (2, (0, a2)), (3, (0, a3))] [] N σ g9 Q
    refine z_iconst (n := 1) d_Wk_act_77 (by decide) ?_
    exact z_zret d_Wk_act_78 rfl (by decide) (by decide) (by decide) ⟨rfl, rfl, h⟩
  have h := h.2
  by_cases c18 : a2 = 4
  · have h := h.1 c18
    refine z_ti c18 ?_
    refine z_tab (off := 78) (tgt := 79) d_Wk_act_1 (by decide) (by decide) (by decide) (by decide) ?_
    refine z_aload_n (i := 0) (c := o) 0 d_Wk_act_79 rfl rfl rfl ?_
    refine z_aload_n (i := 1) (c := p1) 1 d_Wk_act_80 rfl rfl rfl ?_
    refine z_iload_n (i := 3) 3 d_Wk_act_81 rfl rfl ?_
    refine z_cV (c := o) (as := [(2, ((p1 : Nat) : Int)), (0, a3)]) (d' := 3) (st := []) d_Wk_act_82 mi_Wk_pins ml_Wk_119 mv_Wk_pins se_Wk_pins rfl rfl rfl rfl (ks_Wk_0 ho) rfl rfl (kl_Wk_0 ho) rfl rfl (z_Omono h (fun r10 g10 _ h hro => ?_))
    have h := h (z_b01 hro)
    have hzr10 := z_b01 hro
    show z_U X 5 m_Wk_act 85 [(0, (2, ((o : Nat) : Int))), (1, (2, ((p1 : Nat) : Int))), (2, (0, a2)), (3, (0, a3))] [(0, r10)] N σ g10 Q
    exact z_zret d_Wk_act_85 rfl (by decide) (by decide) hzr10 ⟨rfl, rfl, h⟩
  have h := h.2
  by_cases c19 : a2 = 5
  · have h := h.1 c19
    refine z_ti c19 ?_
    refine z_tab (off := 85) (tgt := 86) d_Wk_act_1 (by decide) (by decide) (by decide) (by decide) ?_
    refine z_aload_n (i := 0) (c := o) 0 d_Wk_act_86 rfl rfl rfl ?_
    refine z_aload_n (i := 1) (c := p1) 1 d_Wk_act_87 rfl rfl rfl ?_
    refine z_cV (c := o) (as := [(2, ((p1 : Nat) : Int))]) (d' := 3) (st := []) d_Wk_act_88 mi_Wk_lifts ml_Wk_122 mv_Wk_lifts se_Wk_lifts rfl rfl rfl rfl (ks_Wk_0 ho) rfl rfl (kl_Wk_0 ho) rfl rfl (z_Omono h (fun r11 g11 _ h hro => ?_))
    have h := h (z_b01 hro)
    have hzr11 := z_b01 hro
    show z_U X 5 m_Wk_act 91 [(0, (2, ((o : Nat) : Int))), (1, (2, ((p1 : Nat) : Int))), (2, (0, a2)), (3, (0, a3))] [(0, r11)] N σ g11 Q
    exact z_zret d_Wk_act_91 rfl (by decide) (by decide) hzr11 ⟨rfl, rfl, h⟩
  have h := h.2
  by_cases c20 : a2 = 6
  · have h := h.1 c20
    refine z_ti c20 ?_
    refine z_tab (off := 91) (tgt := 92) d_Wk_act_1 (by decide) (by decide) (by decide) (by decide) ?_
    refine z_aload_n (i := 1) (c := p1) 1 d_Wk_act_92 rfl rfl rfl ?_
    refine z_iload_n (i := 3) 3 d_Wk_act_93 rfl rfl ?_
    refine z_cS (as := [(2, ((p1 : Nat) : Int)), (0, a3)]) (d' := 1) (st := []) d_Wk_act_94 mi_Wk_orders ml_Wk_126 ms_Wk_orders rfl rfl rfl rfl rfl (b_Wk_orders_0 hp1 ?_)
    refine ⟨fun c21 => ?_, fun c21 => ?_⟩
    · have h := h.1 c21
      intro _
      show z_U X 5 m_Wk_act 97 [(0, (2, ((o : Nat) : Int))), (1, (2, ((p1 : Nat) : Int))), (2, (0, a2)), (3, (0, a3))] [(0, 0)] N σ g Q
      exact z_zret d_Wk_act_97 rfl (by decide) (by decide) (by decide) ⟨rfl, rfl, h⟩
    · have h := h.2 c21
      intro _
      show z_U X 5 m_Wk_act 97 [(0, (2, ((o : Nat) : Int))), (1, (2, ((p1 : Nat) : Int))), (2, (0, a2)), (3, (0, a3))] [(0, 1)] N σ (z_up g p1 0 a3) Q
      exact z_zret d_Wk_act_97 rfl (by decide) (by decide) (by decide) ⟨rfl, rfl, h⟩
  have h := h.2
  have h := h ⟨c2, c7, c12, c17, c18, c19, c20⟩
  refine z_tabo (tgt := 98) d_Wk_act_1 ((Int.lt_or_le a2 0).elim Or.inl (fun q => Or.inr (z_st (z_st (z_st (z_st (z_st (z_st (z_st q c2) c7) c12) c17) c18) c19) c20))) (by decide) ?_
  refine z_aload_n (i := 0) (c := o) 0 d_Wk_act_98 rfl rfl rfl ?_
  refine z_aload_n (i := 1) (c := p1) 1 d_Wk_act_99 rfl rfl rfl ?_
  refine z_cV (c := o) (as := [(2, ((p1 : Nat) : Int))]) (d' := 4) (st := []) d_Wk_act_100 mi_Wk_wanders ml_Wk_129 mv_Wk_wanders se_Wk_wanders rfl rfl rfl rfl (ks_Wk_0 ho) rfl rfl (kl_Wk_0 ho) rfl rfl (z_Omono h (fun r12 g12 _ h hro => ?_))
  have h := h (z_b01 hro)
  have hzr12 := z_b01 hro
  show z_U X 5 m_Wk_act 103 [(0, (2, ((o : Nat) : Int))), (1, (2, ((p1 : Nat) : Int))), (2, (0, a2)), (3, (0, a3))] [(0, r12)] N σ g12 Q
  exact z_zret d_Wk_act_103 rfl (by decide) (by decide) hzr12 ⟨rfl, rfl, h⟩
theorem d_Wk_lineBehindStep_0 : decode (z_c m_Wk_lineBehindStep) 0 = .ok (.aload_n 1, 1) := by decide +kernel
theorem d_Wk_lineBehindStep_1 : decode (z_c m_Wk_lineBehindStep) 1 = .ok (.getfield 40, 3) := by decide +kernel
theorem d_Wk_lineBehindStep_4 : decode (z_c m_Wk_lineBehindStep) 4 = .ok (.astore_n 3, 1) := by decide +kernel
theorem d_Wk_lineBehindStep_5 : decode (z_c m_Wk_lineBehindStep) 5 = .ok (.aload_n 3, 1) := by decide +kernel
theorem d_Wk_lineBehindStep_6 : decode (z_c m_Wk_lineBehindStep) 6 = .ok (.getfield 50, 3) := by decide +kernel
theorem d_Wk_lineBehindStep_9 : decode (z_c m_Wk_lineBehindStep) 9 = .ok (.iload_n 2, 1) := by decide +kernel
theorem d_Wk_lineBehindStep_10 : decode (z_c m_Wk_lineBehindStep) 10 = .ok (.iaload, 1) := by decide +kernel
theorem d_Wk_lineBehindStep_11 : decode (z_c m_Wk_lineBehindStep) 11 = .ok (.tableswitch 87 8 10 #[25, 48, 82], 25) := by decide +kernel
theorem d_Wk_lineBehindStep_36 : decode (z_c m_Wk_lineBehindStep) 36 = .ok (.aload_n 1, 1) := by decide +kernel
theorem d_Wk_lineBehindStep_37 : decode (z_c m_Wk_lineBehindStep) 37 = .ok (.iload_n 2, 1) := by decide +kernel
theorem d_Wk_lineBehindStep_38 : decode (z_c m_Wk_lineBehindStep) 38 = .ok (.invokestatic 64, 3) := by decide +kernel
theorem d_Wk_lineBehindStep_41 : decode (z_c m_Wk_lineBehindStep) 41 = .ok (.ifCond .eq 9, 3) := by decide +kernel
theorem d_Wk_lineBehindStep_44 : decode (z_c m_Wk_lineBehindStep) 44 = .ok (.iload_n 2, 1) := by decide +kernel
theorem d_Wk_lineBehindStep_45 : decode (z_c m_Wk_lineBehindStep) 45 = .ok (.iconst 1, 1) := by decide +kernel
theorem d_Wk_lineBehindStep_46 : decode (z_c m_Wk_lineBehindStep) 46 = .ok (.iadd, 1) := by decide +kernel
theorem d_Wk_lineBehindStep_47 : decode (z_c m_Wk_lineBehindStep) 47 = .ok (.goto 11, 3) := by decide +kernel
theorem d_Wk_lineBehindStep_50 : decode (z_c m_Wk_lineBehindStep) 50 = .ok (.aload_n 3, 1) := by decide +kernel
theorem d_Wk_lineBehindStep_51 : decode (z_c m_Wk_lineBehindStep) 51 = .ok (.getfield 61, 3) := by decide +kernel
theorem d_Wk_lineBehindStep_54 : decode (z_c m_Wk_lineBehindStep) 54 = .ok (.iload_n 2, 1) := by decide +kernel
theorem d_Wk_lineBehindStep_55 : decode (z_c m_Wk_lineBehindStep) 55 = .ok (.iaload, 1) := by decide +kernel
theorem d_Wk_lineBehindStep_56 : decode (z_c m_Wk_lineBehindStep) 56 = .ok (.iconst 1, 1) := by decide +kernel
theorem d_Wk_lineBehindStep_57 : decode (z_c m_Wk_lineBehindStep) 57 = .ok (.iadd, 1) := by decide +kernel
theorem d_Wk_lineBehindStep_58 : decode (z_c m_Wk_lineBehindStep) 58 = .ok (.ireturn, 1) := by decide +kernel
theorem d_Wk_lineBehindStep_59 : decode (z_c m_Wk_lineBehindStep) 59 = .ok (.aload_n 0, 1) := by decide +kernel
theorem d_Wk_lineBehindStep_60 : decode (z_c m_Wk_lineBehindStep) 60 = .ok (.getfield 11, 3) := by decide +kernel
theorem d_Wk_lineBehindStep_63 : decode (z_c m_Wk_lineBehindStep) 63 = .ok (.iload_n 2, 1) := by decide +kernel
theorem d_Wk_lineBehindStep_64 : decode (z_c m_Wk_lineBehindStep) 64 = .ok (.aload_n 3, 1) := by decide +kernel
theorem d_Wk_lineBehindStep_65 : decode (z_c m_Wk_lineBehindStep) 65 = .ok (.getfield 68, 3) := by decide +kernel
theorem d_Wk_lineBehindStep_68 : decode (z_c m_Wk_lineBehindStep) 68 = .ok (.iload_n 2, 1) := by decide +kernel
theorem d_Wk_lineBehindStep_69 : decode (z_c m_Wk_lineBehindStep) 69 = .ok (.iaload, 1) := by decide +kernel
theorem d_Wk_lineBehindStep_70 : decode (z_c m_Wk_lineBehindStep) 70 = .ok (.iastore, 1) := by decide +kernel
theorem d_Wk_lineBehindStep_71 : decode (z_c m_Wk_lineBehindStep) 71 = .ok (.aload_n 3, 1) := by decide +kernel
theorem d_Wk_lineBehindStep_72 : decode (z_c m_Wk_lineBehindStep) 72 = .ok (.getfield 61, 3) := by decide +kernel
theorem d_Wk_lineBehindStep_75 : decode (z_c m_Wk_lineBehindStep) 75 = .ok (.iload_n 2, 1) := by decide +kernel
theorem d_Wk_lineBehindStep_76 : decode (z_c m_Wk_lineBehindStep) 76 = .ok (.iaload, 1) := by decide +kernel
theorem d_Wk_lineBehindStep_77 : decode (z_c m_Wk_lineBehindStep) 77 = .ok (.iload_n 2, 1) := by decide +kernel
theorem d_Wk_lineBehindStep_78 : decode (z_c m_Wk_lineBehindStep) 78 = .ok (.iconst 1, 1) := by decide +kernel
theorem d_Wk_lineBehindStep_79 : decode (z_c m_Wk_lineBehindStep) 79 = .ok (.iadd, 1) := by decide +kernel
theorem d_Wk_lineBehindStep_80 : decode (z_c m_Wk_lineBehindStep) 80 = .ok (.if_icmp .ne 9, 3) := by decide +kernel
theorem d_Wk_lineBehindStep_83 : decode (z_c m_Wk_lineBehindStep) 83 = .ok (.iload_n 2, 1) := by decide +kernel
theorem d_Wk_lineBehindStep_84 : decode (z_c m_Wk_lineBehindStep) 84 = .ok (.iconst 2, 1) := by decide +kernel
theorem d_Wk_lineBehindStep_85 : decode (z_c m_Wk_lineBehindStep) 85 = .ok (.iadd, 1) := by decide +kernel
theorem d_Wk_lineBehindStep_86 : decode (z_c m_Wk_lineBehindStep) 86 = .ok (.goto 6, 3) := by decide +kernel
theorem d_Wk_lineBehindStep_89 : decode (z_c m_Wk_lineBehindStep) 89 = .ok (.iload_n 2, 1) := by decide +kernel
theorem d_Wk_lineBehindStep_90 : decode (z_c m_Wk_lineBehindStep) 90 = .ok (.iconst 1, 1) := by decide +kernel
theorem d_Wk_lineBehindStep_91 : decode (z_c m_Wk_lineBehindStep) 91 = .ok (.iadd, 1) := by decide +kernel
theorem d_Wk_lineBehindStep_92 : decode (z_c m_Wk_lineBehindStep) 92 = .ok (.ireturn, 1) := by decide +kernel
theorem d_Wk_lineBehindStep_93 : decode (z_c m_Wk_lineBehindStep) 93 = .ok (.aload_n 3, 1) := by decide +kernel
theorem d_Wk_lineBehindStep_94 : decode (z_c m_Wk_lineBehindStep) 94 = .ok (.getfield 47, 3) := by decide +kernel
theorem d_Wk_lineBehindStep_97 : decode (z_c m_Wk_lineBehindStep) 97 = .ok (.ireturn, 1) := by decide +kernel
theorem d_Wk_lineBehindStep_98 : decode (z_c m_Wk_lineBehindStep) 98 = .ok (.aload_n 0, 1) := by decide +kernel
theorem d_Wk_lineBehindStep_99 : decode (z_c m_Wk_lineBehindStep) 99 = .ok (.aload_n 1, 1) := by decide +kernel
theorem d_Wk_lineBehindStep_100 : decode (z_c m_Wk_lineBehindStep) 100 = .ok (.aload_n 3, 1) := by decide +kernel
theorem d_Wk_lineBehindStep_101 : decode (z_c m_Wk_lineBehindStep) 101 = .ok (.getfield 50, 3) := by decide +kernel
theorem d_Wk_lineBehindStep_104 : decode (z_c m_Wk_lineBehindStep) 104 = .ok (.iload_n 2, 1) := by decide +kernel
theorem d_Wk_lineBehindStep_105 : decode (z_c m_Wk_lineBehindStep) 105 = .ok (.iaload, 1) := by decide +kernel
theorem d_Wk_lineBehindStep_106 : decode (z_c m_Wk_lineBehindStep) 106 = .ok (.aload_n 3, 1) := by decide +kernel
theorem d_Wk_lineBehindStep_107 : decode (z_c m_Wk_lineBehindStep) 107 = .ok (.getfield 68, 3) := by decide +kernel
theorem d_Wk_lineBehindStep_110 : decode (z_c m_Wk_lineBehindStep) 110 = .ok (.iload_n 2, 1) := by decide +kernel
theorem d_Wk_lineBehindStep_111 : decode (z_c m_Wk_lineBehindStep) 111 = .ok (.iaload, 1) := by decide +kernel
theorem d_Wk_lineBehindStep_112 : decode (z_c m_Wk_lineBehindStep) 112 = .ok (.invokevirtual 71, 3) := by decide +kernel
theorem d_Wk_lineBehindStep_115 : decode (z_c m_Wk_lineBehindStep) 115 = .ok (.ifCond .ne 13, 3) := by decide +kernel
theorem d_Wk_lineBehindStep_118 : decode (z_c m_Wk_lineBehindStep) 118 = .ok (.aload_n 0, 1) := by decide +kernel
theorem d_Wk_lineBehindStep_119 : decode (z_c m_Wk_lineBehindStep) 119 = .ok (.dup, 1) := by decide +kernel
theorem d_Wk_lineBehindStep_120 : decode (z_c m_Wk_lineBehindStep) 120 = .ok (.getfield 21, 3) := by decide +kernel
theorem d_Wk_lineBehindStep_123 : decode (z_c m_Wk_lineBehindStep) 123 = .ok (.iconst 1, 1) := by decide +kernel
theorem d_Wk_lineBehindStep_124 : decode (z_c m_Wk_lineBehindStep) 124 = .ok (.iadd, 1) := by decide +kernel
theorem d_Wk_lineBehindStep_125 : decode (z_c m_Wk_lineBehindStep) 125 = .ok (.putfield 21, 3) := by decide +kernel
theorem d_Wk_lineBehindStep_128 : decode (z_c m_Wk_lineBehindStep) 128 = .ok (.iload_n 2, 1) := by decide +kernel
theorem d_Wk_lineBehindStep_129 : decode (z_c m_Wk_lineBehindStep) 129 = .ok (.iconst 1, 1) := by decide +kernel
theorem d_Wk_lineBehindStep_130 : decode (z_c m_Wk_lineBehindStep) 130 = .ok (.iadd, 1) := by decide +kernel
theorem d_Wk_lineBehindStep_131 : decode (z_c m_Wk_lineBehindStep) 131 = .ok (.ireturn, 1) := by decide +kernel
set_option maxRecDepth 8000 in
theorem b_Wk_lineBehindStep_0 {X : z_X} {N : Nat} {σ g : z_G} {Q : z_P} {a2 : Int} {o p1 : Nat} (ho : z_lay X N σ o z_SWk z_RWk) (hp1 : z_lay X N σ p1 z_SBd z_RBd) (h : (0 ≤ a2 ∧ a2 < 60) ∧ ((((g (p1 + 9) a2) = 8) → (z_O X 3 m_Wk_holds [(2, ((p1 : Nat) : Int)), (0, a2)] N σ g (fun r0 g0 => (r0 = 0 ∨ r0 = 1) → (((r0 = 0) → ((-2147483648 ≤ ((g0 (p1 + 13) a2) + 1) ∧ ((g0 (p1 + 13) a2) + 1) ≤ 2147483647) ∧ Q ((g0 (p1 + 13) a2) + 1) g0)) ∧ (¬ (r0 = 0) → ((-2147483648 ≤ (a2 + 1) ∧ (a2 + 1) ≤ 2147483647) ∧ Q (a2 + 1) g0)))))) ∧ (((g (p1 + 9) a2) = 9) → ((-2147483648 ≤ (a2 + 1) ∧ (a2 + 1) ≤ 2147483647) ∧ (((((z_up g (o + 1) a2 (g (p1 + 11) a2)) (p1 + 13) a2) = (a2 + 1)) → ((-2147483648 ≤ (a2 + 2) ∧ (a2 + 2) ≤ 2147483647) ∧ Q (a2 + 2) (z_up g (o + 1) a2 (g (p1 + 11) a2)))) ∧ (¬ (((z_up g (o + 1) a2 (g (p1 + 11) a2)) (p1 + 13) a2) = (a2 + 1)) → Q (a2 + 1) (z_up g (o + 1) a2 (g (p1 + 11) a2)))))) ∧ (((g (p1 + 9) a2) = 10) → Q (g (p1 + 8) 2) g) ∧ ((¬ ((g (p1 + 9) a2) = 8) ∧ ¬ ((g (p1 + 9) a2) = 9) ∧ ¬ ((g (p1 + 9) a2) = 10)) → (z_O X 5 m_Wk_act [(2, ((o : Nat) : Int)), (2, ((p1 : Nat) : Int)), (0, g (p1 + 9) a2), (0, g (p1 + 11) a2)] N σ g (fun r1 g1 => (r1 = 0 ∨ r1 = 1) → (((r1 = 0) → ((-2147483648 ≤ ((g1 o 1) + 1) ∧ ((g1 o 1) + 1) ≤ 2147483647) ∧ ((-2147483648 ≤ (a2 + 1) ∧ (a2 + 1) ≤ 2147483647) ∧ Q (a2 + 1) (z_up g1 o 1 ((g1 o 1) + 1))))) ∧ (¬ (r1 = 0) → ((-2147483648 ≤ (a2 + 1) ∧ (a2 + 1) ≤ 2147483647) ∧ Q (a2 + 1) g1)))))))) : z_O X 6 m_Wk_lineBehindStep [(2, ((o : Nat) : Int)), (2, ((p1 : Nat) : Int)), (0, a2)] N σ g Q := by
  refine z_Oenter mi_Wk_lineBehindStep rfl (fun _ => ?_)
  show z_U X 6 m_Wk_lineBehindStep 0 [(0, (2, ((o : Nat) : Int))), (1, (2, ((p1 : Nat) : Int))), (2, (0, a2))] [] N σ g Q
  refine z_aload_n (i := 1) (c := p1) 1 d_Wk_lineBehindStep_0 rfl rfl rfl ?_
  refine z_getr (c := p1) (kI := 5) (r2 := ((p1 + 8 : Nat) : Int)) d_Wk_lineBehindStep_1 fd_Bd_program fl_Wk_40 rfl rfl rfl (ks_Bd_0 hp1) (kl_Bd_0 hp1) (kr_Bd_0_5 hp1) ?_
  refine z_astore_n (i := 3) (c := (p1 + 8)) (ls' := [(3, (2, ((p1 + 8 : Nat) : Int))), (0, (2, ((o : Nat) : Int))), (1, (2, ((p1 : Nat) : Int))), (2, (0, a2))]) d_Wk_lineBehindStep_4 rfl rfl rfl rfl ?_
  refine z_aload_n (i := 3) (c := (p1 + 8)) 0 d_Wk_lineBehindStep_5 rfl rfl rfl ?_
  refine z_getr (c := (p1 + 8)) (kI := 3) (r2 := ((p1 + 9 : Nat) : Int)) d_Wk_lineBehindStep_6 fd_Pg_kinds fl_Wk_50 rfl rfl rfl (ks_Bd_8 hp1) (kl_Bd_8 hp1) (kr_Bd_8_3 hp1) ?_
  refine z_iload_n (i := 2) 3 d_Wk_lineBehindStep_9 rfl rfl ?_
  obtain ⟨c1, h⟩ := h
  refine z_iald (c := (p1 + 9)) (m := 60) d_Wk_lineBehindStep_10 rfl (ks_Bd_9 hp1) (kl_Bd_9 hp1) rfl (by decide) c1 ?_
  by_cases c3 : (g (p1 + 9) a2) = 8
  · have h := h.1 c3
    refine z_ti c3 ?_
    refine z_tab (off := 25) (tgt := 36) d_Wk_lineBehindStep_11 (by decide) (by decide) (by decide) (by decide) ?_
    refine z_aload_n (i := 1) (c := p1) 2 d_Wk_lineBehindStep_36 rfl rfl rfl ?_
    refine z_iload_n (i := 2) 3 d_Wk_lineBehindStep_37 rfl rfl ?_
    refine z_cS (as := [(2, ((p1 : Nat) : Int)), (0, a2)]) (d' := 3) (st := []) d_Wk_lineBehindStep_38 mi_Wk_holds ml_Wk_64 ms_Wk_holds rfl rfl rfl rfl rfl (z_Omono h (fun r0 g0 _ h hro => ?_))
    have h := h (z_b01 hro)
    have hzr0 := z_b01 hro
    show z_U X 6 m_Wk_lineBehindStep 41 [(3, (2, ((p1 + 8 : Nat) : Int))), (0, (2, ((o : Nat) : Int))), (1, (2, ((p1 : Nat) : Int))), (2, (0, a2))] [(0, r0)] N σ g0 Q
    refine z_if_eq (tgt := 50) d_Wk_lineBehindStep_41 (by decide) (fun c4 => ?_) (fun c4 => ?_)
    · have h := h.1 c4
      refine z_aload_n (i := 3) (c := (p1 + 8)) 0 d_Wk_lineBehindStep_50 rfl rfl rfl ?_
      refine z_getr (c := (p1 + 8)) (kI := 7) (r2 := ((p1 + 13 : Nat) : Int)) d_Wk_lineBehindStep_51 fd_Pg_mates fl_Wk_61 rfl rfl rfl (ks_Bd_8 hp1) (kl_Bd_8 hp1) (kr_Bd_8_7 hp1) ?_
      refine z_iload_n (i := 2) 3 d_Wk_lineBehindStep_54 rfl rfl ?_
      refine z_iald (c := (p1 + 13)) (m := 60) d_Wk_lineBehindStep_55 rfl (ks_Bd_13 hp1) (kl_Bd_13 hp1) rfl (by decide) c1 ?_
      refine z_iconst (n := 1) d_Wk_lineBehindStep_56 (by decide) ?_
      obtain ⟨c5, h⟩ := h
      refine z_iadd d_Wk_lineBehindStep_57 c5 ?_
      exact z_iret d_Wk_lineBehindStep_58 rfl (by decide) (by decide) ⟨rfl, rfl, h⟩
    · have h := h.2 c4
      refine z_iload_n (i := 2) 3 d_Wk_lineBehindStep_44 rfl rfl ?_
      refine z_iconst (n := 1) d_Wk_lineBehindStep_45 (by decide) ?_
      obtain ⟨c6, h⟩ := h
      refine z_iadd d_Wk_lineBehindStep_46 c6 ?_
      refine z_goto (tgt := 58) d_Wk_lineBehindStep_47 (by decide) ?_
      exact z_iret d_Wk_lineBehindStep_58 rfl (by decide) (by decide) ⟨rfl, rfl, h⟩
  have h := h.2
  by_cases c7 : (g (p1 + 9) a2) = 9
  · have h := h.1 c7
    refine z_ti c7 ?_
    refine z_tab (off := 48) (tgt := 59) d_Wk_lineBehindStep_11 (by decide) (by decide) (by decide) (by decide) ?_
    refine z_aload_n (i := 0) (c := o) 1 d_Wk_lineBehindStep_59 rfl rfl rfl ?_
    refine z_getr (c := o) (kI := 7) (r2 := ((o + 1 : Nat) : Int)) d_Wk_lineBehindStep_60 fd_Wk_rounds fl_Wk_11 rfl rfl rfl (ks_Wk_0 ho) (kl_Wk_0 ho) (kr_Wk_0_7 ho) ?_
    refine z_iload_n (i := 2) 3 d_Wk_lineBehindStep_63 rfl rfl ?_
    refine z_aload_n (i := 3) (c := (p1 + 8)) 0 d_Wk_lineBehindStep_64 rfl rfl rfl ?_
    refine z_getr (c := (p1 + 8)) (kI := 5) (r2 := ((p1 + 11 : Nat) : Int)) d_Wk_lineBehindStep_65 fd_Pg_firsts fl_Wk_68 rfl rfl rfl (ks_Bd_8 hp1) (kl_Bd_8 hp1) (kr_Bd_8_5 hp1) ?_
    refine z_iload_n (i := 2) 3 d_Wk_lineBehindStep_68 rfl rfl ?_
    refine z_iald (c := (p1 + 11)) (m := 60) d_Wk_lineBehindStep_69 rfl (ks_Bd_11 hp1) (kl_Bd_11 hp1) rfl (by decide) c1 ?_
    refine z_iast (c := (o + 1)) (m := 60) d_Wk_lineBehindStep_70 rfl (ks_Wk_1 ho) (kl_Wk_1 ho) rfl (by decide) c1 ?_
    refine z_aload_n (i := 3) (c := (p1 + 8)) 0 d_Wk_lineBehindStep_71 rfl rfl rfl ?_
    refine z_getr (c := (p1 + 8)) (kI := 7) (r2 := ((p1 + 13 : Nat) : Int)) d_Wk_lineBehindStep_72 fd_Pg_mates fl_Wk_61 rfl rfl rfl (ks_Bd_8 hp1) (kl_Bd_8 hp1) (kr_Bd_8_7 hp1) ?_
    refine z_iload_n (i := 2) 3 d_Wk_lineBehindStep_75 rfl rfl ?_
    refine z_iald (c := (p1 + 13)) (m := 60) d_Wk_lineBehindStep_76 rfl (ks_Bd_13 hp1) (kl_Bd_13 hp1) rfl (by decide) c1 ?_
    refine z_iload_n (i := 2) 3 d_Wk_lineBehindStep_77 rfl rfl ?_
    refine z_iconst (n := 1) d_Wk_lineBehindStep_78 (by decide) ?_
    obtain ⟨c8, h⟩ := h
    refine z_iadd d_Wk_lineBehindStep_79 c8 ?_
    refine z_icmp_ne (tgt := 89) d_Wk_lineBehindStep_80 (by decide) (fun c9 => ?_) (fun c9 => ?_)
    · have h := h.2 c9
      refine z_iload_n (i := 2) 3 d_Wk_lineBehindStep_89 rfl rfl ?_
      refine z_iconst (n := 1) d_Wk_lineBehindStep_90 (by decide) ?_
      refine z_iadd d_Wk_lineBehindStep_91 c8 ?_
      exact z_iret d_Wk_lineBehindStep_92 rfl (by decide) (by decide) ⟨rfl, rfl, h⟩
    · have h := h.1 c9
      refine z_iload_n (i := 2) 3 d_Wk_lineBehindStep_83 rfl rfl ?_
      refine z_iconst (n := 2) d_Wk_lineBehindStep_84 (by decide) ?_
      obtain ⟨c10, h⟩ := h
      refine z_iadd d_Wk_lineBehindStep_85 c10 ?_
      refine z_goto (tgt := 92) d_Wk_lineBehindStep_86 (by decide) ?_
      exact z_iret d_Wk_lineBehindStep_92 rfl (by decide) (by decide) ⟨rfl, rfl, h⟩
  have h := h.2
  by_cases c11 : (g (p1 + 9) a2) = 10
  · have h := h.1 c11
    refine z_ti c11 ?_
    refine z_tab (off := 82) (tgt := 93) d_Wk_lineBehindStep_11 (by decide) (by decide) (by decide) (by decide) ?_
    refine z_aload_n (i := 3) (c := (p1 + 8)) 0 d_Wk_lineBehindStep_93 rfl rfl rfl ?_
    refine z_geti (c := (p1 + 8)) (kI := 2) d_Wk_lineBehindStep_94 fd_Pg_lines fl_Wk_47 (Or.inl rfl) rfl rfl (ks_Bd_8 hp1) (kl_Bd_8 hp1) ?_
    exact z_iret d_Wk_lineBehindStep_97 rfl (by decide) (by decide) ⟨rfl, rfl, h⟩
  have h := h.2
  have h := h ⟨c3, c7, c11⟩
  refine z_tabo (tgt := 98) d_Wk_lineBehindStep_11 ((Int.lt_or_le (g (p1 + 9) a2) 8).elim Or.inl (fun q => Or.inr (z_st (z_st (z_st q c3) c7) c11))) (by decide) ?_
  refine z_aload_n (i := 0) (c := o) 1 d_Wk_lineBehindStep_98 rfl rfl rfl ?_
  refine z_aload_n (i := 1) (c := p1) 2 d_Wk_lineBehindStep_99 rfl rfl rfl ?_
  refine z_aload_n (i := 3) (c := (p1 + 8)) 0 d_Wk_lineBehindStep_100 rfl rfl rfl ?_
  refine z_getr (c := (p1 + 8)) (kI := 3) (r2 := ((p1 + 9 : Nat) : Int)) d_Wk_lineBehindStep_101 fd_Pg_kinds fl_Wk_50 rfl rfl rfl (ks_Bd_8 hp1) (kl_Bd_8 hp1) (kr_Bd_8_3 hp1) ?_
  refine z_iload_n (i := 2) 3 d_Wk_lineBehindStep_104 rfl rfl ?_
  refine z_iald (c := (p1 + 9)) (m := 60) d_Wk_lineBehindStep_105 rfl (ks_Bd_9 hp1) (kl_Bd_9 hp1) rfl (by decide) c1 ?_
  refine z_aload_n (i := 3) (c := (p1 + 8)) 0 d_Wk_lineBehindStep_106 rfl rfl rfl ?_
  refine z_getr (c := (p1 + 8)) (kI := 5) (r2 := ((p1 + 11 : Nat) : Int)) d_Wk_lineBehindStep_107 fd_Pg_firsts fl_Wk_68 rfl rfl rfl (ks_Bd_8 hp1) (kl_Bd_8 hp1) (kr_Bd_8_5 hp1) ?_
  refine z_iload_n (i := 2) 3 d_Wk_lineBehindStep_110 rfl rfl ?_
  refine z_iald (c := (p1 + 11)) (m := 60) d_Wk_lineBehindStep_111 rfl (ks_Bd_11 hp1) (kl_Bd_11 hp1) rfl (by decide) c1 ?_
  refine z_cV (c := o) (as := [(2, ((p1 : Nat) : Int)), (0, g (p1 + 9) a2), (0, g (p1 + 11) a2)]) (d' := 5) (st := []) d_Wk_lineBehindStep_112 mi_Wk_act ml_Wk_71 mv_Wk_act se_Wk_act rfl rfl rfl rfl (ks_Wk_0 ho) rfl rfl (kl_Wk_0 ho) rfl rfl (z_Omono h (fun r1 g1 _ h hro => ?_))
  have h := h (z_b01 hro)
  have hzr1 := z_b01 hro
  show z_U X 6 m_Wk_lineBehindStep 115 [(3, (2, ((p1 + 8 : Nat) : Int))), (0, (2, ((o : Nat) : Int))), (1, (2, ((p1 : Nat) : Int))), (2, (0, a2))] [(0, r1)] N σ g1 Q
  refine z_if_ne (tgt := 128) d_Wk_lineBehindStep_115 (by decide) (fun c12 => ?_) (fun c12 => ?_)
  · have h := h.2 c12
    refine z_iload_n (i := 2) 3 d_Wk_lineBehindStep_128 rfl rfl ?_
    refine z_iconst (n := 1) d_Wk_lineBehindStep_129 (by decide) ?_
    obtain ⟨c13, h⟩ := h
    refine z_iadd d_Wk_lineBehindStep_130 c13 ?_
    exact z_iret d_Wk_lineBehindStep_131 rfl (by decide) (by decide) ⟨rfl, rfl, h⟩
  · have h := h.1 c12
    refine z_aload_n (i := 0) (c := o) 1 d_Wk_lineBehindStep_118 rfl rfl rfl ?_
    refine z_dup d_Wk_lineBehindStep_119 rfl ?_
    refine z_geti (c := o) (kI := 1) d_Wk_lineBehindStep_120 fd_Wk_missed fl_Wk_21 (Or.inl rfl) rfl rfl (ks_Wk_0 ho) (kl_Wk_0 ho) ?_
    refine z_iconst (n := 1) d_Wk_lineBehindStep_123 (by decide) ?_
    obtain ⟨c14, h⟩ := h
    refine z_iadd d_Wk_lineBehindStep_124 c14 ?_
    refine z_puti (c := o) (kI := 1) d_Wk_lineBehindStep_125 fd_Wk_missed fl_Wk_21 pf_Wk_missed rfl rfl rfl rfl (ks_Wk_0 ho) (kl_Wk_0 ho) ?_
    refine z_iload_n (i := 2) 3 d_Wk_lineBehindStep_128 rfl rfl ?_
    refine z_iconst (n := 1) d_Wk_lineBehindStep_129 (by decide) ?_
    obtain ⟨c15, h⟩ := h
    refine z_iadd d_Wk_lineBehindStep_130 c15 ?_
    exact z_iret d_Wk_lineBehindStep_131 rfl (by decide) (by decide) ⟨rfl, rfl, h⟩
theorem d_Ta_isWord_0 : decode (z_c m_Ta_isWord) 0 = .ok (.aload_n 0, 1) := by decide +kernel
theorem d_Ta_isWord_1 : decode (z_c m_Ta_isWord) 1 = .ok (.getfield 50, 3) := by decide +kernel
theorem d_Ta_isWord_4 : decode (z_c m_Ta_isWord) 4 = .ok (.iconst 1, 1) := by decide +kernel
theorem d_Ta_isWord_5 : decode (z_c m_Ta_isWord) 5 = .ok (.if_icmp .ne 19, 3) := by decide +kernel
theorem d_Ta_isWord_8 : decode (z_c m_Ta_isWord) 8 = .ok (.aload_n 0, 1) := by decide +kernel
theorem d_Ta_isWord_9 : decode (z_c m_Ta_isWord) 9 = .ok (.getfield 31, 3) := by decide +kernel
theorem d_Ta_isWord_12 : decode (z_c m_Ta_isWord) 12 = .ok (.aload_n 0, 1) := by decide +kernel
theorem d_Ta_isWord_13 : decode (z_c m_Ta_isWord) 13 = .ok (.getfield 43, 3) := by decide +kernel
theorem d_Ta_isWord_16 : decode (z_c m_Ta_isWord) 16 = .ok (.isub, 1) := by decide +kernel
theorem d_Ta_isWord_17 : decode (z_c m_Ta_isWord) 17 = .ok (.aload_n 1, 1) := by decide +kernel
theorem d_Ta_isWord_18 : decode (z_c m_Ta_isWord) 18 = .ok (.invokevirtual 56, 3) := by decide +kernel
theorem d_Ta_isWord_21 : decode (z_c m_Ta_isWord) 21 = .ok (.if_icmp .eq 5, 3) := by decide +kernel
theorem d_Ta_isWord_24 : decode (z_c m_Ta_isWord) 24 = .ok (.iconst 0, 1) := by decide +kernel
theorem d_Ta_isWord_25 : decode (z_c m_Ta_isWord) 25 = .ok (.ireturn, 1) := by decide +kernel
theorem d_Ta_isWord_26 : decode (z_c m_Ta_isWord) 26 = .ok (.iconst 0, 1) := by decide +kernel
theorem d_Ta_isWord_27 : decode (z_c m_Ta_isWord) 27 = .ok (.istore_n 2, 1) := by decide +kernel
theorem d_Ta_isWord_28 : decode (z_c m_Ta_isWord) 28 = .ok (.iload_n 2, 1) := by decide +kernel
theorem d_Ta_isWord_29 : decode (z_c m_Ta_isWord) 29 = .ok (.aload_n 1, 1) := by decide +kernel
theorem d_Ta_isWord_30 : decode (z_c m_Ta_isWord) 30 = .ok (.invokevirtual 56, 3) := by decide +kernel
theorem d_Ta_isWord_33 : decode (z_c m_Ta_isWord) 33 = .ok (.if_icmp .ge 44, 3) := by decide +kernel
theorem d_Ta_isWord_36 : decode (z_c m_Ta_isWord) 36 = .ok (.aload_n 0, 1) := by decide +kernel
theorem d_Ta_isWord_37 : decode (z_c m_Ta_isWord) 37 = .ok (.getfield 43, 3) := by decide +kernel
theorem d_Ta_isWord_40 : decode (z_c m_Ta_isWord) 40 = .ok (.iload_n 2, 1) := by decide +kernel
theorem d_Ta_isWord_41 : decode (z_c m_Ta_isWord) 41 = .ok (.iadd, 1) := by decide +kernel
theorem d_Ta_isWord_42 : decode (z_c m_Ta_isWord) 42 = .ok (.aload_n 0, 1) := by decide +kernel
theorem d_Ta_isWord_43 : decode (z_c m_Ta_isWord) 43 = .ok (.getfield 9, 3) := by decide +kernel
theorem d_Ta_isWord_46 : decode (z_c m_Ta_isWord) 46 = .ok (.arraylength, 1) := by decide +kernel
theorem d_Ta_isWord_47 : decode (z_c m_Ta_isWord) 47 = .ok (.if_icmp .ge 22, 3) := by decide +kernel
theorem d_Ta_isWord_50 : decode (z_c m_Ta_isWord) 50 = .ok (.aload_n 0, 1) := by decide +kernel
theorem d_Ta_isWord_51 : decode (z_c m_Ta_isWord) 51 = .ok (.getfield 9, 3) := by decide +kernel
theorem d_Ta_isWord_54 : decode (z_c m_Ta_isWord) 54 = .ok (.aload_n 0, 1) := by decide +kernel
theorem d_Ta_isWord_55 : decode (z_c m_Ta_isWord) 55 = .ok (.getfield 43, 3) := by decide +kernel
theorem d_Ta_isWord_58 : decode (z_c m_Ta_isWord) 58 = .ok (.iload_n 2, 1) := by decide +kernel
theorem d_Ta_isWord_59 : decode (z_c m_Ta_isWord) 59 = .ok (.iadd, 1) := by decide +kernel
theorem d_Ta_isWord_60 : decode (z_c m_Ta_isWord) 60 = .ok (.caload, 1) := by decide +kernel
theorem d_Ta_isWord_61 : decode (z_c m_Ta_isWord) 61 = .ok (.aload_n 1, 1) := by decide +kernel
theorem d_Ta_isWord_62 : decode (z_c m_Ta_isWord) 62 = .ok (.iload_n 2, 1) := by decide +kernel
theorem d_Ta_isWord_63 : decode (z_c m_Ta_isWord) 63 = .ok (.invokevirtual 61, 3) := by decide +kernel
theorem d_Ta_isWord_66 : decode (z_c m_Ta_isWord) 66 = .ok (.if_icmp .eq 5, 3) := by decide +kernel
theorem d_Ta_isWord_69 : decode (z_c m_Ta_isWord) 69 = .ok (.iconst 0, 1) := by decide +kernel
theorem d_Ta_isWord_70 : decode (z_c m_Ta_isWord) 70 = .ok (.ireturn, 1) := by decide +kernel
theorem d_Ta_isWord_71 : decode (z_c m_Ta_isWord) 71 = .ok (.iinc 2 1, 3) := by decide +kernel
theorem d_Ta_isWord_74 : decode (z_c m_Ta_isWord) 74 = .ok (.goto (-46), 3) := by decide +kernel
theorem d_Ta_isWord_77 : decode (z_c m_Ta_isWord) 77 = .ok (.iconst 1, 1) := by decide +kernel
theorem d_Ta_isWord_78 : decode (z_c m_Ta_isWord) 78 = .ok (.ireturn, 1) := by decide +kernel
abbrev L_Ta_isWord_28 (X : z_X) (N : Nat) (σ : z_G) (x1 x2 : Int) (g : z_G) (Q : z_P) : Prop := z_U X 7 m_Ta_isWord 28 [(0, (2, 10)), (1, (4, x1)), (2, (0, x2))] [] N σ g Q
set_option maxRecDepth 8000 in
theorem b_Ta_isWord_0 {X : z_X} {N : Nat} {σ g : z_G} {Q : z_P} {a1 : Int} (hx : z_lay X N σ 0 z_SF z_RF) (h : (((g 10 4) = 1) → ((-2147483648 ≤ ((g 10 3) - (g 10 6)) ∧ ((g 10 3) - (g 10 6)) ≤ 2147483647) ∧ ((0 ≤ a1 ∧ a1 < 21) ∧ (z_O X 3 m_St_length [(4, a1)] N σ g (fun r0 g0 => (((((g 10 3) - (g 10 6)) = r0) → L_Ta_isWord_28 X N σ a1 0 g0 Q) ∧ (¬ (((g 10 3) - (g 10 6)) = r0) → Q 0 g0))))))) ∧ (¬ ((g 10 4) = 1) → Q 0 g)) : z_O X 7 m_Ta_isWord [(2, 10), (4, a1)] N σ g Q := by
  refine z_Oenter mi_Ta_isWord rfl (fun _ => ?_)
  show z_U X 7 m_Ta_isWord 0 [(0, (2, 10)), (1, (4, a1))] [] N σ g Q
  refine z_aload_n (i := 0) (c := 10) 0 d_Ta_isWord_0 rfl rfl rfl ?_
  refine z_geti (c := 10) (kI := 4) d_Ta_isWord_1 fd_Ta_kind fl_Ta_50 (Or.inl rfl) rfl rfl (ks_F_10 hx) (kl_F_10 hx) ?_
  refine z_iconst (n := 1) d_Ta_isWord_4 (by decide) ?_
  refine z_icmp_ne (tgt := 24) d_Ta_isWord_5 (by decide) (fun c1 => ?_) (fun c1 => ?_)
  · have h := h.2 c1
    refine z_iconst (n := 0) d_Ta_isWord_24 (by decide) ?_
    exact z_zret d_Ta_isWord_25 rfl (by decide) (by decide) (by decide) ⟨rfl, rfl, h⟩
  · have h := h.1 c1
    refine z_aload_n (i := 0) (c := 10) 0 d_Ta_isWord_8 rfl rfl rfl ?_
    refine z_geti (c := 10) (kI := 3) d_Ta_isWord_9 fd_Ta_behind fl_Ta_31 (Or.inl rfl) rfl rfl (ks_F_10 hx) (kl_F_10 hx) ?_
    refine z_aload_n (i := 0) (c := 10) 0 d_Ta_isWord_12 rfl rfl rfl ?_
    refine z_geti (c := 10) (kI := 6) d_Ta_isWord_13 fd_Ta_at fl_Ta_43 (Or.inl rfl) rfl rfl (ks_F_10 hx) (kl_F_10 hx) ?_
    obtain ⟨c2, h⟩ := h
    refine z_isub d_Ta_isWord_16 c2 ?_
    refine z_sload_n (i := 1) 1 d_Ta_isWord_17 rfl rfl ?_
    obtain ⟨c3, h⟩ := h
    refine z_cVs (as := []) (d' := 3) (st := [(0, (g 10 3) - (g 10 6))]) d_Ta_isWord_18 mi_St_length ml_Ta_56 mv_St_length se_St_length rfl rfl rfl rfl rfl c3 rfl (z_Omono h (fun r0 g0 _ h hro => ?_))
    show z_U X 7 m_Ta_isWord 21 [(0, (2, 10)), (1, (4, a1))] [(0, r0), (0, (g 10 3) - (g 10 6))] N σ g0 Q
    refine z_icmp_eq (tgt := 26) d_Ta_isWord_21 (by decide) (fun c4 => ?_) (fun c4 => ?_)
    · have h := h.1 c4
      refine z_iconst (n := 0) d_Ta_isWord_26 (by decide) ?_
      refine z_istore_n (i := 2) (ls' := [(2, (0, 0)), (0, (2, 10)), (1, (4, a1))]) d_Ta_isWord_27 rfl rfl rfl ?_
      refine z_sub (ls' := [(0, (2, 10)), (1, (4, a1)), (2, (0, 0))]) [1, 2, 0] rfl ?_
      exact h
    · have h := h.2 c4
      refine z_iconst (n := 0) d_Ta_isWord_24 (by decide) ?_
      exact z_zret d_Ta_isWord_25 rfl (by decide) (by decide) (by decide) ⟨rfl, rfl, h⟩
set_option maxRecDepth 8000 in
theorem b_Ta_isWord_28 {X : z_X} {N : Nat} {σ g : z_G} {Q : z_P} {x1 x2 : Int} (hx : z_lay X N σ 0 z_SF z_RF) (h : (0 ≤ x1 ∧ x1 < 21) ∧ (z_O X 3 m_St_length [(4, x1)] N σ g (fun r0 g0 => (((r0 ≤ x2) → Q 1 g0) ∧ (¬ (r0 ≤ x2) → ((-2147483648 ≤ ((g0 10 6) + x2) ∧ ((g0 10 6) + x2) ≤ 2147483647) ∧ (((900 ≤ ((g0 10 6) + x2)) → Q 0 g0) ∧ (¬ (900 ≤ ((g0 10 6) + x2)) → ((0 ≤ ((g0 10 6) + x2) ∧ ((g0 10 6) + x2) < 900) ∧ (z_O X 6 m_St_charAt [(4, x1), (0, x2)] N σ g0 (fun r1 g1 => ((((g0 11 ((g0 10 6) + x2)) = r1) → ((-2147483648 ≤ (x2 + 1) ∧ (x2 + 1) ≤ 2147483647) ∧ L_Ta_isWord_28 X N σ x1 (x2 + 1) g1 Q)) ∧ (¬ ((g0 11 ((g0 10 6) + x2)) = r1) → Q 0 g1))))))))))))) : L_Ta_isWord_28 X N σ x1 x2 g Q := by
  refine z_iload_n (i := 2) 2 d_Ta_isWord_28 rfl rfl ?_
  refine z_sload_n (i := 1) 1 d_Ta_isWord_29 rfl rfl ?_
  obtain ⟨c1, h⟩ := h
  refine z_cVs (as := []) (d' := 3) (st := [(0, x2)]) d_Ta_isWord_30 mi_St_length ml_Ta_56 mv_St_length se_St_length rfl rfl rfl rfl rfl c1 rfl (z_Omono h (fun r0 g0 _ h hro => ?_))
  show z_U X 7 m_Ta_isWord 33 [(0, (2, 10)), (1, (4, x1)), (2, (0, x2))] [(0, r0), (0, x2)] N σ g0 Q
  refine z_icmp_ge (tgt := 77) d_Ta_isWord_33 (by decide) (fun c2 => ?_) (fun c2 => ?_)
  · have h := h.1 c2
    refine z_iconst (n := 1) d_Ta_isWord_77 (by decide) ?_
    exact z_zret d_Ta_isWord_78 rfl (by decide) (by decide) (by decide) ⟨rfl, rfl, h⟩
  · have h := h.2 c2
    refine z_aload_n (i := 0) (c := 10) 0 d_Ta_isWord_36 rfl rfl rfl ?_
    refine z_geti (c := 10) (kI := 6) d_Ta_isWord_37 fd_Ta_at fl_Ta_43 (Or.inl rfl) rfl rfl (ks_F_10 hx) (kl_F_10 hx) ?_
    refine z_iload_n (i := 2) 2 d_Ta_isWord_40 rfl rfl ?_
    obtain ⟨c3, h⟩ := h
    refine z_iadd d_Ta_isWord_41 c3 ?_
    refine z_aload_n (i := 0) (c := 10) 0 d_Ta_isWord_42 rfl rfl rfl ?_
    refine z_getr (c := 10) (kI := 0) (r2 := 11) d_Ta_isWord_43 fd_Ta_text fl_Ta_9 rfl rfl rfl (ks_F_10 hx) (kl_F_10 hx) (kr_F_10_0 hx) ?_
    refine z_alen (c := 11) (m := 900) (cA := z_A X 3) d_Ta_isWord_46 rfl (ks_F_11 hx) (kl_F_11 hx) rfl (by decide) rfl ?_
    refine z_icmp_ge (tgt := 69) d_Ta_isWord_47 (by decide) (fun c4 => ?_) (fun c4 => ?_)
    · have h := h.1 c4
      refine z_iconst (n := 0) d_Ta_isWord_69 (by decide) ?_
      exact z_zret d_Ta_isWord_70 rfl (by decide) (by decide) (by decide) ⟨rfl, rfl, h⟩
    · have h := h.2 c4
      refine z_aload_n (i := 0) (c := 10) 0 d_Ta_isWord_50 rfl rfl rfl ?_
      refine z_getr (c := 10) (kI := 0) (r2 := 11) d_Ta_isWord_51 fd_Ta_text fl_Ta_9 rfl rfl rfl (ks_F_10 hx) (kl_F_10 hx) (kr_F_10_0 hx) ?_
      refine z_aload_n (i := 0) (c := 10) 0 d_Ta_isWord_54 rfl rfl rfl ?_
      refine z_geti (c := 10) (kI := 6) d_Ta_isWord_55 fd_Ta_at fl_Ta_43 (Or.inl rfl) rfl rfl (ks_F_10 hx) (kl_F_10 hx) ?_
      refine z_iload_n (i := 2) 2 d_Ta_isWord_58 rfl rfl ?_
      refine z_iadd d_Ta_isWord_59 c3 ?_
      obtain ⟨c5, h⟩ := h
      refine z_cald (c := 11) (m := 900) d_Ta_isWord_60 rfl (ks_F_11 hx) (kl_F_11 hx) rfl (by decide) c5 ?_
      refine z_sload_n (i := 1) 1 d_Ta_isWord_61 rfl rfl ?_
      refine z_iload_n (i := 2) 2 d_Ta_isWord_62 rfl rfl ?_
      refine z_cVs (as := [(0, x2)]) (d' := 6) (st := [(0, g0 11 ((g0 10 6) + x2))]) d_Ta_isWord_63 mi_St_charAt ml_Ta_61 mv_St_charAt se_St_charAt rfl rfl rfl rfl rfl c1 rfl (z_Omono h (fun r1 g1 _ h hro => ?_))
      show z_U X 7 m_Ta_isWord 66 [(0, (2, 10)), (1, (4, x1)), (2, (0, x2))] [(0, r1), (0, g0 11 ((g0 10 6) + x2))] N σ g1 Q
      refine z_icmp_eq (tgt := 71) d_Ta_isWord_66 (by decide) (fun c6 => ?_) (fun c6 => ?_)
      · have h := h.1 c6
        obtain ⟨c7, h⟩ := h
        refine z_iinc (n := 1) (ls' := [(2, (0, x2 + 1)), (0, (2, 10)), (1, (4, x1))]) 2 d_Ta_isWord_71 rfl c7 rfl rfl ?_
        refine z_goto (tgt := 28) d_Ta_isWord_74 (by decide) ?_
        refine z_sub (ls' := [(0, (2, 10)), (1, (4, x1)), (2, (0, x2 + 1))]) [1, 2, 0] rfl ?_
        exact h
      · have h := h.2 c6
        refine z_iconst (n := 0) d_Ta_isWord_69 (by decide) ?_
        exact z_zret d_Ta_isWord_70 rfl (by decide) (by decide) (by decide) ⟨rfl, rfl, h⟩
theorem d_Wk_tour_0 : decode (z_c m_Wk_tour) 0 = .ok (.aload_n 0, 1) := by decide +kernel
theorem d_Wk_tour_1 : decode (z_c m_Wk_tour) 1 = .ok (.iconst 0, 1) := by decide +kernel
theorem d_Wk_tour_2 : decode (z_c m_Wk_tour) 2 = .ok (.putfield 17, 3) := by decide +kernel
theorem d_Wk_tour_5 : decode (z_c m_Wk_tour) 5 = .ok (.aload_n 0, 1) := by decide +kernel
theorem d_Wk_tour_6 : decode (z_c m_Wk_tour) 6 = .ok (.iconst 0, 1) := by decide +kernel
theorem d_Wk_tour_7 : decode (z_c m_Wk_tour) 7 = .ok (.putfield 21, 3) := by decide +kernel
theorem d_Wk_tour_10 : decode (z_c m_Wk_tour) 10 = .ok (.aload_n 0, 1) := by decide +kernel
theorem d_Wk_tour_11 : decode (z_c m_Wk_tour) 11 = .ok (.iconst 0, 1) := by decide +kernel
theorem d_Wk_tour_12 : decode (z_c m_Wk_tour) 12 = .ok (.putfield 24, 3) := by decide +kernel
theorem d_Wk_tour_15 : decode (z_c m_Wk_tour) 15 = .ok (.aload_n 0, 1) := by decide +kernel
theorem d_Wk_tour_16 : decode (z_c m_Wk_tour) 16 = .ok (.iconst 0, 1) := by decide +kernel
theorem d_Wk_tour_17 : decode (z_c m_Wk_tour) 17 = .ok (.putfield 27, 3) := by decide +kernel
theorem d_Wk_tour_20 : decode (z_c m_Wk_tour) 20 = .ok (.aload_n 0, 1) := by decide +kernel
theorem d_Wk_tour_21 : decode (z_c m_Wk_tour) 21 = .ok (.iconst 0, 1) := by decide +kernel
theorem d_Wk_tour_22 : decode (z_c m_Wk_tour) 22 = .ok (.putfield 30, 3) := by decide +kernel
theorem d_Wk_tour_25 : decode (z_c m_Wk_tour) 25 = .ok (.aload_n 0, 1) := by decide +kernel
theorem d_Wk_tour_26 : decode (z_c m_Wk_tour) 26 = .ok (.iconst 0, 1) := by decide +kernel
theorem d_Wk_tour_27 : decode (z_c m_Wk_tour) 27 = .ok (.putfield 33, 3) := by decide +kernel
theorem d_Wk_tour_30 : decode (z_c m_Wk_tour) 30 = .ok (.aload_n 0, 1) := by decide +kernel
theorem d_Wk_tour_31 : decode (z_c m_Wk_tour) 31 = .ok (.iload_n 2, 1) := by decide +kernel
theorem d_Wk_tour_32 : decode (z_c m_Wk_tour) 32 = .ok (.putfield 37, 3) := by decide +kernel
theorem d_Wk_tour_35 : decode (z_c m_Wk_tour) 35 = .ok (.aload_n 1, 1) := by decide +kernel
theorem d_Wk_tour_36 : decode (z_c m_Wk_tour) 36 = .ok (.getfield 40, 3) := by decide +kernel
theorem d_Wk_tour_39 : decode (z_c m_Wk_tour) 39 = .ok (.astore_n 3, 1) := by decide +kernel
theorem d_Wk_tour_40 : decode (z_c m_Wk_tour) 40 = .ok (.iconst 0, 1) := by decide +kernel
theorem d_Wk_tour_41 : decode (z_c m_Wk_tour) 41 = .ok (.istore 4, 2) := by decide +kernel
theorem d_Wk_tour_43 : decode (z_c m_Wk_tour) 43 = .ok (.iconst 0, 1) := by decide +kernel
theorem d_Wk_tour_44 : decode (z_c m_Wk_tour) 44 = .ok (.istore 5, 2) := by decide +kernel
theorem d_Wk_tour_46 : decode (z_c m_Wk_tour) 46 = .ok (.iload 5, 2) := by decide +kernel
theorem d_Wk_tour_48 : decode (z_c m_Wk_tour) 48 = .ok (.ldc 46, 2) := by decide +kernel
theorem d_Wk_tour_50 : decode (z_c m_Wk_tour) 50 = .ok (.if_icmp .ge 82, 3) := by decide +kernel
theorem d_Wk_tour_53 : decode (z_c m_Wk_tour) 53 = .ok (.iload 4, 2) := by decide +kernel
theorem d_Wk_tour_55 : decode (z_c m_Wk_tour) 55 = .ok (.ifCond .lt 77, 3) := by decide +kernel
theorem d_Wk_tour_58 : decode (z_c m_Wk_tour) 58 = .ok (.iload 4, 2) := by decide +kernel
theorem d_Wk_tour_60 : decode (z_c m_Wk_tour) 60 = .ok (.aload_n 3, 1) := by decide +kernel
theorem d_Wk_tour_61 : decode (z_c m_Wk_tour) 61 = .ok (.getfield 47, 3) := by decide +kernel
theorem d_Wk_tour_64 : decode (z_c m_Wk_tour) 64 = .ok (.if_icmp .ge 68, 3) := by decide +kernel
theorem d_Wk_tour_67 : decode (z_c m_Wk_tour) 67 = .ok (.aload_n 3, 1) := by decide +kernel
theorem d_Wk_tour_68 : decode (z_c m_Wk_tour) 68 = .ok (.getfield 50, 3) := by decide +kernel
theorem d_Wk_tour_71 : decode (z_c m_Wk_tour) 71 = .ok (.iload 4, 2) := by decide +kernel
theorem d_Wk_tour_73 : decode (z_c m_Wk_tour) 73 = .ok (.iaload, 1) := by decide +kernel
theorem d_Wk_tour_74 : decode (z_c m_Wk_tour) 74 = .ok (.bipush 11, 2) := by decide +kernel
theorem d_Wk_tour_76 : decode (z_c m_Wk_tour) 76 = .ok (.if_icmp .ne 15, 3) := by decide +kernel
theorem d_Wk_tour_79 : decode (z_c m_Wk_tour) 79 = .ok (.aload_n 0, 1) := by decide +kernel
theorem d_Wk_tour_80 : decode (z_c m_Wk_tour) 80 = .ok (.aload_n 3, 1) := by decide +kernel
theorem d_Wk_tour_81 : decode (z_c m_Wk_tour) 81 = .ok (.iload 4, 2) := by decide +kernel
theorem d_Wk_tour_83 : decode (z_c m_Wk_tour) 83 = .ok (.invokevirtual 53, 3) := by decide +kernel
theorem d_Wk_tour_86 : decode (z_c m_Wk_tour) 86 = .ok (.istore 4, 2) := by decide +kernel
theorem d_Wk_tour_88 : decode (z_c m_Wk_tour) 88 = .ok (.goto 38, 3) := by decide +kernel
theorem d_Wk_tour_91 : decode (z_c m_Wk_tour) 91 = .ok (.aload_n 0, 1) := by decide +kernel
theorem d_Wk_tour_92 : decode (z_c m_Wk_tour) 92 = .ok (.getfield 17, 3) := by decide +kernel
theorem d_Wk_tour_95 : decode (z_c m_Wk_tour) 95 = .ok (.sipush 300, 3) := by decide +kernel
theorem d_Wk_tour_98 : decode (z_c m_Wk_tour) 98 = .ok (.if_icmp .lt 9, 3) := by decide +kernel
theorem d_Wk_tour_101 : decode (z_c m_Wk_tour) 101 = .ok (.aload_n 0, 1) := by decide +kernel
theorem d_Wk_tour_102 : decode (z_c m_Wk_tour) 102 = .ok (.iconst 1, 1) := by decide +kernel
theorem d_Wk_tour_103 : decode (z_c m_Wk_tour) 103 = .ok (.putfield 33, 3) := by decide +kernel
theorem d_Wk_tour_106 : decode (z_c m_Wk_tour) 106 = .ok (.return_, 1) := by decide +kernel
theorem d_Wk_tour_107 : decode (z_c m_Wk_tour) 107 = .ok (.aload_n 0, 1) := by decide +kernel
theorem d_Wk_tour_108 : decode (z_c m_Wk_tour) 108 = .ok (.dup, 1) := by decide +kernel
theorem d_Wk_tour_109 : decode (z_c m_Wk_tour) 109 = .ok (.getfield 17, 3) := by decide +kernel
theorem d_Wk_tour_112 : decode (z_c m_Wk_tour) 112 = .ok (.iconst 1, 1) := by decide +kernel
theorem d_Wk_tour_113 : decode (z_c m_Wk_tour) 113 = .ok (.iadd, 1) := by decide +kernel
theorem d_Wk_tour_114 : decode (z_c m_Wk_tour) 114 = .ok (.putfield 17, 3) := by decide +kernel
theorem d_Wk_tour_117 : decode (z_c m_Wk_tour) 117 = .ok (.aload_n 0, 1) := by decide +kernel
theorem d_Wk_tour_118 : decode (z_c m_Wk_tour) 118 = .ok (.aload_n 1, 1) := by decide +kernel
theorem d_Wk_tour_119 : decode (z_c m_Wk_tour) 119 = .ok (.iload 4, 2) := by decide +kernel
theorem d_Wk_tour_121 : decode (z_c m_Wk_tour) 121 = .ok (.invokevirtual 57, 3) := by decide +kernel
theorem d_Wk_tour_124 : decode (z_c m_Wk_tour) 124 = .ok (.istore 4, 2) := by decide +kernel
theorem d_Wk_tour_126 : decode (z_c m_Wk_tour) 126 = .ok (.iinc 5 1, 3) := by decide +kernel
theorem d_Wk_tour_129 : decode (z_c m_Wk_tour) 129 = .ok (.goto (-83), 3) := by decide +kernel
theorem d_Wk_tour_132 : decode (z_c m_Wk_tour) 132 = .ok (.return_, 1) := by decide +kernel
abbrev L_Wk_tour_46 (X : z_X) (N : Nat) (σ : z_G) (x4 x5 : Int) (o p1 : Nat) (g : z_G) (Q : z_P) : Prop := z_U X 7 m_Wk_tour 46 [(0, (2, ((o : Nat) : Int))), (1, (2, ((p1 : Nat) : Int))), (3, (2, ((p1 + 8 : Nat) : Int))), (4, (0, x4)), (5, (0, x5))] [] N σ g Q
set_option maxRecDepth 8000 in
theorem b_Wk_tour_0 {X : z_X} {N : Nat} {σ g : z_G} {Q : z_P} {a2 : Int} {o p1 : Nat} (ho : z_lay X N σ o z_SWk z_RWk) (hp1 : z_lay X N σ p1 z_SBd z_RBd) (h : L_Wk_tour_46 X N σ 0 0 o p1 (z_up (z_up (z_up (z_up (z_up (z_up (z_up g o 0 0) o 1 0) o 2 0) o 3 0) o 4 0) o 5 0) o 6 a2) Q) : z_O X 7 m_Wk_tour [(2, ((o : Nat) : Int)), (2, ((p1 : Nat) : Int)), (0, a2)] N σ g Q := by
  refine z_Oenter mi_Wk_tour rfl (fun _ => ?_)
  show z_U X 7 m_Wk_tour 0 [(0, (2, ((o : Nat) : Int))), (1, (2, ((p1 : Nat) : Int))), (2, (0, a2))] [] N σ g Q
  refine z_aload_n (i := 0) (c := o) 0 d_Wk_tour_0 rfl rfl rfl ?_
  refine z_iconst (n := 0) d_Wk_tour_1 (by decide) ?_
  refine z_puti (c := o) (kI := 0) d_Wk_tour_2 fd_Wk_done fl_Wk_17 pf_Wk_done rfl rfl rfl rfl (ks_Wk_0 ho) (kl_Wk_0 ho) ?_
  refine z_aload_n (i := 0) (c := o) 0 d_Wk_tour_5 rfl rfl rfl ?_
  refine z_iconst (n := 0) d_Wk_tour_6 (by decide) ?_
  refine z_puti (c := o) (kI := 1) d_Wk_tour_7 fd_Wk_missed fl_Wk_21 pf_Wk_missed rfl rfl rfl rfl (ks_Wk_0 ho) (kl_Wk_0 ho) ?_
  refine z_aload_n (i := 0) (c := o) 0 d_Wk_tour_10 rfl rfl rfl ?_
  refine z_iconst (n := 0) d_Wk_tour_11 (by decide) ?_
  refine z_puti (c := o) (kI := 2) d_Wk_tour_12 fd_Wk_moved fl_Wk_24 pf_Wk_moved rfl rfl rfl rfl (ks_Wk_0 ho) (kl_Wk_0 ho) ?_
  refine z_aload_n (i := 0) (c := o) 0 d_Wk_tour_15 rfl rfl rfl ?_
  refine z_iconst (n := 0) d_Wk_tour_16 (by decide) ?_
  refine z_puti (c := o) (kI := 3) d_Wk_tour_17 fd_Wk_pinned fl_Wk_27 pf_Wk_pinned rfl rfl rfl rfl (ks_Wk_0 ho) (kl_Wk_0 ho) ?_
  refine z_aload_n (i := 0) (c := o) 0 d_Wk_tour_20 rfl rfl rfl ?_
  refine z_iconst (n := 0) d_Wk_tour_21 (by decide) ?_
  refine z_puti (c := o) (kI := 4) d_Wk_tour_22 fd_Wk_lifted fl_Wk_30 pf_Wk_lifted rfl rfl rfl rfl (ks_Wk_0 ho) (kl_Wk_0 ho) ?_
  refine z_aload_n (i := 0) (c := o) 0 d_Wk_tour_25 rfl rfl rfl ?_
  refine z_iconst (n := 0) d_Wk_tour_26 (by decide) ?_
  refine z_putz (c := o) (kI := 5) d_Wk_tour_27 fd_Wk_cutShort fl_Wk_33 pf_Wk_cutShort rfl rfl rfl rfl (ks_Wk_0 ho) (kl_Wk_0 ho) (by decide) ?_
  refine z_aload_n (i := 0) (c := o) 0 d_Wk_tour_30 rfl rfl rfl ?_
  refine z_iload_n (i := 2) 2 d_Wk_tour_31 rfl rfl ?_
  refine z_puti (c := o) (kI := 6) d_Wk_tour_32 fd_Wk_drawn fl_Wk_37 pf_Wk_drawn rfl rfl rfl rfl (ks_Wk_0 ho) (kl_Wk_0 ho) ?_
  refine z_aload_n (i := 1) (c := p1) 1 d_Wk_tour_35 rfl rfl rfl ?_
  refine z_getr (c := p1) (kI := 5) (r2 := ((p1 + 8 : Nat) : Int)) d_Wk_tour_36 fd_Bd_program fl_Wk_40 rfl rfl rfl (ks_Bd_0 hp1) (kl_Bd_0 hp1) (kr_Bd_0_5 hp1) ?_
  refine z_astore_n (i := 3) (c := (p1 + 8)) (ls' := [(3, (2, ((p1 + 8 : Nat) : Int))), (0, (2, ((o : Nat) : Int))), (1, (2, ((p1 : Nat) : Int))), (2, (0, a2))]) d_Wk_tour_39 rfl rfl rfl rfl ?_
  refine z_iconst (n := 0) d_Wk_tour_40 (by decide) ?_
  refine z_istore (ls' := [(4, (0, 0)), (3, (2, ((p1 + 8 : Nat) : Int))), (0, (2, ((o : Nat) : Int))), (1, (2, ((p1 : Nat) : Int))), (2, (0, a2))]) d_Wk_tour_41 rfl rfl ?_
  refine z_iconst (n := 0) d_Wk_tour_43 (by decide) ?_
  refine z_istore (ls' := [(5, (0, 0)), (4, (0, 0)), (3, (2, ((p1 + 8 : Nat) : Int))), (0, (2, ((o : Nat) : Int))), (1, (2, ((p1 : Nat) : Int))), (2, (0, a2))]) d_Wk_tour_44 rfl rfl ?_
  refine z_sub (ls' := [(0, (2, ((o : Nat) : Int))), (1, (2, ((p1 : Nat) : Int))), (3, (2, ((p1 + 8 : Nat) : Int))), (4, (0, 0)), (5, (0, 0))]) [3, 4, 2, 1, 0] rfl ?_
  exact h
set_option maxRecDepth 8000 in
theorem b_Wk_tour_46 {X : z_X} {N : Nat} {σ g : z_G} {Q : z_P} {x4 x5 : Int} {o p1 : Nat} (ho : z_lay X N σ o z_SWk z_RWk) (hp1 : z_lay X N σ p1 z_SBd z_RBd) (h : ((100000 ≤ x5) → Q 0 g) ∧ (¬ (100000 ≤ x5) → (((x4 < 0) → Q 0 g) ∧ (¬ (x4 < 0) → ((((g (p1 + 8) 2) ≤ x4) → Q 0 g) ∧ (¬ ((g (p1 + 8) 2) ≤ x4) → ((0 ≤ x4 ∧ x4 < 60) ∧ ((((g (p1 + 9) x4) = 11) → (z_O X 1 m_Wk_lineBehindEnd [(2, ((o : Nat) : Int)), (2, ((p1 + 8 : Nat) : Int)), (0, x4)] N σ g (fun r1 g1 => ((-2147483648 ≤ (x5 + 1) ∧ (x5 + 1) ≤ 2147483647) ∧ L_Wk_tour_46 X N σ r1 (x5 + 1) o p1 g1 Q)))) ∧ (¬ ((g (p1 + 9) x4) = 11) → ((((g o 0) < 300) → ((-2147483648 ≤ ((g o 0) + 1) ∧ ((g o 0) + 1) ≤ 2147483647) ∧ (z_O X 6 m_Wk_lineBehindStep [(2, ((o : Nat) : Int)), (2, ((p1 : Nat) : Int)), (0, x4)] N σ (z_up g o 0 ((g o 0) + 1)) (fun r0 g0 => ((-2147483648 ≤ (x5 + 1) ∧ (x5 + 1) ≤ 2147483647) ∧ L_Wk_tour_46 X N σ r0 (x5 + 1) o p1 g0 Q))))) ∧ (¬ ((g o 0) < 300) → Q 0 (z_up g o 5 1)))))))))))) : L_Wk_tour_46 X N σ x4 x5 o p1 g Q := by
  refine z_iload 4 d_Wk_tour_46 rfl ?_
  refine z_ldc (v := 100000) d_Wk_tour_48 kc_Wk_46 (by decide) ?_
  refine z_icmp_ge (tgt := 132) d_Wk_tour_50 (by decide) (fun c1 => ?_) (fun c1 => ?_)
  · have h := h.1 c1
    exact z_vret d_Wk_tour_132 rfl (by decide) (by decide) ⟨rfl, rfl, h⟩
  · have h := h.2 c1
    refine z_iload 3 d_Wk_tour_53 rfl ?_
    refine z_if_lt (tgt := 132) d_Wk_tour_55 (by decide) (fun c2 => ?_) (fun c2 => ?_)
    · have h := h.1 c2
      exact z_vret d_Wk_tour_132 rfl (by decide) (by decide) ⟨rfl, rfl, h⟩
    · have h := h.2 c2
      refine z_iload 3 d_Wk_tour_58 rfl ?_
      refine z_aload_n (i := 3) (c := (p1 + 8)) 2 d_Wk_tour_60 rfl rfl rfl ?_
      refine z_geti (c := (p1 + 8)) (kI := 2) d_Wk_tour_61 fd_Pg_lines fl_Wk_47 (Or.inl rfl) rfl rfl (ks_Bd_8 hp1) (kl_Bd_8 hp1) ?_
      refine z_icmp_ge (tgt := 132) d_Wk_tour_64 (by decide) (fun c3 => ?_) (fun c3 => ?_)
      · have h := h.1 c3
        exact z_vret d_Wk_tour_132 rfl (by decide) (by decide) ⟨rfl, rfl, h⟩
      · have h := h.2 c3
        refine z_aload_n (i := 3) (c := (p1 + 8)) 2 d_Wk_tour_67 rfl rfl rfl ?_
        refine z_getr (c := (p1 + 8)) (kI := 3) (r2 := ((p1 + 9 : Nat) : Int)) d_Wk_tour_68 fd_Pg_kinds fl_Wk_50 rfl rfl rfl (ks_Bd_8 hp1) (kl_Bd_8 hp1) (kr_Bd_8_3 hp1) ?_
        refine z_iload 3 d_Wk_tour_71 rfl ?_
        obtain ⟨c4, h⟩ := h
        refine z_iald (c := (p1 + 9)) (m := 60) d_Wk_tour_73 rfl (ks_Bd_9 hp1) (kl_Bd_9 hp1) rfl (by decide) c4 ?_
        refine z_bipush (n := 11) d_Wk_tour_74 (by decide) (by decide) ?_
        refine z_icmp_ne (tgt := 91) d_Wk_tour_76 (by decide) (fun c5 => ?_) (fun c5 => ?_)
        · have h := h.2 c5
          refine z_aload_n (i := 0) (c := o) 0 d_Wk_tour_91 rfl rfl rfl ?_
          refine z_geti (c := o) (kI := 0) d_Wk_tour_92 fd_Wk_done fl_Wk_17 (Or.inl rfl) rfl rfl (ks_Wk_0 ho) (kl_Wk_0 ho) ?_
          refine z_sipush (n := 300) d_Wk_tour_95 (by decide) (by decide) ?_
          refine z_icmp_lt (tgt := 107) d_Wk_tour_98 (by decide) (fun c6 => ?_) (fun c6 => ?_)
          · have h := h.1 c6
            refine z_aload_n (i := 0) (c := o) 0 d_Wk_tour_107 rfl rfl rfl ?_
            refine z_dup d_Wk_tour_108 rfl ?_
            refine z_geti (c := o) (kI := 0) d_Wk_tour_109 fd_Wk_done fl_Wk_17 (Or.inl rfl) rfl rfl (ks_Wk_0 ho) (kl_Wk_0 ho) ?_
            refine z_iconst (n := 1) d_Wk_tour_112 (by decide) ?_
            obtain ⟨c7, h⟩ := h
            refine z_iadd d_Wk_tour_113 c7 ?_
            refine z_puti (c := o) (kI := 0) d_Wk_tour_114 fd_Wk_done fl_Wk_17 pf_Wk_done rfl rfl rfl rfl (ks_Wk_0 ho) (kl_Wk_0 ho) ?_
            refine z_aload_n (i := 0) (c := o) 0 d_Wk_tour_117 rfl rfl rfl ?_
            refine z_aload_n (i := 1) (c := p1) 1 d_Wk_tour_118 rfl rfl rfl ?_
            refine z_iload 3 d_Wk_tour_119 rfl ?_
            refine z_cV (c := o) (as := [(2, ((p1 : Nat) : Int)), (0, x4)]) (d' := 6) (st := []) d_Wk_tour_121 mi_Wk_lineBehindStep ml_Wk_57 mv_Wk_lineBehindStep se_Wk_lineBehindStep rfl rfl rfl rfl (ks_Wk_0 ho) rfl rfl (kl_Wk_0 ho) rfl rfl (z_Omono h (fun r0 g0 _ h hro => ?_))
            show z_U X 7 m_Wk_tour 124 [(0, (2, ((o : Nat) : Int))), (1, (2, ((p1 : Nat) : Int))), (3, (2, ((p1 + 8 : Nat) : Int))), (4, (0, x4)), (5, (0, x5))] [(0, r0)] N σ g0 Q
            refine z_istore (ls' := [(4, (0, r0)), (0, (2, ((o : Nat) : Int))), (1, (2, ((p1 : Nat) : Int))), (3, (2, ((p1 + 8 : Nat) : Int))), (5, (0, x5))]) d_Wk_tour_124 rfl rfl ?_
            obtain ⟨c8, h⟩ := h
            refine z_iinc (n := 1) (ls' := [(5, (0, x5 + 1)), (4, (0, r0)), (0, (2, ((o : Nat) : Int))), (1, (2, ((p1 : Nat) : Int))), (3, (2, ((p1 + 8 : Nat) : Int)))]) 4 d_Wk_tour_126 rfl c8 rfl rfl ?_
            refine z_goto (tgt := 46) d_Wk_tour_129 (by decide) ?_
            refine z_sub (ls' := [(0, (2, ((o : Nat) : Int))), (1, (2, ((p1 : Nat) : Int))), (3, (2, ((p1 + 8 : Nat) : Int))), (4, (0, r0)), (5, (0, x5 + 1))]) [2, 3, 4, 1, 0] rfl ?_
            exact h
          · have h := h.2 c6
            refine z_aload_n (i := 0) (c := o) 0 d_Wk_tour_101 rfl rfl rfl ?_
            refine z_iconst (n := 1) d_Wk_tour_102 (by decide) ?_
            refine z_putz (c := o) (kI := 5) d_Wk_tour_103 fd_Wk_cutShort fl_Wk_33 pf_Wk_cutShort rfl rfl rfl rfl (ks_Wk_0 ho) (kl_Wk_0 ho) (by decide) ?_
            exact z_vret d_Wk_tour_106 rfl (by decide) (by decide) ⟨rfl, rfl, h⟩
        · have h := h.1 c5
          refine z_aload_n (i := 0) (c := o) 0 d_Wk_tour_79 rfl rfl rfl ?_
          refine z_aload_n (i := 3) (c := (p1 + 8)) 2 d_Wk_tour_80 rfl rfl rfl ?_
          refine z_iload 3 d_Wk_tour_81 rfl ?_
          refine z_cV (c := o) (as := [(2, ((p1 + 8 : Nat) : Int)), (0, x4)]) (d' := 1) (st := []) d_Wk_tour_83 mi_Wk_lineBehindEnd ml_Wk_53 mv_Wk_lineBehindEnd se_Wk_lineBehindEnd rfl rfl rfl rfl (ks_Wk_0 ho) rfl rfl (kl_Wk_0 ho) rfl rfl (z_Omono h (fun r1 g1 _ h hro => ?_))
          show z_U X 7 m_Wk_tour 86 [(0, (2, ((o : Nat) : Int))), (1, (2, ((p1 : Nat) : Int))), (3, (2, ((p1 + 8 : Nat) : Int))), (4, (0, x4)), (5, (0, x5))] [(0, r1)] N σ g1 Q
          refine z_istore (ls' := [(4, (0, r1)), (0, (2, ((o : Nat) : Int))), (1, (2, ((p1 : Nat) : Int))), (3, (2, ((p1 + 8 : Nat) : Int))), (5, (0, x5))]) d_Wk_tour_86 rfl rfl ?_
          refine z_goto (tgt := 126) d_Wk_tour_88 (by decide) ?_
          obtain ⟨c9, h⟩ := h
          refine z_iinc (n := 1) (ls' := [(5, (0, x5 + 1)), (4, (0, r1)), (0, (2, ((o : Nat) : Int))), (1, (2, ((p1 : Nat) : Int))), (3, (2, ((p1 + 8 : Nat) : Int)))]) 4 d_Wk_tour_126 rfl c9 rfl rfl ?_
          refine z_goto (tgt := 46) d_Wk_tour_129 (by decide) ?_
          refine z_sub (ls' := [(0, (2, ((o : Nat) : Int))), (1, (2, ((p1 : Nat) : Int))), (3, (2, ((p1 + 8 : Nat) : Int))), (4, (0, r1)), (5, (0, x5 + 1))]) [2, 3, 4, 1, 0] rfl ?_
          exact h
theorem d_F_live_0 : decode (z_c m_F_live) 0 = .ok (.iload_n 1, 1) := by decide +kernel
theorem d_F_live_1 : decode (z_c m_F_live) 1 = .ok (.ifCond .lt 10, 3) := by decide +kernel
theorem d_F_live_4 : decode (z_c m_F_live) 4 = .ok (.iload_n 1, 1) := by decide +kernel
theorem d_F_live_5 : decode (z_c m_F_live) 5 = .ok (.sipush 9999, 3) := by decide +kernel
theorem d_F_live_8 : decode (z_c m_F_live) 8 = .ok (.if_icmp .le 9, 3) := by decide +kernel
theorem d_F_live_11 : decode (z_c m_F_live) 11 = .ok (.aload_n 0, 1) := by decide +kernel
theorem d_F_live_12 : decode (z_c m_F_live) 12 = .ok (.iconst 1, 1) := by decide +kernel
theorem d_F_live_13 : decode (z_c m_F_live) 13 = .ok (.invokevirtual 121, 3) := by decide +kernel
theorem d_F_live_16 : decode (z_c m_F_live) 16 = .ok (.ireturn, 1) := by decide +kernel
theorem d_F_live_17 : decode (z_c m_F_live) 17 = .ok (.aload_n 0, 1) := by decide +kernel
theorem d_F_live_18 : decode (z_c m_F_live) 18 = .ok (.getfield 67, 3) := by decide +kernel
theorem d_F_live_21 : decode (z_c m_F_live) 21 = .ok (.getfield 179, 3) := by decide +kernel
theorem d_F_live_24 : decode (z_c m_F_live) 24 = .ok (.getfield 411, 3) := by decide +kernel
theorem d_F_live_27 : decode (z_c m_F_live) 27 = .ok (.ifCond .ne 10, 3) := by decide +kernel
theorem d_F_live_30 : decode (z_c m_F_live) 30 = .ok (.aload_n 0, 1) := by decide +kernel
theorem d_F_live_31 : decode (z_c m_F_live) 31 = .ok (.bipush 6, 2) := by decide +kernel
theorem d_F_live_33 : decode (z_c m_F_live) 33 = .ok (.invokevirtual 121, 3) := by decide +kernel
theorem d_F_live_36 : decode (z_c m_F_live) 36 = .ok (.ireturn, 1) := by decide +kernel
theorem d_F_live_37 : decode (z_c m_F_live) 37 = .ok (.aload_n 0, 1) := by decide +kernel
theorem d_F_live_38 : decode (z_c m_F_live) 38 = .ok (.getfield 84, 3) := by decide +kernel
theorem d_F_live_41 : decode (z_c m_F_live) 41 = .ok (.aload_n 0, 1) := by decide +kernel
theorem d_F_live_42 : decode (z_c m_F_live) 42 = .ok (.getfield 67, 3) := by decide +kernel
theorem d_F_live_45 : decode (z_c m_F_live) 45 = .ok (.iload_n 1, 1) := by decide +kernel
theorem d_F_live_46 : decode (z_c m_F_live) 46 = .ok (.invokevirtual 414, 3) := by decide +kernel
theorem d_F_live_49 : decode (z_c m_F_live) 49 = .ok (.aload_n 0, 1) := by decide +kernel
theorem d_F_live_50 : decode (z_c m_F_live) 50 = .ok (.iconst 1, 1) := by decide +kernel
theorem d_F_live_51 : decode (z_c m_F_live) 51 = .ok (.putfield 91, 3) := by decide +kernel
theorem d_F_live_54 : decode (z_c m_F_live) 54 = .ok (.aload_n 0, 1) := by decide +kernel
theorem d_F_live_55 : decode (z_c m_F_live) 55 = .ok (.aload_n 0, 1) := by decide +kernel
theorem d_F_live_56 : decode (z_c m_F_live) 56 = .ok (.getfield 84, 3) := by decide +kernel
theorem d_F_live_59 : decode (z_c m_F_live) 59 = .ok (.getfield 418, 3) := by decide +kernel
theorem d_F_live_62 : decode (z_c m_F_live) 62 = .ok (.invokevirtual 176, 3) := by decide +kernel
theorem d_F_live_65 : decode (z_c m_F_live) 65 = .ok (.ireturn, 1) := by decide +kernel
set_option maxRecDepth 8000 in
theorem b_F_live_0 {X : z_X} {N : Nat} {σ g : z_G} {Q : z_P} {a1 : Int} (hx : z_lay X N σ 0 z_SF z_RF) (h : ((a1 < 0) → Q (-1) (z_up g 0 0 1)) ∧ (¬ (a1 < 0) → (((a1 ≤ 9999) → ((((g 31 0) = 0) → Q (-1) (z_up g 0 0 6)) ∧ (¬ ((g 31 0) = 0) → (z_O X 7 m_Wk_tour [(2, 94), (2, 23), (0, a1)] N σ g (fun r0 g0 => Q (g0 94 0) (z_up (z_up g0 0 17 1) 0 0 0)))))) ∧ (¬ (a1 ≤ 9999) → Q (-1) (z_up g 0 0 1))))) : z_O X 8 m_F_live [(2, 0), (0, a1)] N σ g Q := by
  refine z_Oenter mi_F_live rfl (fun _ => ?_)
  show z_U X 8 m_F_live 0 [(0, (2, 0)), (1, (0, a1))] [] N σ g Q
  refine z_iload_n (i := 1) 1 d_F_live_0 rfl rfl ?_
  refine z_if_lt (tgt := 11) d_F_live_1 (by decide) (fun c1 => ?_) (fun c1 => ?_)
  · have h := h.1 c1
    refine z_aload_n (i := 0) (c := 0) 0 d_F_live_11 rfl rfl rfl ?_
    refine z_iconst (n := 1) d_F_live_12 (by decide) ?_
    refine z_cV (c := 0) (as := [(0, 1)]) (d' := 1) (st := []) d_F_live_13 mi_F_none ml_F_121 mv_F_none se_F_none rfl rfl rfl rfl (ks_F_0 hx) rfl rfl (kl_F_0 hx) rfl rfl (b_F_none_0 hx ?_)
    intro _
    show z_U X 8 m_F_live 16 [(0, (2, 0)), (1, (0, a1))] [(0, (-1))] N σ (z_up g 0 0 1) Q
    exact z_iret d_F_live_16 rfl (by decide) (by decide) ⟨rfl, rfl, h⟩
  · have h := h.2 c1
    refine z_iload_n (i := 1) 1 d_F_live_4 rfl rfl ?_
    refine z_sipush (n := 9999) d_F_live_5 (by decide) (by decide) ?_
    refine z_icmp_le (tgt := 17) d_F_live_8 (by decide) (fun c2 => ?_) (fun c2 => ?_)
    · have h := h.1 c2
      refine z_aload_n (i := 0) (c := 0) 0 d_F_live_17 rfl rfl rfl ?_
      refine z_getr (c := 0) (kI := 11) (r2 := 23) d_F_live_18 fd_F_board fl_F_67 rfl rfl rfl (ks_F_0 hx) (kl_F_0 hx) (kr_F_0_11 hx) ?_
      refine z_getr (c := 23) (kI := 5) (r2 := 31) d_F_live_21 fd_Bd_program fl_F_179 rfl rfl rfl (ks_F_23 hx) (kl_F_23 hx) (kr_F_23_5 hx) ?_
      refine z_getz (c := 31) (kI := 0) d_F_live_24 fd_Pg_given fl_F_411 rfl rfl rfl (ks_F_31 hx) (kl_F_31 hx) (fun z1 => ?_)
      refine z_if_ne (tgt := 37) d_F_live_27 (by decide) (fun c3 => ?_) (fun c3 => ?_)
      · have h := h.2 c3
        refine z_aload_n (i := 0) (c := 0) 0 d_F_live_37 rfl rfl rfl ?_
        refine z_getr (c := 0) (kI := 15) (r2 := 94) d_F_live_38 fd_F_walk fl_F_84 rfl rfl rfl (ks_F_0 hx) (kl_F_0 hx) (kr_F_0_15 hx) ?_
        refine z_aload_n (i := 0) (c := 0) 0 d_F_live_41 rfl rfl rfl ?_
        refine z_getr (c := 0) (kI := 11) (r2 := 23) d_F_live_42 fd_F_board fl_F_67 rfl rfl rfl (ks_F_0 hx) (kl_F_0 hx) (kr_F_0_11 hx) ?_
        refine z_iload_n (i := 1) 1 d_F_live_45 rfl rfl ?_
        refine z_cV (c := 94) (as := [(2, 23), (0, a1)]) (d' := 7) (st := []) d_F_live_46 mi_Wk_tour ml_F_414 mv_Wk_tour se_Wk_tour rfl rfl rfl rfl (ks_F_94 hx) rfl rfl (kl_F_94 hx) rfl rfl (z_Omono h (fun r0 g0 _ h hro => ?_))
        show z_U X 8 m_F_live 49 [(0, (2, 0)), (1, (0, a1))] [] N σ g0 Q
        refine z_aload_n (i := 0) (c := 0) 0 d_F_live_49 rfl rfl rfl ?_
        refine z_iconst (n := 1) d_F_live_50 (by decide) ?_
        refine z_putz (c := 0) (kI := 17) d_F_live_51 fd_F_everLived fl_F_91 pf_F_everLived rfl rfl rfl rfl (ks_F_0 hx) (kl_F_0 hx) (by decide) ?_
        refine z_aload_n (i := 0) (c := 0) 0 d_F_live_54 rfl rfl rfl ?_
        refine z_aload_n (i := 0) (c := 0) 0 d_F_live_55 rfl rfl rfl ?_
        refine z_getr (c := 0) (kI := 15) (r2 := 94) d_F_live_56 fd_F_walk fl_F_84 rfl rfl rfl (ks_F_0 hx) (kl_F_0 hx) (kr_F_0_15 hx) ?_
        refine z_geti (c := 94) (kI := 0) d_F_live_59 fd_Wk_done fl_F_418 (Or.inl rfl) rfl rfl (ks_F_94 hx) (kl_F_94 hx) ?_
        refine z_ti (b := g0 94 0) (by simp [z_up]) ?_
        refine z_cV (c := 0) (as := [(0, g0 94 0)]) (d' := 1) (st := []) d_F_live_62 mi_F_give ml_F_176 mv_F_give se_F_give rfl rfl rfl rfl (ks_F_0 hx) rfl rfl (kl_F_0 hx) rfl rfl (b_F_give_0 hx ?_)
        intro _
        show z_U X 8 m_F_live 65 [(0, (2, 0)), (1, (0, a1))] [(0, g0 94 0)] N σ (z_up (z_up g0 0 17 1) 0 0 0) Q
        exact z_iret d_F_live_65 rfl (by decide) (by decide) ⟨rfl, rfl, h⟩
      · have h := h.1 c3
        refine z_aload_n (i := 0) (c := 0) 0 d_F_live_30 rfl rfl rfl ?_
        refine z_bipush (n := 6) d_F_live_31 (by decide) (by decide) ?_
        refine z_cV (c := 0) (as := [(0, 6)]) (d' := 1) (st := []) d_F_live_33 mi_F_none ml_F_121 mv_F_none se_F_none rfl rfl rfl rfl (ks_F_0 hx) rfl rfl (kl_F_0 hx) rfl rfl (b_F_none_0 hx ?_)
        intro _
        show z_U X 8 m_F_live 36 [(0, (2, 0)), (1, (0, a1))] [(0, (-1))] N σ (z_up g 0 0 6) Q
        exact z_iret d_F_live_36 rfl (by decide) (by decide) ⟨rfl, rfl, h⟩
    · have h := h.2 c2
      refine z_aload_n (i := 0) (c := 0) 0 d_F_live_11 rfl rfl rfl ?_
      refine z_iconst (n := 1) d_F_live_12 (by decide) ?_
      refine z_cV (c := 0) (as := [(0, 1)]) (d' := 1) (st := []) d_F_live_13 mi_F_none ml_F_121 mv_F_none se_F_none rfl rfl rfl rfl (ks_F_0 hx) rfl rfl (kl_F_0 hx) rfl rfl (b_F_none_0 hx ?_)
      intro _
      show z_U X 8 m_F_live 16 [(0, (2, 0)), (1, (0, a1))] [(0, (-1))] N σ (z_up g 0 0 1) Q
      exact z_iret d_F_live_16 rfl (by decide) (by decide) ⟨rfl, rfl, h⟩
theorem d_F_mean_0 : decode (z_c m_F_mean) 0 = .ok (.iload_n 1, 1) := by decide +kernel
theorem d_F_mean_1 : decode (z_c m_F_mean) 1 = .ok (.ifCond .lt 32, 3) := by decide +kernel
theorem d_F_mean_4 : decode (z_c m_F_mean) 4 = .ok (.iload_n 1, 1) := by decide +kernel
theorem d_F_mean_5 : decode (z_c m_F_mean) 5 = .ok (.sipush 9999, 3) := by decide +kernel
theorem d_F_mean_8 : decode (z_c m_F_mean) 8 = .ok (.if_icmp .gt 25, 3) := by decide +kernel
theorem d_F_mean_11 : decode (z_c m_F_mean) 11 = .ok (.iload_n 2, 1) := by decide +kernel
theorem d_F_mean_12 : decode (z_c m_F_mean) 12 = .ok (.iconst 1, 1) := by decide +kernel
theorem d_F_mean_13 : decode (z_c m_F_mean) 13 = .ok (.if_icmp .lt 20, 3) := by decide +kernel
theorem d_F_mean_16 : decode (z_c m_F_mean) 16 = .ok (.iload_n 2, 1) := by decide +kernel
theorem d_F_mean_17 : decode (z_c m_F_mean) 17 = .ok (.bipush 20, 2) := by decide +kernel
theorem d_F_mean_19 : decode (z_c m_F_mean) 19 = .ok (.if_icmp .gt 14, 3) := by decide +kernel
theorem d_F_mean_22 : decode (z_c m_F_mean) 22 = .ok (.iload_n 1, 1) := by decide +kernel
theorem d_F_mean_23 : decode (z_c m_F_mean) 23 = .ok (.iload_n 2, 1) := by decide +kernel
theorem d_F_mean_24 : decode (z_c m_F_mean) 24 = .ok (.iadd, 1) := by decide +kernel
theorem d_F_mean_25 : decode (z_c m_F_mean) 25 = .ok (.iconst 1, 1) := by decide +kernel
theorem d_F_mean_26 : decode (z_c m_F_mean) 26 = .ok (.isub, 1) := by decide +kernel
theorem d_F_mean_27 : decode (z_c m_F_mean) 27 = .ok (.sipush 9999, 3) := by decide +kernel
theorem d_F_mean_30 : decode (z_c m_F_mean) 30 = .ok (.if_icmp .le 9, 3) := by decide +kernel
theorem d_F_mean_33 : decode (z_c m_F_mean) 33 = .ok (.aload_n 0, 1) := by decide +kernel
theorem d_F_mean_34 : decode (z_c m_F_mean) 34 = .ok (.iconst 1, 1) := by decide +kernel
theorem d_F_mean_35 : decode (z_c m_F_mean) 35 = .ok (.invokevirtual 102, 3) := by decide +kernel
theorem d_F_mean_38 : decode (z_c m_F_mean) 38 = .ok (.ireturn, 1) := by decide +kernel
theorem d_F_mean_39 : decode (z_c m_F_mean) 39 = .ok (.aload_n 0, 1) := by decide +kernel
theorem d_F_mean_40 : decode (z_c m_F_mean) 40 = .ok (.getfield 67, 3) := by decide +kernel
theorem d_F_mean_43 : decode (z_c m_F_mean) 43 = .ok (.getfield 179, 3) := by decide +kernel
theorem d_F_mean_46 : decode (z_c m_F_mean) 46 = .ok (.getfield 411, 3) := by decide +kernel
theorem d_F_mean_49 : decode (z_c m_F_mean) 49 = .ok (.ifCond .ne 10, 3) := by decide +kernel
theorem d_F_mean_52 : decode (z_c m_F_mean) 52 = .ok (.aload_n 0, 1) := by decide +kernel
theorem d_F_mean_53 : decode (z_c m_F_mean) 53 = .ok (.bipush 6, 2) := by decide +kernel
theorem d_F_mean_55 : decode (z_c m_F_mean) 55 = .ok (.invokevirtual 102, 3) := by decide +kernel
theorem d_F_mean_58 : decode (z_c m_F_mean) 58 = .ok (.ireturn, 1) := by decide +kernel
theorem d_F_mean_59 : decode (z_c m_F_mean) 59 = .ok (.lconst 0, 1) := by decide +kernel
theorem d_F_mean_60 : decode (z_c m_F_mean) 60 = .ok (.lstore_n 3, 1) := by decide +kernel
theorem d_F_mean_61 : decode (z_c m_F_mean) 61 = .ok (.iconst 0, 1) := by decide +kernel
theorem d_F_mean_62 : decode (z_c m_F_mean) 62 = .ok (.istore 5, 2) := by decide +kernel
theorem d_F_mean_64 : decode (z_c m_F_mean) 64 = .ok (.iload 5, 2) := by decide +kernel
theorem d_F_mean_66 : decode (z_c m_F_mean) 66 = .ok (.iload_n 2, 1) := by decide +kernel
theorem d_F_mean_67 : decode (z_c m_F_mean) 67 = .ok (.if_icmp .ge 49, 3) := by decide +kernel
theorem d_F_mean_70 : decode (z_c m_F_mean) 70 = .ok (.aload_n 0, 1) := by decide +kernel
theorem d_F_mean_71 : decode (z_c m_F_mean) 71 = .ok (.getfield 71, 3) := by decide +kernel
theorem d_F_mean_74 : decode (z_c m_F_mean) 74 = .ok (.aload_n 0, 1) := by decide +kernel
theorem d_F_mean_75 : decode (z_c m_F_mean) 75 = .ok (.getfield 67, 3) := by decide +kernel
theorem d_F_mean_78 : decode (z_c m_F_mean) 78 = .ok (.invokevirtual 163, 3) := by decide +kernel
theorem d_F_mean_81 : decode (z_c m_F_mean) 81 = .ok (.aload_n 0, 1) := by decide +kernel
theorem d_F_mean_82 : decode (z_c m_F_mean) 82 = .ok (.getfield 88, 3) := by decide +kernel
theorem d_F_mean_85 : decode (z_c m_F_mean) 85 = .ok (.aload_n 0, 1) := by decide +kernel
theorem d_F_mean_86 : decode (z_c m_F_mean) 86 = .ok (.getfield 71, 3) := by decide +kernel
theorem d_F_mean_89 : decode (z_c m_F_mean) 89 = .ok (.iload_n 1, 1) := by decide +kernel
theorem d_F_mean_90 : decode (z_c m_F_mean) 90 = .ok (.iload 5, 2) := by decide +kernel
theorem d_F_mean_92 : decode (z_c m_F_mean) 92 = .ok (.iadd, 1) := by decide +kernel
theorem d_F_mean_93 : decode (z_c m_F_mean) 93 = .ok (.invokevirtual 414, 3) := by decide +kernel
theorem d_F_mean_96 : decode (z_c m_F_mean) 96 = .ok (.lload_n 3, 1) := by decide +kernel
theorem d_F_mean_97 : decode (z_c m_F_mean) 97 = .ok (.aload_n 0, 1) := by decide +kernel
theorem d_F_mean_98 : decode (z_c m_F_mean) 98 = .ok (.getfield 71, 3) := by decide +kernel
theorem d_F_mean_101 : decode (z_c m_F_mean) 101 = .ok (.getfield 217, 3) := by decide +kernel
theorem d_F_mean_104 : decode (z_c m_F_mean) 104 = .ok (.getfield 220, 3) := by decide +kernel
theorem d_F_mean_107 : decode (z_c m_F_mean) 107 = .ok (.i2l, 1) := by decide +kernel
theorem d_F_mean_108 : decode (z_c m_F_mean) 108 = .ok (.ladd, 1) := by decide +kernel
theorem d_F_mean_109 : decode (z_c m_F_mean) 109 = .ok (.lstore_n 3, 1) := by decide +kernel
theorem d_F_mean_110 : decode (z_c m_F_mean) 110 = .ok (.iinc 5 1, 3) := by decide +kernel
theorem d_F_mean_113 : decode (z_c m_F_mean) 113 = .ok (.goto (-49), 3) := by decide +kernel
theorem d_F_mean_116 : decode (z_c m_F_mean) 116 = .ok (.aload_n 0, 1) := by decide +kernel
theorem d_F_mean_117 : decode (z_c m_F_mean) 117 = .ok (.lload_n 3, 1) := by decide +kernel
theorem d_F_mean_118 : decode (z_c m_F_mean) 118 = .ok (.iload_n 2, 1) := by decide +kernel
theorem d_F_mean_119 : decode (z_c m_F_mean) 119 = .ok (.i2l, 1) := by decide +kernel
theorem d_F_mean_120 : decode (z_c m_F_mean) 120 = .ok (.invokevirtual 233, 3) := by decide +kernel
theorem d_F_mean_123 : decode (z_c m_F_mean) 123 = .ok (.ireturn, 1) := by decide +kernel
abbrev L_F_mean_64 (X : z_X) (N : Nat) (σ : z_G) (x1 x2 x3 x5 : Int) (g : z_G) (Q : z_P) : Prop := z_U X 8 m_F_mean 64 [(0, (2, 0)), (1, (0, x1)), (2, (0, x2)), (3, (1, x3)), (5, (0, x5))] [] N σ g Q
set_option maxRecDepth 8000 in
theorem b_F_mean_0 {X : z_X} {N : Nat} {σ g : z_G} {Q : z_P} {a1 a2 : Int} (hx : z_lay X N σ 0 z_SF z_RF) (h : ((a1 < 0) → Q 0 (z_up g 0 0 1)) ∧ (¬ (a1 < 0) → (((9999 < a1) → Q 0 (z_up g 0 0 1)) ∧ (¬ (9999 < a1) → (((a2 < 1) → Q 0 (z_up g 0 0 1)) ∧ (¬ (a2 < 1) → (((20 < a2) → Q 0 (z_up g 0 0 1)) ∧ (¬ (20 < a2) → ((-2147483648 ≤ (a1 + a2) ∧ (a1 + a2) ≤ 2147483647) ∧ ((-2147483648 ≤ ((a1 + a2) - 1) ∧ ((a1 + a2) - 1) ≤ 2147483647) ∧ (((((a1 + a2) - 1) ≤ 9999) → ((((g 31 0) = 0) → Q 0 (z_up g 0 0 6)) ∧ (¬ ((g 31 0) = 0) → L_F_mean_64 X N σ a1 a2 0 0 g Q))) ∧ (¬ (((a1 + a2) - 1) ≤ 9999) → Q 0 (z_up g 0 0 1))))))))))))) : z_O X 8 m_F_mean [(2, 0), (0, a1), (0, a2)] N σ g Q := by
  refine z_Oenter mi_F_mean rfl (fun _ => ?_)
  show z_U X 8 m_F_mean 0 [(0, (2, 0)), (1, (0, a1)), (2, (0, a2))] [] N σ g Q
  refine z_iload_n (i := 1) 1 d_F_mean_0 rfl rfl ?_
  refine z_if_lt (tgt := 33) d_F_mean_1 (by decide) (fun c1 => ?_) (fun c1 => ?_)
  · have h := h.1 c1
    refine z_aload_n (i := 0) (c := 0) 0 d_F_mean_33 rfl rfl rfl ?_
    refine z_iconst (n := 1) d_F_mean_34 (by decide) ?_
    refine z_cV (c := 0) (as := [(0, 1)]) (d' := 1) (st := []) d_F_mean_35 mi_F_refuse ml_F_102 mv_F_refuse se_F_refuse rfl rfl rfl rfl (ks_F_0 hx) rfl rfl (kl_F_0 hx) rfl rfl (b_F_refuse_0 hx ?_)
    intro _
    show z_U X 8 m_F_mean 38 [(0, (2, 0)), (1, (0, a1)), (2, (0, a2))] [(0, 0)] N σ (z_up g 0 0 1) Q
    exact z_zret d_F_mean_38 rfl (by decide) (by decide) (by decide) ⟨rfl, rfl, h⟩
  · have h := h.2 c1
    refine z_iload_n (i := 1) 1 d_F_mean_4 rfl rfl ?_
    refine z_sipush (n := 9999) d_F_mean_5 (by decide) (by decide) ?_
    refine z_icmp_gt (tgt := 33) d_F_mean_8 (by decide) (fun c2 => ?_) (fun c2 => ?_)
    · have h := h.1 c2
      refine z_aload_n (i := 0) (c := 0) 0 d_F_mean_33 rfl rfl rfl ?_
      refine z_iconst (n := 1) d_F_mean_34 (by decide) ?_
      refine z_cV (c := 0) (as := [(0, 1)]) (d' := 1) (st := []) d_F_mean_35 mi_F_refuse ml_F_102 mv_F_refuse se_F_refuse rfl rfl rfl rfl (ks_F_0 hx) rfl rfl (kl_F_0 hx) rfl rfl (b_F_refuse_0 hx ?_)
      intro _
      show z_U X 8 m_F_mean 38 [(0, (2, 0)), (1, (0, a1)), (2, (0, a2))] [(0, 0)] N σ (z_up g 0 0 1) Q
      exact z_zret d_F_mean_38 rfl (by decide) (by decide) (by decide) ⟨rfl, rfl, h⟩
    · have h := h.2 c2
      refine z_iload_n (i := 2) 2 d_F_mean_11 rfl rfl ?_
      refine z_iconst (n := 1) d_F_mean_12 (by decide) ?_
      refine z_icmp_lt (tgt := 33) d_F_mean_13 (by decide) (fun c3 => ?_) (fun c3 => ?_)
      · have h := h.1 c3
        refine z_aload_n (i := 0) (c := 0) 0 d_F_mean_33 rfl rfl rfl ?_
        refine z_iconst (n := 1) d_F_mean_34 (by decide) ?_
        refine z_cV (c := 0) (as := [(0, 1)]) (d' := 1) (st := []) d_F_mean_35 mi_F_refuse ml_F_102 mv_F_refuse se_F_refuse rfl rfl rfl rfl (ks_F_0 hx) rfl rfl (kl_F_0 hx) rfl rfl (b_F_refuse_0 hx ?_)
        intro _
        show z_U X 8 m_F_mean 38 [(0, (2, 0)), (1, (0, a1)), (2, (0, a2))] [(0, 0)] N σ (z_up g 0 0 1) Q
        exact z_zret d_F_mean_38 rfl (by decide) (by decide) (by decide) ⟨rfl, rfl, h⟩
      · have h := h.2 c3
        refine z_iload_n (i := 2) 2 d_F_mean_16 rfl rfl ?_
        refine z_bipush (n := 20) d_F_mean_17 (by decide) (by decide) ?_
        refine z_icmp_gt (tgt := 33) d_F_mean_19 (by decide) (fun c4 => ?_) (fun c4 => ?_)
        · have h := h.1 c4
          refine z_aload_n (i := 0) (c := 0) 0 d_F_mean_33 rfl rfl rfl ?_
          refine z_iconst (n := 1) d_F_mean_34 (by decide) ?_
          refine z_cV (c := 0) (as := [(0, 1)]) (d' := 1) (st := []) d_F_mean_35 mi_F_refuse ml_F_102 mv_F_refuse se_F_refuse rfl rfl rfl rfl (ks_F_0 hx) rfl rfl (kl_F_0 hx) rfl rfl (b_F_refuse_0 hx ?_)
          intro _
          show z_U X 8 m_F_mean 38 [(0, (2, 0)), (1, (0, a1)), (2, (0, a2))] [(0, 0)] N σ (z_up g 0 0 1) Q
          exact z_zret d_F_mean_38 rfl (by decide) (by decide) (by decide) ⟨rfl, rfl, h⟩
        · have h := h.2 c4
          refine z_iload_n (i := 1) 1 d_F_mean_22 rfl rfl ?_
          refine z_iload_n (i := 2) 2 d_F_mean_23 rfl rfl ?_
          obtain ⟨c5, h⟩ := h
          refine z_iadd d_F_mean_24 c5 ?_
          refine z_iconst (n := 1) d_F_mean_25 (by decide) ?_
          obtain ⟨c6, h⟩ := h
          refine z_isub d_F_mean_26 c6 ?_
          refine z_sipush (n := 9999) d_F_mean_27 (by decide) (by decide) ?_
          refine z_icmp_le (tgt := 39) d_F_mean_30 (by decide) (fun c7 => ?_) (fun c7 => ?_)
          · have h := h.1 c7
            refine z_aload_n (i := 0) (c := 0) 0 d_F_mean_39 rfl rfl rfl ?_
            refine z_getr (c := 0) (kI := 11) (r2 := 23) d_F_mean_40 fd_F_board fl_F_67 rfl rfl rfl (ks_F_0 hx) (kl_F_0 hx) (kr_F_0_11 hx) ?_
            refine z_getr (c := 23) (kI := 5) (r2 := 31) d_F_mean_43 fd_Bd_program fl_F_179 rfl rfl rfl (ks_F_23 hx) (kl_F_23 hx) (kr_F_23_5 hx) ?_
            refine z_getz (c := 31) (kI := 0) d_F_mean_46 fd_Pg_given fl_F_411 rfl rfl rfl (ks_F_31 hx) (kl_F_31 hx) (fun z1 => ?_)
            refine z_if_ne (tgt := 59) d_F_mean_49 (by decide) (fun c8 => ?_) (fun c8 => ?_)
            · have h := h.2 c8
              refine z_lconst (v := 0) d_F_mean_59 (by decide) (by decide) ?_
              refine z_lstore_n (i := 3) (ls' := [(3, (1, 0)), (0, (2, 0)), (1, (0, a1)), (2, (0, a2))]) d_F_mean_60 rfl rfl rfl ?_
              refine z_iconst (n := 0) d_F_mean_61 (by decide) ?_
              refine z_istore (ls' := [(5, (0, 0)), (3, (1, 0)), (0, (2, 0)), (1, (0, a1)), (2, (0, a2))]) d_F_mean_62 rfl rfl ?_
              refine z_sub (ls' := [(0, (2, 0)), (1, (0, a1)), (2, (0, a2)), (3, (1, 0)), (5, (0, 0))]) [2, 3, 4, 1, 0] rfl ?_
              exact h
            · have h := h.1 c8
              refine z_aload_n (i := 0) (c := 0) 0 d_F_mean_52 rfl rfl rfl ?_
              refine z_bipush (n := 6) d_F_mean_53 (by decide) (by decide) ?_
              refine z_cV (c := 0) (as := [(0, 6)]) (d' := 1) (st := []) d_F_mean_55 mi_F_refuse ml_F_102 mv_F_refuse se_F_refuse rfl rfl rfl rfl (ks_F_0 hx) rfl rfl (kl_F_0 hx) rfl rfl (b_F_refuse_0 hx ?_)
              intro _
              show z_U X 8 m_F_mean 58 [(0, (2, 0)), (1, (0, a1)), (2, (0, a2))] [(0, 0)] N σ (z_up g 0 0 6) Q
              exact z_zret d_F_mean_58 rfl (by decide) (by decide) (by decide) ⟨rfl, rfl, h⟩
          · have h := h.2 c7
            refine z_aload_n (i := 0) (c := 0) 0 d_F_mean_33 rfl rfl rfl ?_
            refine z_iconst (n := 1) d_F_mean_34 (by decide) ?_
            refine z_cV (c := 0) (as := [(0, 1)]) (d' := 1) (st := []) d_F_mean_35 mi_F_refuse ml_F_102 mv_F_refuse se_F_refuse rfl rfl rfl rfl (ks_F_0 hx) rfl rfl (kl_F_0 hx) rfl rfl (b_F_refuse_0 hx ?_)
            intro _
            show z_U X 8 m_F_mean 38 [(0, (2, 0)), (1, (0, a1)), (2, (0, a2))] [(0, 0)] N σ (z_up g 0 0 1) Q
            exact z_zret d_F_mean_38 rfl (by decide) (by decide) (by decide) ⟨rfl, rfl, h⟩
set_option maxRecDepth 8000 in
theorem b_F_mean_64 {X : z_X} {N : Nat} {σ g : z_G} {Q : z_P} {x1 x2 x3 x5 : Int} (hx : z_lay X N σ 0 z_SF z_RF) (h : ((x2 ≤ x5) → (z_O X 2 m_F_tell [(2, 0), (1, x3), (1, x2)] N σ g (fun r0 g0 => (r0 = 0 ∨ r0 = 1) → Q r0 g0))) ∧ (¬ (x2 ≤ x5) → (z_O X 2 m_Bd_copyFrom [(2, 37), (2, 23)] N σ g (fun r1 g1 => ((-2147483648 ≤ (x1 + x5) ∧ (x1 + x5) ≤ 2147483647) ∧ (z_O X 7 m_Wk_tour [(2, 96), (2, 37), (0, x1 + x5)] N σ g1 (fun r2 g2 => ((-9223372036854775808 ≤ (x3 + (g2 38 4)) ∧ (x3 + (g2 38 4)) ≤ 9223372036854775807) ∧ ((-2147483648 ≤ (x5 + 1) ∧ (x5 + 1) ≤ 2147483647) ∧ L_F_mean_64 X N σ x1 x2 (x3 + (g2 38 4)) (x5 + 1) g2 Q))))))))) : L_F_mean_64 X N σ x1 x2 x3 x5 g Q := by
  refine z_iload 4 d_F_mean_64 rfl ?_
  refine z_iload_n (i := 2) 2 d_F_mean_66 rfl rfl ?_
  refine z_icmp_ge (tgt := 116) d_F_mean_67 (by decide) (fun c1 => ?_) (fun c1 => ?_)
  · have h := h.1 c1
    refine z_aload_n (i := 0) (c := 0) 0 d_F_mean_116 rfl rfl rfl ?_
    refine z_lload_n (i := 3) 3 d_F_mean_117 rfl rfl ?_
    refine z_iload_n (i := 2) 2 d_F_mean_118 rfl rfl ?_
    refine z_i2l d_F_mean_119 ?_
    refine z_cV (c := 0) (as := [(1, x3), (1, x2)]) (d' := 2) (st := []) d_F_mean_120 mi_F_tell ml_F_233 mv_F_tell se_F_tell rfl rfl rfl rfl (ks_F_0 hx) rfl rfl (kl_F_0 hx) rfl rfl (z_Omono h (fun r0 g0 _ h hro => ?_))
    have h := h (z_b01 hro)
    have hzr0 := z_b01 hro
    show z_U X 8 m_F_mean 123 [(0, (2, 0)), (1, (0, x1)), (2, (0, x2)), (3, (1, x3)), (5, (0, x5))] [(0, r0)] N σ g0 Q
    exact z_zret d_F_mean_123 rfl (by decide) (by decide) hzr0 ⟨rfl, rfl, h⟩
  · have h := h.2 c1
    refine z_aload_n (i := 0) (c := 0) 0 d_F_mean_70 rfl rfl rfl ?_
    refine z_getr (c := 0) (kI := 12) (r2 := 37) d_F_mean_71 fd_F_spare fl_F_71 rfl rfl rfl (ks_F_0 hx) (kl_F_0 hx) (kr_F_0_12 hx) ?_
    refine z_aload_n (i := 0) (c := 0) 0 d_F_mean_74 rfl rfl rfl ?_
    refine z_getr (c := 0) (kI := 11) (r2 := 23) d_F_mean_75 fd_F_board fl_F_67 rfl rfl rfl (ks_F_0 hx) (kl_F_0 hx) (kr_F_0_11 hx) ?_
    refine z_cV (c := 37) (as := [(2, 23)]) (d' := 2) (st := []) d_F_mean_78 mi_Bd_copyFrom ml_F_163 mv_Bd_copyFrom se_Bd_copyFrom rfl rfl rfl rfl (ks_F_37 hx) rfl rfl (kl_F_37 hx) rfl rfl (z_Omono h (fun r1 g1 _ h hro => ?_))
    show z_U X 8 m_F_mean 81 [(0, (2, 0)), (1, (0, x1)), (2, (0, x2)), (3, (1, x3)), (5, (0, x5))] [] N σ g1 Q
    refine z_aload_n (i := 0) (c := 0) 0 d_F_mean_81 rfl rfl rfl ?_
    refine z_getr (c := 0) (kI := 16) (r2 := 96) d_F_mean_82 fd_F_trial fl_F_88 rfl rfl rfl (ks_F_0 hx) (kl_F_0 hx) (kr_F_0_16 hx) ?_
    refine z_aload_n (i := 0) (c := 0) 0 d_F_mean_85 rfl rfl rfl ?_
    refine z_getr (c := 0) (kI := 12) (r2 := 37) d_F_mean_86 fd_F_spare fl_F_71 rfl rfl rfl (ks_F_0 hx) (kl_F_0 hx) (kr_F_0_12 hx) ?_
    refine z_iload_n (i := 1) 1 d_F_mean_89 rfl rfl ?_
    refine z_iload 4 d_F_mean_90 rfl ?_
    obtain ⟨c2, h⟩ := h
    refine z_iadd d_F_mean_92 c2 ?_
    refine z_cV (c := 96) (as := [(2, 37), (0, x1 + x5)]) (d' := 7) (st := []) d_F_mean_93 mi_Wk_tour ml_F_414 mv_Wk_tour se_Wk_tour rfl rfl rfl rfl (ks_F_96 hx) rfl rfl (kl_F_96 hx) rfl rfl (z_Omono h (fun r2 g2 _ h hro => ?_))
    show z_U X 8 m_F_mean 96 [(0, (2, 0)), (1, (0, x1)), (2, (0, x2)), (3, (1, x3)), (5, (0, x5))] [] N σ g2 Q
    refine z_lload_n (i := 3) 3 d_F_mean_96 rfl rfl ?_
    refine z_aload_n (i := 0) (c := 0) 0 d_F_mean_97 rfl rfl rfl ?_
    refine z_getr (c := 0) (kI := 12) (r2 := 37) d_F_mean_98 fd_F_spare fl_F_71 rfl rfl rfl (ks_F_0 hx) (kl_F_0 hx) (kr_F_0_12 hx) ?_
    refine z_getr (c := 37) (kI := 2) (r2 := 38) d_F_mean_101 fd_Bd_walker fl_F_217 rfl rfl rfl (ks_F_37 hx) (kl_F_37 hx) (kr_F_37_2 hx) ?_
    refine z_geti (c := 38) (kI := 4) d_F_mean_104 fd_Sp_deep fl_F_220 (Or.inl rfl) rfl rfl (ks_F_38 hx) (kl_F_38 hx) ?_
    refine z_i2l d_F_mean_107 ?_
    obtain ⟨c3, h⟩ := h
    refine z_ladd d_F_mean_108 c3 ?_
    refine z_lstore_n (i := 3) (ls' := [(3, (1, x3 + (g2 38 4))), (0, (2, 0)), (1, (0, x1)), (2, (0, x2)), (5, (0, x5))]) d_F_mean_109 rfl rfl rfl ?_
    obtain ⟨c4, h⟩ := h
    refine z_iinc (n := 1) (ls' := [(5, (0, x5 + 1)), (3, (1, x3 + (g2 38 4))), (0, (2, 0)), (1, (0, x1)), (2, (0, x2))]) 4 d_F_mean_110 rfl c4 rfl rfl ?_
    refine z_goto (tgt := 64) d_F_mean_113 (by decide) ?_
    refine z_sub (ls' := [(0, (2, 0)), (1, (0, x1)), (2, (0, x2)), (3, (1, x3 + (g2 38 4))), (5, (0, x5 + 1))]) [2, 3, 4, 1, 0] rfl ?_
    exact h
theorem d_Pa_kindHere_0 : decode (z_c m_Pa_kindHere) 0 = .ok (.iconst 0, 1) := by decide +kernel
theorem d_Pa_kindHere_1 : decode (z_c m_Pa_kindHere) 1 = .ok (.istore_n 1, 1) := by decide +kernel
theorem d_Pa_kindHere_2 : decode (z_c m_Pa_kindHere) 2 = .ok (.iload_n 1, 1) := by decide +kernel
theorem d_Pa_kindHere_3 : decode (z_c m_Pa_kindHere) 3 = .ok (.bipush 11, 2) := by decide +kernel
theorem d_Pa_kindHere_5 : decode (z_c m_Pa_kindHere) 5 = .ok (.if_icmp .ge 25, 3) := by decide +kernel
theorem d_Pa_kindHere_8 : decode (z_c m_Pa_kindHere) 8 = .ok (.aload_n 0, 1) := by decide +kernel
theorem d_Pa_kindHere_9 : decode (z_c m_Pa_kindHere) 9 = .ok (.getfield 12, 3) := by decide +kernel
theorem d_Pa_kindHere_12 : decode (z_c m_Pa_kindHere) 12 = .ok (.iload_n 1, 1) := by decide +kernel
theorem d_Pa_kindHere_13 : decode (z_c m_Pa_kindHere) 13 = .ok (.invokestatic 231, 3) := by decide +kernel
theorem d_Pa_kindHere_16 : decode (z_c m_Pa_kindHere) 16 = .ok (.invokevirtual 72, 3) := by decide +kernel
theorem d_Pa_kindHere_19 : decode (z_c m_Pa_kindHere) 19 = .ok (.ifCond .eq 5, 3) := by decide +kernel
theorem d_Pa_kindHere_22 : decode (z_c m_Pa_kindHere) 22 = .ok (.iload_n 1, 1) := by decide +kernel
theorem d_Pa_kindHere_23 : decode (z_c m_Pa_kindHere) 23 = .ok (.ireturn, 1) := by decide +kernel
theorem d_Pa_kindHere_24 : decode (z_c m_Pa_kindHere) 24 = .ok (.iinc 1 1, 3) := by decide +kernel
theorem d_Pa_kindHere_27 : decode (z_c m_Pa_kindHere) 27 = .ok (.goto (-25), 3) := by decide +kernel
theorem d_Pa_kindHere_30 : decode (z_c m_Pa_kindHere) 30 = .ok (.iconst (-1), 1) := by decide +kernel
theorem d_Pa_kindHere_31 : decode (z_c m_Pa_kindHere) 31 = .ok (.ireturn, 1) := by decide +kernel
abbrev L_Pa_kindHere_2 (X : z_X) (N : Nat) (σ : z_G) (x1 : Int) (g : z_G) (Q : z_P) : Prop := z_U X 8 m_Pa_kindHere 2 [(0, (2, 9)), (1, (0, x1))] [] N σ g Q
set_option maxRecDepth 8000 in
theorem b_Pa_kindHere_0 {X : z_X} {N : Nat} {σ g : z_G} {Q : z_P} (hx : z_lay X N σ 0 z_SF z_RF) (h : L_Pa_kindHere_2 X N σ 0 g Q) : z_O X 8 m_Pa_kindHere [(2, 9)] N σ g Q := by
  refine z_Oenter mi_Pa_kindHere rfl (fun _ => ?_)
  show z_U X 8 m_Pa_kindHere 0 [(0, (2, 9))] [] N σ g Q
  refine z_iconst (n := 0) d_Pa_kindHere_0 (by decide) ?_
  refine z_istore_n (i := 1) (ls' := [(1, (0, 0)), (0, (2, 9))]) d_Pa_kindHere_1 rfl rfl rfl ?_
  refine z_sub (ls' := [(0, (2, 9)), (1, (0, 0))]) [1, 0] rfl ?_
  exact h
set_option maxRecDepth 8000 in
theorem b_Pa_kindHere_2 {X : z_X} {N : Nat} {σ g : z_G} {Q : z_P} {x1 : Int} (hx : z_lay X N σ 0 z_SF z_RF) (h : ((11 ≤ x1) → Q (-1) g) ∧ (¬ (11 ≤ x1) → (z_O X 1 m_Pg_wordOf [(0, x1)] N σ g (fun r0 g0 => (z_O X 7 m_Ta_isWord [(2, 10), (4, r0)] N σ g0 (fun r1 g1 => (r1 = 0 ∨ r1 = 1) → (((r1 = 0) → ((-2147483648 ≤ (x1 + 1) ∧ (x1 + 1) ≤ 2147483647) ∧ L_Pa_kindHere_2 X N σ (x1 + 1) g1 Q)) ∧ (¬ (r1 = 0) → Q x1 g1)))))))) : L_Pa_kindHere_2 X N σ x1 g Q := by
  refine z_iload_n (i := 1) 1 d_Pa_kindHere_2 rfl rfl ?_
  refine z_bipush (n := 11) d_Pa_kindHere_3 (by decide) (by decide) ?_
  refine z_icmp_ge (tgt := 30) d_Pa_kindHere_5 (by decide) (fun c1 => ?_) (fun c1 => ?_)
  · have h := h.1 c1
    refine z_iconst (n := (-1)) d_Pa_kindHere_30 (by decide) ?_
    exact z_iret d_Pa_kindHere_31 rfl (by decide) (by decide) ⟨rfl, rfl, h⟩
  · have h := h.2 c1
    refine z_aload_n (i := 0) (c := 9) 0 d_Pa_kindHere_8 rfl rfl rfl ?_
    refine z_getr (c := 9) (kI := 0) (r2 := 10) d_Pa_kindHere_9 fd_Pa_tape fl_Pa_12 rfl rfl rfl (ks_F_9 hx) (kl_F_9 hx) (kr_F_9_0 hx) ?_
    refine z_iload_n (i := 1) 1 d_Pa_kindHere_12 rfl rfl ?_
    refine z_cS (as := [(0, x1)]) (d' := 1) (st := [(2, 10)]) d_Pa_kindHere_13 mi_Pg_wordOf ml_Pa_231 ms_Pg_wordOf rfl rfl rfl rfl rfl (z_Omono h (fun r0 g0 _ h hro => ?_))
    show z_U X 8 m_Pa_kindHere 16 [(0, (2, 9)), (1, (0, x1))] [(4, r0), (2, 10)] N σ g0 Q
    refine z_cV (c := 10) (as := [(4, r0)]) (d' := 7) (st := []) d_Pa_kindHere_16 mi_Ta_isWord ml_Pa_72 mv_Ta_isWord se_Ta_isWord rfl rfl rfl rfl (ks_F_10 hx) rfl rfl (kl_F_10 hx) rfl rfl (z_Omono h (fun r1 g1 _ h hro => ?_))
    have h := h (z_b01 hro)
    have hzr1 := z_b01 hro
    show z_U X 8 m_Pa_kindHere 19 [(0, (2, 9)), (1, (0, x1))] [(0, r1)] N σ g1 Q
    refine z_if_eq (tgt := 24) d_Pa_kindHere_19 (by decide) (fun c2 => ?_) (fun c2 => ?_)
    · have h := h.1 c2
      obtain ⟨c3, h⟩ := h
      refine z_iinc (n := 1) (ls' := [(1, (0, x1 + 1)), (0, (2, 9))]) 1 d_Pa_kindHere_24 rfl c3 rfl rfl ?_
      refine z_goto (tgt := 2) d_Pa_kindHere_27 (by decide) ?_
      refine z_sub (ls' := [(0, (2, 9)), (1, (0, x1 + 1))]) [1, 0] rfl ?_
      exact h
    · have h := h.2 c2
      refine z_iload_n (i := 1) 1 d_Pa_kindHere_22 rfl rfl ?_
      exact z_iret d_Pa_kindHere_23 rfl (by decide) (by decide) ⟨rfl, rfl, h⟩
theorem d_Ta_passWord_0 : decode (z_c m_Ta_passWord) 0 = .ok (.aload_n 0, 1) := by decide +kernel
theorem d_Ta_passWord_1 : decode (z_c m_Ta_passWord) 1 = .ok (.aload_n 1, 1) := by decide +kernel
theorem d_Ta_passWord_2 : decode (z_c m_Ta_passWord) 2 = .ok (.invokevirtual 69, 3) := by decide +kernel
theorem d_Ta_passWord_5 : decode (z_c m_Ta_passWord) 5 = .ok (.ifCond .ne 8, 3) := by decide +kernel
theorem d_Ta_passWord_8 : decode (z_c m_Ta_passWord) 8 = .ok (.aload_n 0, 1) := by decide +kernel
theorem d_Ta_passWord_9 : decode (z_c m_Ta_passWord) 9 = .ok (.invokevirtual 73, 3) := by decide +kernel
theorem d_Ta_passWord_12 : decode (z_c m_Ta_passWord) 12 = .ok (.ireturn, 1) := by decide +kernel
theorem d_Ta_passWord_13 : decode (z_c m_Ta_passWord) 13 = .ok (.aload_n 0, 1) := by decide +kernel
theorem d_Ta_passWord_14 : decode (z_c m_Ta_passWord) 14 = .ok (.invokevirtual 40, 3) := by decide +kernel
theorem d_Ta_passWord_17 : decode (z_c m_Ta_passWord) 17 = .ok (.iconst 1, 1) := by decide +kernel
theorem d_Ta_passWord_18 : decode (z_c m_Ta_passWord) 18 = .ok (.ireturn, 1) := by decide +kernel
set_option maxRecDepth 8000 in
theorem b_Ta_passWord_0 {X : z_X} {N : Nat} {σ g : z_G} {Q : z_P} {a1 : Int} (hx : z_lay X N σ 0 z_SF z_RF) (h : z_O X 7 m_Ta_isWord [(2, 10), (4, a1)] N σ g (fun r0 g0 => (r0 = 0 ∨ r0 = 1) → (((r0 = 0) → ((((g0 10 4) = 4) → Q 0 (z_up (z_up g0 10 9 1) 10 10 (g0 10 6))) ∧ (¬ ((g0 10 4) = 4) → Q 0 (z_up (z_up g0 10 9 2) 10 10 (g0 10 6))))) ∧ (¬ (r0 = 0) → (z_O X 2 m_Ta_advance [(2, 10)] N σ g0 (fun r1 g1 => Q 1 g1)))))) : z_O X 8 m_Ta_passWord [(2, 10), (4, a1)] N σ g Q := by
  refine z_Oenter mi_Ta_passWord rfl (fun _ => ?_)
  show z_U X 8 m_Ta_passWord 0 [(0, (2, 10)), (1, (4, a1))] [] N σ g Q
  refine z_aload_n (i := 0) (c := 10) 0 d_Ta_passWord_0 rfl rfl rfl ?_
  refine z_sload_n (i := 1) 1 d_Ta_passWord_1 rfl rfl ?_
  refine z_cV (c := 10) (as := [(4, a1)]) (d' := 7) (st := []) d_Ta_passWord_2 mi_Ta_isWord ml_Ta_69 mv_Ta_isWord se_Ta_isWord rfl rfl rfl rfl (ks_F_10 hx) rfl rfl (kl_F_10 hx) rfl rfl (z_Omono h (fun r0 g0 _ h hro => ?_))
  have h := h (z_b01 hro)
  have hzr0 := z_b01 hro
  show z_U X 8 m_Ta_passWord 5 [(0, (2, 10)), (1, (4, a1))] [(0, r0)] N σ g0 Q
  refine z_if_ne (tgt := 13) d_Ta_passWord_5 (by decide) (fun c1 => ?_) (fun c1 => ?_)
  · have h := h.2 c1
    refine z_aload_n (i := 0) (c := 10) 0 d_Ta_passWord_13 rfl rfl rfl ?_
    refine z_cV (c := 10) (as := []) (d' := 2) (st := []) d_Ta_passWord_14 mi_Ta_advance ml_Ta_40 mv_Ta_advance se_Ta_advance rfl rfl rfl rfl (ks_F_10 hx) rfl rfl (kl_F_10 hx) rfl rfl (z_Omono h (fun r1 g1 _ h hro => ?_))
    show z_U X 8 m_Ta_passWord 17 [(0, (2, 10)), (1, (4, a1))] [] N σ g1 Q
    refine z_iconst (n := 1) d_Ta_passWord_17 (by decide) ?_
    exact z_zret d_Ta_passWord_18 rfl (by decide) (by decide) (by decide) ⟨rfl, rfl, h⟩
  · have h := h.1 c1
    refine z_aload_n (i := 0) (c := 10) 0 d_Ta_passWord_8 rfl rfl rfl ?_
    refine z_cV (c := 10) (as := []) (d' := 2) (st := []) d_Ta_passWord_9 mi_Ta_failHere ml_Ta_73 mv_Ta_failHere se_Ta_failHere rfl rfl rfl rfl (ks_F_10 hx) rfl rfl (kl_F_10 hx) rfl rfl (b_Ta_failHere_0 hx ?_)
    refine ⟨fun c2 => ?_, fun c2 => ?_⟩
    · have h := h.1 c2
      intro _
      show z_U X 8 m_Ta_passWord 12 [(0, (2, 10)), (1, (4, a1))] [(0, 0)] N σ (z_up (z_up g0 10 9 1) 10 10 (g0 10 6)) Q
      exact z_zret d_Ta_passWord_12 rfl (by decide) (by decide) (by decide) ⟨rfl, rfl, h⟩
    · have h := h.2 c2
      intro _
      show z_U X 8 m_Ta_passWord 12 [(0, (2, 10)), (1, (4, a1))] [(0, 0)] N σ (z_up (z_up g0 10 9 2) 10 10 (g0 10 6)) Q
      exact z_zret d_Ta_passWord_12 rfl (by decide) (by decide) (by decide) ⟨rfl, rfl, h⟩
theorem d_Pa_readValue_0 : decode (z_c m_Pa_readValue) 0 = .ok (.aload_n 0, 1) := by decide +kernel
theorem d_Pa_readValue_1 : decode (z_c m_Pa_readValue) 1 = .ok (.getfield 12, 3) := by decide +kernel
theorem d_Pa_readValue_4 : decode (z_c m_Pa_readValue) 4 = .ok (.iconst 0, 1) := by decide +kernel
theorem d_Pa_readValue_5 : decode (z_c m_Pa_readValue) 5 = .ok (.sipush 9999, 3) := by decide +kernel
theorem d_Pa_readValue_8 : decode (z_c m_Pa_readValue) 8 = .ok (.invokevirtual 112, 3) := by decide +kernel
theorem d_Pa_readValue_11 : decode (z_c m_Pa_readValue) 11 = .ok (.ifCond .ne 5, 3) := by decide +kernel
theorem d_Pa_readValue_14 : decode (z_c m_Pa_readValue) 14 = .ok (.iconst 0, 1) := by decide +kernel
theorem d_Pa_readValue_15 : decode (z_c m_Pa_readValue) 15 = .ok (.ireturn, 1) := by decide +kernel
theorem d_Pa_readValue_16 : decode (z_c m_Pa_readValue) 16 = .ok (.aload_n 0, 1) := by decide +kernel
theorem d_Pa_readValue_17 : decode (z_c m_Pa_readValue) 17 = .ok (.getfield 12, 3) := by decide +kernel
theorem d_Pa_readValue_20 : decode (z_c m_Pa_readValue) 20 = .ok (.getfield 115, 3) := by decide +kernel
theorem d_Pa_readValue_23 : decode (z_c m_Pa_readValue) 23 = .ok (.istore_n 1, 1) := by decide +kernel
theorem d_Pa_readValue_24 : decode (z_c m_Pa_readValue) 24 = .ok (.aload_n 0, 1) := by decide +kernel
theorem d_Pa_readValue_25 : decode (z_c m_Pa_readValue) 25 = .ok (.getfield 12, 3) := by decide +kernel
theorem d_Pa_readValue_28 : decode (z_c m_Pa_readValue) 28 = .ok (.ldc 162, 2) := by decide +kernel
theorem d_Pa_readValue_30 : decode (z_c m_Pa_readValue) 30 = .ok (.invokevirtual 164, 3) := by decide +kernel
theorem d_Pa_readValue_33 : decode (z_c m_Pa_readValue) 33 = .ok (.ifCond .eq 21, 3) := by decide +kernel
theorem d_Pa_readValue_36 : decode (z_c m_Pa_readValue) 36 = .ok (.aload_n 0, 1) := by decide +kernel
theorem d_Pa_readValue_37 : decode (z_c m_Pa_readValue) 37 = .ok (.getfield 12, 3) := by decide +kernel
theorem d_Pa_readValue_40 : decode (z_c m_Pa_readValue) 40 = .ok (.iconst 1, 1) := by decide +kernel
theorem d_Pa_readValue_41 : decode (z_c m_Pa_readValue) 41 = .ok (.iload_n 1, 1) := by decide +kernel
theorem d_Pa_readValue_42 : decode (z_c m_Pa_readValue) 42 = .ok (.invokestatic 167, 3) := by decide +kernel
theorem d_Pa_readValue_45 : decode (z_c m_Pa_readValue) 45 = .ok (.sipush 9999, 3) := by decide +kernel
theorem d_Pa_readValue_48 : decode (z_c m_Pa_readValue) 48 = .ok (.invokevirtual 112, 3) := by decide +kernel
theorem d_Pa_readValue_51 : decode (z_c m_Pa_readValue) 51 = .ok (.ifCond .ne 5, 3) := by decide +kernel
theorem d_Pa_readValue_54 : decode (z_c m_Pa_readValue) 54 = .ok (.iconst 0, 1) := by decide +kernel
theorem d_Pa_readValue_55 : decode (z_c m_Pa_readValue) 55 = .ok (.ireturn, 1) := by decide +kernel
theorem d_Pa_readValue_56 : decode (z_c m_Pa_readValue) 56 = .ok (.aload_n 0, 1) := by decide +kernel
theorem d_Pa_readValue_57 : decode (z_c m_Pa_readValue) 57 = .ok (.getfield 21, 3) := by decide +kernel
theorem d_Pa_readValue_60 : decode (z_c m_Pa_readValue) 60 = .ok (.iload_n 1, 1) := by decide +kernel
theorem d_Pa_readValue_61 : decode (z_c m_Pa_readValue) 61 = .ok (.aload_n 0, 1) := by decide +kernel
theorem d_Pa_readValue_62 : decode (z_c m_Pa_readValue) 62 = .ok (.getfield 12, 3) := by decide +kernel
theorem d_Pa_readValue_65 : decode (z_c m_Pa_readValue) 65 = .ok (.getfield 115, 3) := by decide +kernel
theorem d_Pa_readValue_68 : decode (z_c m_Pa_readValue) 68 = .ok (.invokevirtual 172, 3) := by decide +kernel
theorem d_Pa_readValue_71 : decode (z_c m_Pa_readValue) 71 = .ok (.iconst 1, 1) := by decide +kernel
theorem d_Pa_readValue_72 : decode (z_c m_Pa_readValue) 72 = .ok (.ireturn, 1) := by decide +kernel
set_option maxRecDepth 8000 in
theorem b_Pa_readValue_0 {X : z_X} {N : Nat} {σ g : z_G} {Q : z_P} (hx : z_lay X N σ 0 z_SF z_RF) (h : z_O X 3 m_Ta_passNumber [(2, 10), (0, 0), (0, 9999)] N σ g (fun r0 g0 => (r0 = 0 ∨ r0 = 1) → (((r0 = 0) → Q 0 g0) ∧ (¬ (r0 = 0) → (z_O X 8 m_Ta_passWord [(2, 10), (4, 3)] N σ g0 (fun r1 g1 => (r1 = 0 ∨ r1 = 1) → (((r1 = 0) → Q 0 g1) ∧ (¬ (r1 = 0) → (((1 < (g0 10 7)) → (z_O X 3 m_Ta_passNumber [(2, 10), (0, g0 10 7), (0, 9999)] N σ g1 (fun r2 g2 => (r2 = 0 ∨ r2 = 1) → (((r2 = 0) → Q 0 g2) ∧ (¬ (r2 = 0) → (z_O X 2 m_Ch_unfold [(2, 12), (0, g0 10 7), (0, g2 10 7)] N σ g2 (fun r3 g3 => Q 1 g3))))))) ∧ (¬ (1 < (g0 10 7)) → (z_O X 3 m_Ta_passNumber [(2, 10), (0, 1), (0, 9999)] N σ g1 (fun r4 g4 => (r4 = 0 ∨ r4 = 1) → (((r4 = 0) → Q 0 g4) ∧ (¬ (r4 = 0) → (z_O X 2 m_Ch_unfold [(2, 12), (0, g0 10 7), (0, g4 10 7)] N σ g4 (fun r5 g5 => Q 1 g5)))))))))))))))) : z_O X 9 m_Pa_readValue [(2, 9)] N σ g Q := by
  refine z_Oenter mi_Pa_readValue rfl (fun _ => ?_)
  show z_U X 9 m_Pa_readValue 0 [(0, (2, 9))] [] N σ g Q
  refine z_aload_n (i := 0) (c := 9) 0 d_Pa_readValue_0 rfl rfl rfl ?_
  refine z_getr (c := 9) (kI := 0) (r2 := 10) d_Pa_readValue_1 fd_Pa_tape fl_Pa_12 rfl rfl rfl (ks_F_9 hx) (kl_F_9 hx) (kr_F_9_0 hx) ?_
  refine z_iconst (n := 0) d_Pa_readValue_4 (by decide) ?_
  refine z_sipush (n := 9999) d_Pa_readValue_5 (by decide) (by decide) ?_
  refine z_cV (c := 10) (as := [(0, 0), (0, 9999)]) (d' := 3) (st := []) d_Pa_readValue_8 mi_Ta_passNumber ml_Pa_112 mv_Ta_passNumber se_Ta_passNumber rfl rfl rfl rfl (ks_F_10 hx) rfl rfl (kl_F_10 hx) rfl rfl (z_Omono h (fun r0 g0 _ h hro => ?_))
  have h := h (z_b01 hro)
  have hzr0 := z_b01 hro
  show z_U X 9 m_Pa_readValue 11 [(0, (2, 9))] [(0, r0)] N σ g0 Q
  refine z_if_ne (tgt := 16) d_Pa_readValue_11 (by decide) (fun c1 => ?_) (fun c1 => ?_)
  · have h := h.2 c1
    refine z_aload_n (i := 0) (c := 9) 0 d_Pa_readValue_16 rfl rfl rfl ?_
    refine z_getr (c := 9) (kI := 0) (r2 := 10) d_Pa_readValue_17 fd_Pa_tape fl_Pa_12 rfl rfl rfl (ks_F_9 hx) (kl_F_9 hx) (kr_F_9_0 hx) ?_
    refine z_geti (c := 10) (kI := 7) d_Pa_readValue_20 fd_Ta_number fl_Pa_115 (Or.inl rfl) rfl rfl (ks_F_10 hx) (kl_F_10 hx) ?_
    refine z_istore_n (i := 1) (ls' := [(1, (0, g0 10 7)), (0, (2, 9))]) d_Pa_readValue_23 rfl rfl rfl ?_
    refine z_aload_n (i := 0) (c := 9) 1 d_Pa_readValue_24 rfl rfl rfl ?_
    refine z_getr (c := 9) (kI := 0) (r2 := 10) d_Pa_readValue_25 fd_Pa_tape fl_Pa_12 rfl rfl rfl (ks_F_9 hx) (kl_F_9 hx) (kr_F_9_0 hx) ?_
    refine z_ldcs (q := ("FareyRank$Parser", 162, 3)) d_Pa_readValue_28 (List.mem_of_getElem? (i := 3) rfl) rfl rfl rfl ?_
    refine z_cV (c := 10) (as := [(4, 3)]) (d' := 8) (st := []) d_Pa_readValue_30 mi_Ta_passWord ml_Pa_164 mv_Ta_passWord se_Ta_passWord rfl rfl rfl rfl (ks_F_10 hx) rfl rfl (kl_F_10 hx) rfl rfl (z_Omono h (fun r1 g1 _ h hro => ?_))
    have h := h (z_b01 hro)
    have hzr1 := z_b01 hro
    show z_U X 9 m_Pa_readValue 33 [(1, (0, g0 10 7)), (0, (2, 9))] [(0, r1)] N σ g1 Q
    refine z_if_eq (tgt := 54) d_Pa_readValue_33 (by decide) (fun c2 => ?_) (fun c2 => ?_)
    · have h := h.1 c2
      refine z_iconst (n := 0) d_Pa_readValue_54 (by decide) ?_
      exact z_zret d_Pa_readValue_55 rfl (by decide) (by decide) (by decide) ⟨rfl, rfl, h⟩
    · have h := h.2 c2
      refine z_aload_n (i := 0) (c := 9) 1 d_Pa_readValue_36 rfl rfl rfl ?_
      refine z_getr (c := 9) (kI := 0) (r2 := 10) d_Pa_readValue_37 fd_Pa_tape fl_Pa_12 rfl rfl rfl (ks_F_9 hx) (kl_F_9 hx) (kr_F_9_0 hx) ?_
      refine z_iconst (n := 1) d_Pa_readValue_40 (by decide) ?_
      refine z_iload_n (i := 1) 0 d_Pa_readValue_41 rfl rfl ?_
      refine z_mmax d_Pa_readValue_42 kmm_max_Pa_167 kms_max kmi kmc_max (by decide) (Nat.le_of_ble_eq_true rfl) (fun c3 => ?_) (fun c3 => ?_)
      · have h := h.1 c3
        refine z_sipush (n := 9999) d_Pa_readValue_45 (by decide) (by decide) ?_
        refine z_cV (c := 10) (as := [(0, g0 10 7), (0, 9999)]) (d' := 3) (st := []) d_Pa_readValue_48 mi_Ta_passNumber ml_Pa_112 mv_Ta_passNumber se_Ta_passNumber rfl rfl rfl rfl (ks_F_10 hx) rfl rfl (kl_F_10 hx) rfl rfl (z_Omono h (fun r2 g2 _ h hro => ?_))
        have h := h (z_b01 hro)
        have hzr2 := z_b01 hro
        show z_U X 9 m_Pa_readValue 51 [(1, (0, g0 10 7)), (0, (2, 9))] [(0, r2)] N σ g2 Q
        refine z_if_ne (tgt := 56) d_Pa_readValue_51 (by decide) (fun c4 => ?_) (fun c4 => ?_)
        · have h := h.2 c4
          refine z_aload_n (i := 0) (c := 9) 1 d_Pa_readValue_56 rfl rfl rfl ?_
          refine z_getr (c := 9) (kI := 1) (r2 := 12) d_Pa_readValue_57 fd_Pa_chain fl_Pa_21 rfl rfl rfl (ks_F_9 hx) (kl_F_9 hx) (kr_F_9_1 hx) ?_
          refine z_iload_n (i := 1) 0 d_Pa_readValue_60 rfl rfl ?_
          refine z_aload_n (i := 0) (c := 9) 1 d_Pa_readValue_61 rfl rfl rfl ?_
          refine z_getr (c := 9) (kI := 0) (r2 := 10) d_Pa_readValue_62 fd_Pa_tape fl_Pa_12 rfl rfl rfl (ks_F_9 hx) (kl_F_9 hx) (kr_F_9_0 hx) ?_
          refine z_geti (c := 10) (kI := 7) d_Pa_readValue_65 fd_Ta_number fl_Pa_115 (Or.inl rfl) rfl rfl (ks_F_10 hx) (kl_F_10 hx) ?_
          refine z_cV (c := 12) (as := [(0, g0 10 7), (0, g2 10 7)]) (d' := 2) (st := []) d_Pa_readValue_68 mi_Ch_unfold ml_Pa_172 mv_Ch_unfold se_Ch_unfold rfl rfl rfl rfl (ks_F_12 hx) rfl rfl (kl_F_12 hx) rfl rfl (z_Omono h (fun r3 g3 _ h hro => ?_))
          show z_U X 9 m_Pa_readValue 71 [(1, (0, g0 10 7)), (0, (2, 9))] [] N σ g3 Q
          refine z_iconst (n := 1) d_Pa_readValue_71 (by decide) ?_
          exact z_zret d_Pa_readValue_72 rfl (by decide) (by decide) (by decide) ⟨rfl, rfl, h⟩
        · have h := h.1 c4
          refine z_iconst (n := 0) d_Pa_readValue_54 (by decide) ?_
          exact z_zret d_Pa_readValue_55 rfl (by decide) (by decide) (by decide) ⟨rfl, rfl, h⟩
      · have h := h.2 c3
        refine z_sipush (n := 9999) d_Pa_readValue_45 (by decide) (by decide) ?_
        refine z_cV (c := 10) (as := [(0, 1), (0, 9999)]) (d' := 3) (st := []) d_Pa_readValue_48 mi_Ta_passNumber ml_Pa_112 mv_Ta_passNumber se_Ta_passNumber rfl rfl rfl rfl (ks_F_10 hx) rfl rfl (kl_F_10 hx) rfl rfl (z_Omono h (fun r4 g4 _ h hro => ?_))
        have h := h (z_b01 hro)
        have hzr4 := z_b01 hro
        show z_U X 9 m_Pa_readValue 51 [(1, (0, g0 10 7)), (0, (2, 9))] [(0, r4)] N σ g4 Q
        refine z_if_ne (tgt := 56) d_Pa_readValue_51 (by decide) (fun c5 => ?_) (fun c5 => ?_)
        · have h := h.2 c5
          refine z_aload_n (i := 0) (c := 9) 1 d_Pa_readValue_56 rfl rfl rfl ?_
          refine z_getr (c := 9) (kI := 1) (r2 := 12) d_Pa_readValue_57 fd_Pa_chain fl_Pa_21 rfl rfl rfl (ks_F_9 hx) (kl_F_9 hx) (kr_F_9_1 hx) ?_
          refine z_iload_n (i := 1) 0 d_Pa_readValue_60 rfl rfl ?_
          refine z_aload_n (i := 0) (c := 9) 1 d_Pa_readValue_61 rfl rfl rfl ?_
          refine z_getr (c := 9) (kI := 0) (r2 := 10) d_Pa_readValue_62 fd_Pa_tape fl_Pa_12 rfl rfl rfl (ks_F_9 hx) (kl_F_9 hx) (kr_F_9_0 hx) ?_
          refine z_geti (c := 10) (kI := 7) d_Pa_readValue_65 fd_Ta_number fl_Pa_115 (Or.inl rfl) rfl rfl (ks_F_10 hx) (kl_F_10 hx) ?_
          refine z_cV (c := 12) (as := [(0, g0 10 7), (0, g4 10 7)]) (d' := 2) (st := []) d_Pa_readValue_68 mi_Ch_unfold ml_Pa_172 mv_Ch_unfold se_Ch_unfold rfl rfl rfl rfl (ks_F_12 hx) rfl rfl (kl_F_12 hx) rfl rfl (z_Omono h (fun r5 g5 _ h hro => ?_))
          show z_U X 9 m_Pa_readValue 71 [(1, (0, g0 10 7)), (0, (2, 9))] [] N σ g5 Q
          refine z_iconst (n := 1) d_Pa_readValue_71 (by decide) ?_
          exact z_zret d_Pa_readValue_72 rfl (by decide) (by decide) (by decide) ⟨rfl, rfl, h⟩
        · have h := h.1 c5
          refine z_iconst (n := 0) d_Pa_readValue_54 (by decide) ?_
          exact z_zret d_Pa_readValue_55 rfl (by decide) (by decide) (by decide) ⟨rfl, rfl, h⟩
  · have h := h.1 c1
    refine z_iconst (n := 0) d_Pa_readValue_14 (by decide) ?_
    exact z_zret d_Pa_readValue_15 rfl (by decide) (by decide) (by decide) ⟨rfl, rfl, h⟩
theorem d_Pa_readHere_0 : decode (z_c m_Pa_readHere) 0 = .ok (.aload_n 0, 1) := by decide +kernel
theorem d_Pa_readHere_1 : decode (z_c m_Pa_readHere) 1 = .ok (.getfield 41, 3) := by decide +kernel
theorem d_Pa_readHere_4 : decode (z_c m_Pa_readHere) 4 = .ok (.ifCond .eq 19, 3) := by decide +kernel
theorem d_Pa_readHere_7 : decode (z_c m_Pa_readHere) 7 = .ok (.aload_n 0, 1) := by decide +kernel
theorem d_Pa_readHere_8 : decode (z_c m_Pa_readHere) 8 = .ok (.getfield 12, 3) := by decide +kernel
theorem d_Pa_readHere_11 : decode (z_c m_Pa_readHere) 11 = .ok (.iconst 5, 1) := by decide +kernel
theorem d_Pa_readHere_12 : decode (z_c m_Pa_readHere) 12 = .ok (.aload_n 0, 1) := by decide +kernel
theorem d_Pa_readHere_13 : decode (z_c m_Pa_readHere) 13 = .ok (.getfield 12, 3) := by decide +kernel
theorem d_Pa_readHere_16 : decode (z_c m_Pa_readHere) 16 = .ok (.getfield 101, 3) := by decide +kernel
theorem d_Pa_readHere_19 : decode (z_c m_Pa_readHere) 19 = .ok (.invokevirtual 105, 3) := by decide +kernel
theorem d_Pa_readHere_22 : decode (z_c m_Pa_readHere) 22 = .ok (.ireturn, 1) := by decide +kernel
theorem d_Pa_readHere_23 : decode (z_c m_Pa_readHere) 23 = .ok (.aload_n 0, 1) := by decide +kernel
theorem d_Pa_readHere_24 : decode (z_c m_Pa_readHere) 24 = .ok (.iconst 1, 1) := by decide +kernel
theorem d_Pa_readHere_25 : decode (z_c m_Pa_readHere) 25 = .ok (.putfield 41, 3) := by decide +kernel
theorem d_Pa_readHere_28 : decode (z_c m_Pa_readHere) 28 = .ok (.aload_n 0, 1) := by decide +kernel
theorem d_Pa_readHere_29 : decode (z_c m_Pa_readHere) 29 = .ok (.getfield 12, 3) := by decide +kernel
theorem d_Pa_readHere_32 : decode (z_c m_Pa_readHere) 32 = .ok (.invokevirtual 109, 3) := by decide +kernel
theorem d_Pa_readHere_35 : decode (z_c m_Pa_readHere) 35 = .ok (.aload_n 0, 1) := by decide +kernel
theorem d_Pa_readHere_36 : decode (z_c m_Pa_readHere) 36 = .ok (.invokevirtual 122, 3) := by decide +kernel
theorem d_Pa_readHere_39 : decode (z_c m_Pa_readHere) 39 = .ok (.ifCond .ne 5, 3) := by decide +kernel
theorem d_Pa_readHere_42 : decode (z_c m_Pa_readHere) 42 = .ok (.iconst 0, 1) := by decide +kernel
theorem d_Pa_readHere_43 : decode (z_c m_Pa_readHere) 43 = .ok (.ireturn, 1) := by decide +kernel
theorem d_Pa_readHere_44 : decode (z_c m_Pa_readHere) 44 = .ok (.aload_n 0, 1) := by decide +kernel
theorem d_Pa_readHere_45 : decode (z_c m_Pa_readHere) 45 = .ok (.getfield 21, 3) := by decide +kernel
theorem d_Pa_readHere_48 : decode (z_c m_Pa_readHere) 48 = .ok (.invokevirtual 125, 3) := by decide +kernel
theorem d_Pa_readHere_51 : decode (z_c m_Pa_readHere) 51 = .ok (.ifCond .ne 19, 3) := by decide +kernel
theorem d_Pa_readHere_54 : decode (z_c m_Pa_readHere) 54 = .ok (.aload_n 0, 1) := by decide +kernel
theorem d_Pa_readHere_55 : decode (z_c m_Pa_readHere) 55 = .ok (.getfield 12, 3) := by decide +kernel
theorem d_Pa_readHere_58 : decode (z_c m_Pa_readHere) 58 = .ok (.iconst 4, 1) := by decide +kernel
theorem d_Pa_readHere_59 : decode (z_c m_Pa_readHere) 59 = .ok (.aload_n 0, 1) := by decide +kernel
theorem d_Pa_readHere_60 : decode (z_c m_Pa_readHere) 60 = .ok (.getfield 12, 3) := by decide +kernel
theorem d_Pa_readHere_63 : decode (z_c m_Pa_readHere) 63 = .ok (.getfield 128, 3) := by decide +kernel
theorem d_Pa_readHere_66 : decode (z_c m_Pa_readHere) 66 = .ok (.invokevirtual 105, 3) := by decide +kernel
theorem d_Pa_readHere_69 : decode (z_c m_Pa_readHere) 69 = .ok (.ireturn, 1) := by decide +kernel
theorem d_Pa_readHere_70 : decode (z_c m_Pa_readHere) 70 = .ok (.aload_n 1, 1) := by decide +kernel
theorem d_Pa_readHere_71 : decode (z_c m_Pa_readHere) 71 = .ok (.getfield 60, 3) := by decide +kernel
theorem d_Pa_readHere_74 : decode (z_c m_Pa_readHere) 74 = .ok (.aload_n 0, 1) := by decide +kernel
theorem d_Pa_readHere_75 : decode (z_c m_Pa_readHere) 75 = .ok (.getfield 21, 3) := by decide +kernel
theorem d_Pa_readHere_78 : decode (z_c m_Pa_readHere) 78 = .ok (.invokevirtual 131, 3) := by decide +kernel
theorem d_Pa_readHere_81 : decode (z_c m_Pa_readHere) 81 = .ok (.iconst 1, 1) := by decide +kernel
theorem d_Pa_readHere_82 : decode (z_c m_Pa_readHere) 82 = .ok (.ireturn, 1) := by decide +kernel
set_option maxRecDepth 8000 in
theorem b_Pa_readHere_0 {X : z_X} {N : Nat} {σ g : z_G} {Q : z_P} {p1 : Nat} (hx : z_lay X N σ 0 z_SF z_RF) (hp1 : z_lay X N σ p1 z_SBd z_RBd) (h : (((g 9 4) = 0) → (z_O X 2 m_Ta_advance [(2, 10)] N σ (z_up g 9 4 1) (fun r0 g0 => (z_O X 9 m_Pa_readValue [(2, 9)] N σ g0 (fun r1 g1 => (r1 = 0 ∨ r1 = 1) → (((r1 = 0) → Q 0 g1) ∧ (¬ (r1 = 0) → ((((g1 12 4) ≤ 1) → Q 0 (z_up (z_up g1 10 9 4) 10 10 (g1 10 8))) ∧ (¬ ((g1 12 4) ≤ 1) → (z_O X 2 m_Sp_standOn [(2, ((p1 + 1 : Nat) : Int)), (2, 12)] N σ g1 (fun r2 g2 => Q 1 g2))))))))))) ∧ (¬ ((g 9 4) = 0) → Q 0 (z_up (z_up g 10 9 5) 10 10 (g 10 6)))) : z_O X 10 m_Pa_readHere [(2, 9), (2, ((p1 : Nat) : Int))] N σ g Q := by
  refine z_Oenter mi_Pa_readHere rfl (fun _ => ?_)
  show z_U X 10 m_Pa_readHere 0 [(0, (2, 9)), (1, (2, ((p1 : Nat) : Int)))] [] N σ g Q
  refine z_aload_n (i := 0) (c := 9) 0 d_Pa_readHere_0 rfl rfl rfl ?_
  refine z_getz (c := 9) (kI := 4) d_Pa_readHere_1 fd_Pa_hereTold fl_Pa_41 rfl rfl rfl (ks_F_9 hx) (kl_F_9 hx) (fun z1 => ?_)
  refine z_if_eq (tgt := 23) d_Pa_readHere_4 (by decide) (fun c1 => ?_) (fun c1 => ?_)
  · have h := h.1 c1
    refine z_aload_n (i := 0) (c := 9) 0 d_Pa_readHere_23 rfl rfl rfl ?_
    refine z_iconst (n := 1) d_Pa_readHere_24 (by decide) ?_
    refine z_putz (c := 9) (kI := 4) d_Pa_readHere_25 fd_Pa_hereTold fl_Pa_41 pf_Pa_hereTold rfl rfl rfl rfl (ks_F_9 hx) (kl_F_9 hx) (by decide) ?_
    refine z_aload_n (i := 0) (c := 9) 0 d_Pa_readHere_28 rfl rfl rfl ?_
    refine z_getr (c := 9) (kI := 0) (r2 := 10) d_Pa_readHere_29 fd_Pa_tape fl_Pa_12 rfl rfl rfl (ks_F_9 hx) (kl_F_9 hx) (kr_F_9_0 hx) ?_
    refine z_cV (c := 10) (as := []) (d' := 2) (st := []) d_Pa_readHere_32 mi_Ta_advance ml_Pa_109 mv_Ta_advance se_Ta_advance rfl rfl rfl rfl (ks_F_10 hx) rfl rfl (kl_F_10 hx) rfl rfl (z_Omono h (fun r0 g0 _ h hro => ?_))
    show z_U X 10 m_Pa_readHere 35 [(0, (2, 9)), (1, (2, ((p1 : Nat) : Int)))] [] N σ g0 Q
    refine z_aload_n (i := 0) (c := 9) 0 d_Pa_readHere_35 rfl rfl rfl ?_
    refine z_cV (c := 9) (as := []) (d' := 9) (st := []) d_Pa_readHere_36 mi_Pa_readValue ml_Pa_122 mv_Pa_readValue se_Pa_readValue rfl rfl rfl rfl (ks_F_9 hx) rfl rfl (kl_F_9 hx) rfl rfl (z_Omono h (fun r1 g1 _ h hro => ?_))
    have h := h (z_b01 hro)
    have hzr1 := z_b01 hro
    show z_U X 10 m_Pa_readHere 39 [(0, (2, 9)), (1, (2, ((p1 : Nat) : Int)))] [(0, r1)] N σ g1 Q
    refine z_if_ne (tgt := 44) d_Pa_readHere_39 (by decide) (fun c2 => ?_) (fun c2 => ?_)
    · have h := h.2 c2
      refine z_aload_n (i := 0) (c := 9) 0 d_Pa_readHere_44 rfl rfl rfl ?_
      refine z_getr (c := 9) (kI := 1) (r2 := 12) d_Pa_readHere_45 fd_Pa_chain fl_Pa_21 rfl rfl rfl (ks_F_9 hx) (kl_F_9 hx) (kr_F_9_1 hx) ?_
      refine z_cV (c := 12) (as := []) (d' := 1) (st := []) d_Pa_readHere_48 mi_Ch_isOfTree ml_Pa_125 mv_Ch_isOfTree se_Ch_isOfTree rfl rfl rfl rfl (ks_F_12 hx) rfl rfl (kl_F_12 hx) rfl rfl (b_Ch_isOfTree_0 (ky_F_12 hx) ?_)
      refine ⟨fun c3 => ?_, fun c3 => ?_⟩
      · have h := h.1 c3
        intro _
        show z_U X 10 m_Pa_readHere 51 [(0, (2, 9)), (1, (2, ((p1 : Nat) : Int)))] [(0, 0)] N σ g1 Q
        refine z_if_ne (tgt := 70) d_Pa_readHere_51 (by decide) (fun c => absurd (by decide) c) (fun _ => ?_)
        refine z_aload_n (i := 0) (c := 9) 0 d_Pa_readHere_54 rfl rfl rfl ?_
        refine z_getr (c := 9) (kI := 0) (r2 := 10) d_Pa_readHere_55 fd_Pa_tape fl_Pa_12 rfl rfl rfl (ks_F_9 hx) (kl_F_9 hx) (kr_F_9_0 hx) ?_
        refine z_iconst (n := 4) d_Pa_readHere_58 (by decide) ?_
        refine z_aload_n (i := 0) (c := 9) 0 d_Pa_readHere_59 rfl rfl rfl ?_
        refine z_getr (c := 9) (kI := 0) (r2 := 10) d_Pa_readHere_60 fd_Pa_tape fl_Pa_12 rfl rfl rfl (ks_F_9 hx) (kl_F_9 hx) (kr_F_9_0 hx) ?_
        refine z_geti (c := 10) (kI := 8) d_Pa_readHere_63 fd_Ta_numberAt fl_Pa_128 (Or.inl rfl) rfl rfl (ks_F_10 hx) (kl_F_10 hx) ?_
        refine z_cV (c := 10) (as := [(0, 4), (0, g1 10 8)]) (d' := 1) (st := []) d_Pa_readHere_66 mi_Ta_fail ml_Pa_105 mv_Ta_fail se_Ta_fail rfl rfl rfl rfl (ks_F_10 hx) rfl rfl (kl_F_10 hx) rfl rfl (b_Ta_fail_0 hx ?_)
        intro _
        show z_U X 10 m_Pa_readHere 69 [(0, (2, 9)), (1, (2, ((p1 : Nat) : Int)))] [(0, 0)] N σ (z_up (z_up g1 10 9 4) 10 10 (g1 10 8)) Q
        exact z_zret d_Pa_readHere_69 rfl (by decide) (by decide) (by decide) ⟨rfl, rfl, h⟩
      · have h := h.2 c3
        intro _
        show z_U X 10 m_Pa_readHere 51 [(0, (2, 9)), (1, (2, ((p1 : Nat) : Int)))] [(0, 1)] N σ g1 Q
        refine z_if_ne (tgt := 70) d_Pa_readHere_51 (by decide) (fun _ => ?_) (fun c => absurd c (by decide))
        refine z_aload_n (i := 1) (c := p1) 1 d_Pa_readHere_70 rfl rfl rfl ?_
        refine z_getr (c := p1) (kI := 2) (r2 := ((p1 + 1 : Nat) : Int)) d_Pa_readHere_71 fd_Bd_walker fl_Pa_60 rfl rfl rfl (ks_Bd_0 hp1) (kl_Bd_0 hp1) (kr_Bd_0_2 hp1) ?_
        refine z_aload_n (i := 0) (c := 9) 0 d_Pa_readHere_74 rfl rfl rfl ?_
        refine z_getr (c := 9) (kI := 1) (r2 := 12) d_Pa_readHere_75 fd_Pa_chain fl_Pa_21 rfl rfl rfl (ks_F_9 hx) (kl_F_9 hx) (kr_F_9_1 hx) ?_
        refine z_cV (c := (p1 + 1)) (as := [(2, 12)]) (d' := 2) (st := []) d_Pa_readHere_78 mi_Sp_standOn ml_Pa_131 mv_Sp_standOn se_Sp_standOn rfl rfl rfl rfl (ks_Bd_1 hp1) rfl rfl (kl_Bd_1 hp1) rfl rfl (z_Omono h (fun r2 g2 _ h hro => ?_))
        show z_U X 10 m_Pa_readHere 81 [(0, (2, 9)), (1, (2, ((p1 : Nat) : Int)))] [] N σ g2 Q
        refine z_iconst (n := 1) d_Pa_readHere_81 (by decide) ?_
        exact z_zret d_Pa_readHere_82 rfl (by decide) (by decide) (by decide) ⟨rfl, rfl, h⟩
    · have h := h.1 c2
      refine z_iconst (n := 0) d_Pa_readHere_42 (by decide) ?_
      exact z_zret d_Pa_readHere_43 rfl (by decide) (by decide) (by decide) ⟨rfl, rfl, h⟩
  · have h := h.2 c1
    refine z_aload_n (i := 0) (c := 9) 0 d_Pa_readHere_7 rfl rfl rfl ?_
    refine z_getr (c := 9) (kI := 0) (r2 := 10) d_Pa_readHere_8 fd_Pa_tape fl_Pa_12 rfl rfl rfl (ks_F_9 hx) (kl_F_9 hx) (kr_F_9_0 hx) ?_
    refine z_iconst (n := 5) d_Pa_readHere_11 (by decide) ?_
    refine z_aload_n (i := 0) (c := 9) 0 d_Pa_readHere_12 rfl rfl rfl ?_
    refine z_getr (c := 9) (kI := 0) (r2 := 10) d_Pa_readHere_13 fd_Pa_tape fl_Pa_12 rfl rfl rfl (ks_F_9 hx) (kl_F_9 hx) (kr_F_9_0 hx) ?_
    refine z_geti (c := 10) (kI := 6) d_Pa_readHere_16 fd_Ta_at fl_Pa_101 (Or.inl rfl) rfl rfl (ks_F_10 hx) (kl_F_10 hx) ?_
    refine z_cV (c := 10) (as := [(0, 5), (0, g 10 6)]) (d' := 1) (st := []) d_Pa_readHere_19 mi_Ta_fail ml_Pa_105 mv_Ta_fail se_Ta_fail rfl rfl rfl rfl (ks_F_10 hx) rfl rfl (kl_F_10 hx) rfl rfl (b_Ta_fail_0 hx ?_)
    intro _
    show z_U X 10 m_Pa_readHere 22 [(0, (2, 9)), (1, (2, ((p1 : Nat) : Int)))] [(0, 0)] N σ (z_up (z_up g 10 9 5) 10 10 (g 10 6)) Q
    exact z_zret d_Pa_readHere_22 rfl (by decide) (by decide) (by decide) ⟨rfl, rfl, h⟩
theorem d_Pa_readPin_0 : decode (z_c m_Pa_readPin) 0 = .ok (.aload_n 1, 1) := by decide +kernel
theorem d_Pa_readPin_1 : decode (z_c m_Pa_readPin) 1 = .ok (.getfield 137, 3) := by decide +kernel
theorem d_Pa_readPin_4 : decode (z_c m_Pa_readPin) 4 = .ok (.getfield 141, 3) := by decide +kernel
theorem d_Pa_readPin_7 : decode (z_c m_Pa_readPin) 7 = .ok (.bipush 12, 2) := by decide +kernel
theorem d_Pa_readPin_9 : decode (z_c m_Pa_readPin) 9 = .ok (.if_icmp .lt 20, 3) := by decide +kernel
theorem d_Pa_readPin_12 : decode (z_c m_Pa_readPin) 12 = .ok (.aload_n 0, 1) := by decide +kernel
theorem d_Pa_readPin_13 : decode (z_c m_Pa_readPin) 13 = .ok (.getfield 12, 3) := by decide +kernel
theorem d_Pa_readPin_16 : decode (z_c m_Pa_readPin) 16 = .ok (.bipush 6, 2) := by decide +kernel
theorem d_Pa_readPin_18 : decode (z_c m_Pa_readPin) 18 = .ok (.aload_n 0, 1) := by decide +kernel
theorem d_Pa_readPin_19 : decode (z_c m_Pa_readPin) 19 = .ok (.getfield 12, 3) := by decide +kernel
theorem d_Pa_readPin_22 : decode (z_c m_Pa_readPin) 22 = .ok (.getfield 101, 3) := by decide +kernel
theorem d_Pa_readPin_25 : decode (z_c m_Pa_readPin) 25 = .ok (.invokevirtual 105, 3) := by decide +kernel
theorem d_Pa_readPin_28 : decode (z_c m_Pa_readPin) 28 = .ok (.ireturn, 1) := by decide +kernel
theorem d_Pa_readPin_29 : decode (z_c m_Pa_readPin) 29 = .ok (.aload_n 0, 1) := by decide +kernel
theorem d_Pa_readPin_30 : decode (z_c m_Pa_readPin) 30 = .ok (.getfield 12, 3) := by decide +kernel
theorem d_Pa_readPin_33 : decode (z_c m_Pa_readPin) 33 = .ok (.invokevirtual 109, 3) := by decide +kernel
theorem d_Pa_readPin_36 : decode (z_c m_Pa_readPin) 36 = .ok (.aload_n 0, 1) := by decide +kernel
theorem d_Pa_readPin_37 : decode (z_c m_Pa_readPin) 37 = .ok (.invokevirtual 122, 3) := by decide +kernel
theorem d_Pa_readPin_40 : decode (z_c m_Pa_readPin) 40 = .ok (.ifCond .ne 5, 3) := by decide +kernel
theorem d_Pa_readPin_43 : decode (z_c m_Pa_readPin) 43 = .ok (.iconst 0, 1) := by decide +kernel
theorem d_Pa_readPin_44 : decode (z_c m_Pa_readPin) 44 = .ok (.ireturn, 1) := by decide +kernel
theorem d_Pa_readPin_45 : decode (z_c m_Pa_readPin) 45 = .ok (.aload_n 1, 1) := by decide +kernel
theorem d_Pa_readPin_46 : decode (z_c m_Pa_readPin) 46 = .ok (.getfield 137, 3) := by decide +kernel
theorem d_Pa_readPin_49 : decode (z_c m_Pa_readPin) 49 = .ok (.aload_n 0, 1) := by decide +kernel
theorem d_Pa_readPin_50 : decode (z_c m_Pa_readPin) 50 = .ok (.getfield 21, 3) := by decide +kernel
theorem d_Pa_readPin_53 : decode (z_c m_Pa_readPin) 53 = .ok (.getfield 146, 3) := by decide +kernel
theorem d_Pa_readPin_56 : decode (z_c m_Pa_readPin) 56 = .ok (.aload_n 0, 1) := by decide +kernel
theorem d_Pa_readPin_57 : decode (z_c m_Pa_readPin) 57 = .ok (.getfield 21, 3) := by decide +kernel
theorem d_Pa_readPin_60 : decode (z_c m_Pa_readPin) 60 = .ok (.getfield 149, 3) := by decide +kernel
theorem d_Pa_readPin_63 : decode (z_c m_Pa_readPin) 63 = .ok (.invokevirtual 152, 3) := by decide +kernel
theorem d_Pa_readPin_66 : decode (z_c m_Pa_readPin) 66 = .ok (.ifCond .lt 19, 3) := by decide +kernel
theorem d_Pa_readPin_69 : decode (z_c m_Pa_readPin) 69 = .ok (.aload_n 0, 1) := by decide +kernel
theorem d_Pa_readPin_70 : decode (z_c m_Pa_readPin) 70 = .ok (.getfield 12, 3) := by decide +kernel
theorem d_Pa_readPin_73 : decode (z_c m_Pa_readPin) 73 = .ok (.iconst 5, 1) := by decide +kernel
theorem d_Pa_readPin_74 : decode (z_c m_Pa_readPin) 74 = .ok (.aload_n 0, 1) := by decide +kernel
theorem d_Pa_readPin_75 : decode (z_c m_Pa_readPin) 75 = .ok (.getfield 12, 3) := by decide +kernel
theorem d_Pa_readPin_78 : decode (z_c m_Pa_readPin) 78 = .ok (.getfield 128, 3) := by decide +kernel
theorem d_Pa_readPin_81 : decode (z_c m_Pa_readPin) 81 = .ok (.invokevirtual 105, 3) := by decide +kernel
theorem d_Pa_readPin_84 : decode (z_c m_Pa_readPin) 84 = .ok (.ireturn, 1) := by decide +kernel
theorem d_Pa_readPin_85 : decode (z_c m_Pa_readPin) 85 = .ok (.iconst 1, 1) := by decide +kernel
theorem d_Pa_readPin_86 : decode (z_c m_Pa_readPin) 86 = .ok (.istore_n 2, 1) := by decide +kernel
theorem d_Pa_readPin_87 : decode (z_c m_Pa_readPin) 87 = .ok (.aload_n 0, 1) := by decide +kernel
theorem d_Pa_readPin_88 : decode (z_c m_Pa_readPin) 88 = .ok (.getfield 12, 3) := by decide +kernel
theorem d_Pa_readPin_91 : decode (z_c m_Pa_readPin) 91 = .ok (.ldc 156, 2) := by decide +kernel
theorem d_Pa_readPin_93 : decode (z_c m_Pa_readPin) 93 = .ok (.invokevirtual 72, 3) := by decide +kernel
theorem d_Pa_readPin_96 : decode (z_c m_Pa_readPin) 96 = .ok (.ifCond .eq 33, 3) := by decide +kernel
theorem d_Pa_readPin_99 : decode (z_c m_Pa_readPin) 99 = .ok (.aload_n 0, 1) := by decide +kernel
theorem d_Pa_readPin_100 : decode (z_c m_Pa_readPin) 100 = .ok (.getfield 12, 3) := by decide +kernel
theorem d_Pa_readPin_103 : decode (z_c m_Pa_readPin) 103 = .ok (.invokevirtual 109, 3) := by decide +kernel
theorem d_Pa_readPin_106 : decode (z_c m_Pa_readPin) 106 = .ok (.aload_n 0, 1) := by decide +kernel
theorem d_Pa_readPin_107 : decode (z_c m_Pa_readPin) 107 = .ok (.getfield 12, 3) := by decide +kernel
theorem d_Pa_readPin_110 : decode (z_c m_Pa_readPin) 110 = .ok (.iconst 1, 1) := by decide +kernel
theorem d_Pa_readPin_111 : decode (z_c m_Pa_readPin) 111 = .ok (.bipush 99, 2) := by decide +kernel
theorem d_Pa_readPin_113 : decode (z_c m_Pa_readPin) 113 = .ok (.invokevirtual 112, 3) := by decide +kernel
theorem d_Pa_readPin_116 : decode (z_c m_Pa_readPin) 116 = .ok (.ifCond .ne 5, 3) := by decide +kernel
theorem d_Pa_readPin_119 : decode (z_c m_Pa_readPin) 119 = .ok (.iconst 0, 1) := by decide +kernel
theorem d_Pa_readPin_120 : decode (z_c m_Pa_readPin) 120 = .ok (.ireturn, 1) := by decide +kernel
theorem d_Pa_readPin_121 : decode (z_c m_Pa_readPin) 121 = .ok (.aload_n 0, 1) := by decide +kernel
theorem d_Pa_readPin_122 : decode (z_c m_Pa_readPin) 122 = .ok (.getfield 12, 3) := by decide +kernel
theorem d_Pa_readPin_125 : decode (z_c m_Pa_readPin) 125 = .ok (.getfield 115, 3) := by decide +kernel
theorem d_Pa_readPin_128 : decode (z_c m_Pa_readPin) 128 = .ok (.istore_n 2, 1) := by decide +kernel
theorem d_Pa_readPin_129 : decode (z_c m_Pa_readPin) 129 = .ok (.aload_n 1, 1) := by decide +kernel
theorem d_Pa_readPin_130 : decode (z_c m_Pa_readPin) 130 = .ok (.getfield 137, 3) := by decide +kernel
theorem d_Pa_readPin_133 : decode (z_c m_Pa_readPin) 133 = .ok (.aload_n 0, 1) := by decide +kernel
theorem d_Pa_readPin_134 : decode (z_c m_Pa_readPin) 134 = .ok (.getfield 21, 3) := by decide +kernel
theorem d_Pa_readPin_137 : decode (z_c m_Pa_readPin) 137 = .ok (.getfield 146, 3) := by decide +kernel
theorem d_Pa_readPin_140 : decode (z_c m_Pa_readPin) 140 = .ok (.aload_n 0, 1) := by decide +kernel
theorem d_Pa_readPin_141 : decode (z_c m_Pa_readPin) 141 = .ok (.getfield 21, 3) := by decide +kernel
theorem d_Pa_readPin_144 : decode (z_c m_Pa_readPin) 144 = .ok (.getfield 149, 3) := by decide +kernel
theorem d_Pa_readPin_147 : decode (z_c m_Pa_readPin) 147 = .ok (.iload_n 2, 1) := by decide +kernel
theorem d_Pa_readPin_148 : decode (z_c m_Pa_readPin) 148 = .ok (.invokevirtual 158, 3) := by decide +kernel
theorem d_Pa_readPin_151 : decode (z_c m_Pa_readPin) 151 = .ok (.pop, 1) := by decide +kernel
theorem d_Pa_readPin_152 : decode (z_c m_Pa_readPin) 152 = .ok (.iconst 1, 1) := by decide +kernel
theorem d_Pa_readPin_153 : decode (z_c m_Pa_readPin) 153 = .ok (.ireturn, 1) := by decide +kernel
set_option maxRecDepth 8000 in
theorem b_Pa_readPin_0 {X : z_X} {N : Nat} {σ g : z_G} {Q : z_P} {p1 : Nat} (hx : z_lay X N σ 0 z_SF z_RF) (hp1 : z_lay X N σ p1 z_SBd z_RBd) (h : (((g (p1 + 2) 3) < 12) → (z_O X 2 m_Ta_advance [(2, 10)] N σ g (fun r0 g0 => (z_O X 9 m_Pa_readValue [(2, 9)] N σ g0 (fun r1 g1 => (r1 = 0 ∨ r1 = 1) → (((r1 = 0) → Q 0 g1) ∧ (¬ (r1 = 0) → (z_O X 1 m_Pi_find [(2, ((p1 + 2 : Nat) : Int)), (0, g1 12 3), (0, g1 12 4)] N σ g1 (fun r2 g2 => (((r2 < 0) → (z_O X 7 m_Ta_isWord [(2, 10), (4, 5)] N σ g2 (fun r3 g3 => (r3 = 0 ∨ r3 = 1) → (((r3 = 0) → (z_O X 2 m_Pi_add [(2, ((p1 + 2 : Nat) : Int)), (0, g3 12 3), (0, g3 12 4), (0, 1)] N σ g3 (fun r4 g4 => Q 1 g4))) ∧ (¬ (r3 = 0) → (z_O X 2 m_Ta_advance [(2, 10)] N σ g3 (fun r5 g5 => (z_O X 3 m_Ta_passNumber [(2, 10), (0, 1), (0, 99)] N σ g5 (fun r6 g6 => (r6 = 0 ∨ r6 = 1) → (((r6 = 0) → Q 0 g6) ∧ (¬ (r6 = 0) → (z_O X 2 m_Pi_add [(2, ((p1 + 2 : Nat) : Int)), (0, g6 12 3), (0, g6 12 4), (0, g6 10 7)] N σ g6 (fun r7 g7 => Q 1 g7))))))))))))) ∧ (¬ (r2 < 0) → Q 0 (z_up (z_up g2 10 9 5) 10 10 (g2 10 8))))))))))))) ∧ (¬ ((g (p1 + 2) 3) < 12) → Q 0 (z_up (z_up g 10 9 6) 10 10 (g 10 6)))) : z_O X 10 m_Pa_readPin [(2, 9), (2, ((p1 : Nat) : Int))] N σ g Q := by
  refine z_Oenter mi_Pa_readPin rfl (fun _ => ?_)
  show z_U X 10 m_Pa_readPin 0 [(0, (2, 9)), (1, (2, ((p1 : Nat) : Int)))] [] N σ g Q
  refine z_aload_n (i := 1) (c := p1) 1 d_Pa_readPin_0 rfl rfl rfl ?_
  refine z_getr (c := p1) (kI := 3) (r2 := ((p1 + 2 : Nat) : Int)) d_Pa_readPin_1 fd_Bd_pins fl_Pa_137 rfl rfl rfl (ks_Bd_0 hp1) (kl_Bd_0 hp1) (kr_Bd_0_3 hp1) ?_
  refine z_geti (c := (p1 + 2)) (kI := 3) d_Pa_readPin_4 fd_Pi_many fl_Pa_141 (Or.inl rfl) rfl rfl (ks_Bd_2 hp1) (kl_Bd_2 hp1) ?_
  refine z_bipush (n := 12) d_Pa_readPin_7 (by decide) (by decide) ?_
  refine z_icmp_lt (tgt := 29) d_Pa_readPin_9 (by decide) (fun c1 => ?_) (fun c1 => ?_)
  · have h := h.1 c1
    refine z_aload_n (i := 0) (c := 9) 0 d_Pa_readPin_29 rfl rfl rfl ?_
    refine z_getr (c := 9) (kI := 0) (r2 := 10) d_Pa_readPin_30 fd_Pa_tape fl_Pa_12 rfl rfl rfl (ks_F_9 hx) (kl_F_9 hx) (kr_F_9_0 hx) ?_
    refine z_cV (c := 10) (as := []) (d' := 2) (st := []) d_Pa_readPin_33 mi_Ta_advance ml_Pa_109 mv_Ta_advance se_Ta_advance rfl rfl rfl rfl (ks_F_10 hx) rfl rfl (kl_F_10 hx) rfl rfl (z_Omono h (fun r0 g0 _ h hro => ?_))
    show z_U X 10 m_Pa_readPin 36 [(0, (2, 9)), (1, (2, ((p1 : Nat) : Int)))] [] N σ g0 Q
    refine z_aload_n (i := 0) (c := 9) 0 d_Pa_readPin_36 rfl rfl rfl ?_
    refine z_cV (c := 9) (as := []) (d' := 9) (st := []) d_Pa_readPin_37 mi_Pa_readValue ml_Pa_122 mv_Pa_readValue se_Pa_readValue rfl rfl rfl rfl (ks_F_9 hx) rfl rfl (kl_F_9 hx) rfl rfl (z_Omono h (fun r1 g1 _ h hro => ?_))
    have h := h (z_b01 hro)
    have hzr1 := z_b01 hro
    show z_U X 10 m_Pa_readPin 40 [(0, (2, 9)), (1, (2, ((p1 : Nat) : Int)))] [(0, r1)] N σ g1 Q
    refine z_if_ne (tgt := 45) d_Pa_readPin_40 (by decide) (fun c2 => ?_) (fun c2 => ?_)
    · have h := h.2 c2
      refine z_aload_n (i := 1) (c := p1) 1 d_Pa_readPin_45 rfl rfl rfl ?_
      refine z_getr (c := p1) (kI := 3) (r2 := ((p1 + 2 : Nat) : Int)) d_Pa_readPin_46 fd_Bd_pins fl_Pa_137 rfl rfl rfl (ks_Bd_0 hp1) (kl_Bd_0 hp1) (kr_Bd_0_3 hp1) ?_
      refine z_aload_n (i := 0) (c := 9) 0 d_Pa_readPin_49 rfl rfl rfl ?_
      refine z_getr (c := 9) (kI := 1) (r2 := 12) d_Pa_readPin_50 fd_Pa_chain fl_Pa_21 rfl rfl rfl (ks_F_9 hx) (kl_F_9 hx) (kr_F_9_1 hx) ?_
      refine z_geti (c := 12) (kI := 3) d_Pa_readPin_53 fd_Ch_top fl_Pa_146 (Or.inl rfl) rfl rfl (ks_F_12 hx) (kl_F_12 hx) ?_
      refine z_aload_n (i := 0) (c := 9) 0 d_Pa_readPin_56 rfl rfl rfl ?_
      refine z_getr (c := 9) (kI := 1) (r2 := 12) d_Pa_readPin_57 fd_Pa_chain fl_Pa_21 rfl rfl rfl (ks_F_9 hx) (kl_F_9 hx) (kr_F_9_1 hx) ?_
      refine z_geti (c := 12) (kI := 4) d_Pa_readPin_60 fd_Ch_bottom fl_Pa_149 (Or.inl rfl) rfl rfl (ks_F_12 hx) (kl_F_12 hx) ?_
      refine z_cV (c := (p1 + 2)) (as := [(0, g1 12 3), (0, g1 12 4)]) (d' := 1) (st := []) d_Pa_readPin_63 mi_Pi_find ml_Pa_152 mv_Pi_find se_Pi_find rfl rfl rfl rfl (ks_Bd_2 hp1) rfl rfl (kl_Bd_2 hp1) rfl rfl (z_Omono h (fun r2 g2 _ h hro => ?_))
      show z_U X 10 m_Pa_readPin 66 [(0, (2, 9)), (1, (2, ((p1 : Nat) : Int)))] [(0, r2)] N σ g2 Q
      refine z_if_lt (tgt := 85) d_Pa_readPin_66 (by decide) (fun c3 => ?_) (fun c3 => ?_)
      · have h := h.1 c3
        refine z_iconst (n := 1) d_Pa_readPin_85 (by decide) ?_
        refine z_istore_n (i := 2) (ls' := [(2, (0, 1)), (0, (2, 9)), (1, (2, ((p1 : Nat) : Int)))]) d_Pa_readPin_86 rfl rfl rfl ?_
        refine z_aload_n (i := 0) (c := 9) 1 d_Pa_readPin_87 rfl rfl rfl ?_
        refine z_getr (c := 9) (kI := 0) (r2 := 10) d_Pa_readPin_88 fd_Pa_tape fl_Pa_12 rfl rfl rfl (ks_F_9 hx) (kl_F_9 hx) (kr_F_9_0 hx) ?_
        refine z_ldcs (q := ("FareyRank$Parser", 156, 5)) d_Pa_readPin_91 (List.mem_of_getElem? (i := 5) rfl) rfl rfl rfl ?_
        refine z_cV (c := 10) (as := [(4, 5)]) (d' := 7) (st := []) d_Pa_readPin_93 mi_Ta_isWord ml_Pa_72 mv_Ta_isWord se_Ta_isWord rfl rfl rfl rfl (ks_F_10 hx) rfl rfl (kl_F_10 hx) rfl rfl (z_Omono h (fun r3 g3 _ h hro => ?_))
        have h := h (z_b01 hro)
        have hzr3 := z_b01 hro
        show z_U X 10 m_Pa_readPin 96 [(2, (0, 1)), (0, (2, 9)), (1, (2, ((p1 : Nat) : Int)))] [(0, r3)] N σ g3 Q
        refine z_if_eq (tgt := 129) d_Pa_readPin_96 (by decide) (fun c4 => ?_) (fun c4 => ?_)
        · have h := h.1 c4
          refine z_aload_n (i := 1) (c := p1) 2 d_Pa_readPin_129 rfl rfl rfl ?_
          refine z_getr (c := p1) (kI := 3) (r2 := ((p1 + 2 : Nat) : Int)) d_Pa_readPin_130 fd_Bd_pins fl_Pa_137 rfl rfl rfl (ks_Bd_0 hp1) (kl_Bd_0 hp1) (kr_Bd_0_3 hp1) ?_
          refine z_aload_n (i := 0) (c := 9) 1 d_Pa_readPin_133 rfl rfl rfl ?_
          refine z_getr (c := 9) (kI := 1) (r2 := 12) d_Pa_readPin_134 fd_Pa_chain fl_Pa_21 rfl rfl rfl (ks_F_9 hx) (kl_F_9 hx) (kr_F_9_1 hx) ?_
          refine z_geti (c := 12) (kI := 3) d_Pa_readPin_137 fd_Ch_top fl_Pa_146 (Or.inl rfl) rfl rfl (ks_F_12 hx) (kl_F_12 hx) ?_
          refine z_aload_n (i := 0) (c := 9) 1 d_Pa_readPin_140 rfl rfl rfl ?_
          refine z_getr (c := 9) (kI := 1) (r2 := 12) d_Pa_readPin_141 fd_Pa_chain fl_Pa_21 rfl rfl rfl (ks_F_9 hx) (kl_F_9 hx) (kr_F_9_1 hx) ?_
          refine z_geti (c := 12) (kI := 4) d_Pa_readPin_144 fd_Ch_bottom fl_Pa_149 (Or.inl rfl) rfl rfl (ks_F_12 hx) (kl_F_12 hx) ?_
          refine z_iload_n (i := 2) 0 d_Pa_readPin_147 rfl rfl ?_
          refine z_cV (c := (p1 + 2)) (as := [(0, g3 12 3), (0, g3 12 4), (0, 1)]) (d' := 2) (st := []) d_Pa_readPin_148 mi_Pi_add ml_Pa_158 mv_Pi_add se_Pi_add rfl rfl rfl rfl (ks_Bd_2 hp1) rfl rfl (kl_Bd_2 hp1) rfl rfl (z_Omono h (fun r4 g4 _ h hro => ?_))
          show z_U X 10 m_Pa_readPin 151 [(2, (0, 1)), (0, (2, 9)), (1, (2, ((p1 : Nat) : Int)))] [(0, r4)] N σ g4 Q
          refine z_pop d_Pa_readPin_151 rfl ?_
          refine z_iconst (n := 1) d_Pa_readPin_152 (by decide) ?_
          exact z_zret d_Pa_readPin_153 rfl (by decide) (by decide) (by decide) ⟨rfl, rfl, h⟩
        · have h := h.2 c4
          refine z_aload_n (i := 0) (c := 9) 1 d_Pa_readPin_99 rfl rfl rfl ?_
          refine z_getr (c := 9) (kI := 0) (r2 := 10) d_Pa_readPin_100 fd_Pa_tape fl_Pa_12 rfl rfl rfl (ks_F_9 hx) (kl_F_9 hx) (kr_F_9_0 hx) ?_
          refine z_cV (c := 10) (as := []) (d' := 2) (st := []) d_Pa_readPin_103 mi_Ta_advance ml_Pa_109 mv_Ta_advance se_Ta_advance rfl rfl rfl rfl (ks_F_10 hx) rfl rfl (kl_F_10 hx) rfl rfl (z_Omono h (fun r5 g5 _ h hro => ?_))
          show z_U X 10 m_Pa_readPin 106 [(2, (0, 1)), (0, (2, 9)), (1, (2, ((p1 : Nat) : Int)))] [] N σ g5 Q
          refine z_aload_n (i := 0) (c := 9) 1 d_Pa_readPin_106 rfl rfl rfl ?_
          refine z_getr (c := 9) (kI := 0) (r2 := 10) d_Pa_readPin_107 fd_Pa_tape fl_Pa_12 rfl rfl rfl (ks_F_9 hx) (kl_F_9 hx) (kr_F_9_0 hx) ?_
          refine z_iconst (n := 1) d_Pa_readPin_110 (by decide) ?_
          refine z_bipush (n := 99) d_Pa_readPin_111 (by decide) (by decide) ?_
          refine z_cV (c := 10) (as := [(0, 1), (0, 99)]) (d' := 3) (st := []) d_Pa_readPin_113 mi_Ta_passNumber ml_Pa_112 mv_Ta_passNumber se_Ta_passNumber rfl rfl rfl rfl (ks_F_10 hx) rfl rfl (kl_F_10 hx) rfl rfl (z_Omono h (fun r6 g6 _ h hro => ?_))
          have h := h (z_b01 hro)
          have hzr6 := z_b01 hro
          show z_U X 10 m_Pa_readPin 116 [(2, (0, 1)), (0, (2, 9)), (1, (2, ((p1 : Nat) : Int)))] [(0, r6)] N σ g6 Q
          refine z_if_ne (tgt := 121) d_Pa_readPin_116 (by decide) (fun c5 => ?_) (fun c5 => ?_)
          · have h := h.2 c5
            refine z_aload_n (i := 0) (c := 9) 1 d_Pa_readPin_121 rfl rfl rfl ?_
            refine z_getr (c := 9) (kI := 0) (r2 := 10) d_Pa_readPin_122 fd_Pa_tape fl_Pa_12 rfl rfl rfl (ks_F_9 hx) (kl_F_9 hx) (kr_F_9_0 hx) ?_
            refine z_geti (c := 10) (kI := 7) d_Pa_readPin_125 fd_Ta_number fl_Pa_115 (Or.inl rfl) rfl rfl (ks_F_10 hx) (kl_F_10 hx) ?_
            refine z_istore_n (i := 2) (ls' := [(2, (0, g6 10 7)), (0, (2, 9)), (1, (2, ((p1 : Nat) : Int)))]) d_Pa_readPin_128 rfl rfl rfl ?_
            refine z_aload_n (i := 1) (c := p1) 2 d_Pa_readPin_129 rfl rfl rfl ?_
            refine z_getr (c := p1) (kI := 3) (r2 := ((p1 + 2 : Nat) : Int)) d_Pa_readPin_130 fd_Bd_pins fl_Pa_137 rfl rfl rfl (ks_Bd_0 hp1) (kl_Bd_0 hp1) (kr_Bd_0_3 hp1) ?_
            refine z_aload_n (i := 0) (c := 9) 1 d_Pa_readPin_133 rfl rfl rfl ?_
            refine z_getr (c := 9) (kI := 1) (r2 := 12) d_Pa_readPin_134 fd_Pa_chain fl_Pa_21 rfl rfl rfl (ks_F_9 hx) (kl_F_9 hx) (kr_F_9_1 hx) ?_
            refine z_geti (c := 12) (kI := 3) d_Pa_readPin_137 fd_Ch_top fl_Pa_146 (Or.inl rfl) rfl rfl (ks_F_12 hx) (kl_F_12 hx) ?_
            refine z_aload_n (i := 0) (c := 9) 1 d_Pa_readPin_140 rfl rfl rfl ?_
            refine z_getr (c := 9) (kI := 1) (r2 := 12) d_Pa_readPin_141 fd_Pa_chain fl_Pa_21 rfl rfl rfl (ks_F_9 hx) (kl_F_9 hx) (kr_F_9_1 hx) ?_
            refine z_geti (c := 12) (kI := 4) d_Pa_readPin_144 fd_Ch_bottom fl_Pa_149 (Or.inl rfl) rfl rfl (ks_F_12 hx) (kl_F_12 hx) ?_
            refine z_iload_n (i := 2) 0 d_Pa_readPin_147 rfl rfl ?_
            refine z_cV (c := (p1 + 2)) (as := [(0, g6 12 3), (0, g6 12 4), (0, g6 10 7)]) (d' := 2) (st := []) d_Pa_readPin_148 mi_Pi_add ml_Pa_158 mv_Pi_add se_Pi_add rfl rfl rfl rfl (ks_Bd_2 hp1) rfl rfl (kl_Bd_2 hp1) rfl rfl (z_Omono h (fun r7 g7 _ h hro => ?_))
            show z_U X 10 m_Pa_readPin 151 [(2, (0, g6 10 7)), (0, (2, 9)), (1, (2, ((p1 : Nat) : Int)))] [(0, r7)] N σ g7 Q
            refine z_pop d_Pa_readPin_151 rfl ?_
            refine z_iconst (n := 1) d_Pa_readPin_152 (by decide) ?_
            exact z_zret d_Pa_readPin_153 rfl (by decide) (by decide) (by decide) ⟨rfl, rfl, h⟩
          · have h := h.1 c5
            refine z_iconst (n := 0) d_Pa_readPin_119 (by decide) ?_
            exact z_zret d_Pa_readPin_120 rfl (by decide) (by decide) (by decide) ⟨rfl, rfl, h⟩
      · have h := h.2 c3
        refine z_aload_n (i := 0) (c := 9) 0 d_Pa_readPin_69 rfl rfl rfl ?_
        refine z_getr (c := 9) (kI := 0) (r2 := 10) d_Pa_readPin_70 fd_Pa_tape fl_Pa_12 rfl rfl rfl (ks_F_9 hx) (kl_F_9 hx) (kr_F_9_0 hx) ?_
        refine z_iconst (n := 5) d_Pa_readPin_73 (by decide) ?_
        refine z_aload_n (i := 0) (c := 9) 0 d_Pa_readPin_74 rfl rfl rfl ?_
        refine z_getr (c := 9) (kI := 0) (r2 := 10) d_Pa_readPin_75 fd_Pa_tape fl_Pa_12 rfl rfl rfl (ks_F_9 hx) (kl_F_9 hx) (kr_F_9_0 hx) ?_
        refine z_geti (c := 10) (kI := 8) d_Pa_readPin_78 fd_Ta_numberAt fl_Pa_128 (Or.inl rfl) rfl rfl (ks_F_10 hx) (kl_F_10 hx) ?_
        refine z_cV (c := 10) (as := [(0, 5), (0, g2 10 8)]) (d' := 1) (st := []) d_Pa_readPin_81 mi_Ta_fail ml_Pa_105 mv_Ta_fail se_Ta_fail rfl rfl rfl rfl (ks_F_10 hx) rfl rfl (kl_F_10 hx) rfl rfl (b_Ta_fail_0 hx ?_)
        intro _
        show z_U X 10 m_Pa_readPin 84 [(0, (2, 9)), (1, (2, ((p1 : Nat) : Int)))] [(0, 0)] N σ (z_up (z_up g2 10 9 5) 10 10 (g2 10 8)) Q
        exact z_zret d_Pa_readPin_84 rfl (by decide) (by decide) (by decide) ⟨rfl, rfl, h⟩
    · have h := h.1 c2
      refine z_iconst (n := 0) d_Pa_readPin_43 (by decide) ?_
      exact z_zret d_Pa_readPin_44 rfl (by decide) (by decide) (by decide) ⟨rfl, rfl, h⟩
  · have h := h.2 c1
    refine z_aload_n (i := 0) (c := 9) 0 d_Pa_readPin_12 rfl rfl rfl ?_
    refine z_getr (c := 9) (kI := 0) (r2 := 10) d_Pa_readPin_13 fd_Pa_tape fl_Pa_12 rfl rfl rfl (ks_F_9 hx) (kl_F_9 hx) (kr_F_9_0 hx) ?_
    refine z_bipush (n := 6) d_Pa_readPin_16 (by decide) (by decide) ?_
    refine z_aload_n (i := 0) (c := 9) 0 d_Pa_readPin_18 rfl rfl rfl ?_
    refine z_getr (c := 9) (kI := 0) (r2 := 10) d_Pa_readPin_19 fd_Pa_tape fl_Pa_12 rfl rfl rfl (ks_F_9 hx) (kl_F_9 hx) (kr_F_9_0 hx) ?_
    refine z_geti (c := 10) (kI := 6) d_Pa_readPin_22 fd_Ta_at fl_Pa_101 (Or.inl rfl) rfl rfl (ks_F_10 hx) (kl_F_10 hx) ?_
    refine z_cV (c := 10) (as := [(0, 6), (0, g 10 6)]) (d' := 1) (st := []) d_Pa_readPin_25 mi_Ta_fail ml_Pa_105 mv_Ta_fail se_Ta_fail rfl rfl rfl rfl (ks_F_10 hx) rfl rfl (kl_F_10 hx) rfl rfl (b_Ta_fail_0 hx ?_)
    intro _
    show z_U X 10 m_Pa_readPin 28 [(0, (2, 9)), (1, (2, ((p1 : Nat) : Int)))] [(0, 0)] N σ (z_up (z_up g 10 9 6) 10 10 (g 10 6)) Q
    exact z_zret d_Pa_readPin_28 rfl (by decide) (by decide) (by decide) ⟨rfl, rfl, h⟩
theorem d_Pa_readTest_0 : decode (z_c m_Pa_readTest) 0 = .ok (.aload_n 0, 1) := by decide +kernel
theorem d_Pa_readTest_1 : decode (z_c m_Pa_readTest) 1 = .ok (.getfield 12, 3) := by decide +kernel
theorem d_Pa_readTest_4 : decode (z_c m_Pa_readTest) 4 = .ok (.ldc 235, 2) := by decide +kernel
theorem d_Pa_readTest_6 : decode (z_c m_Pa_readTest) 6 = .ok (.invokevirtual 72, 3) := by decide +kernel
theorem d_Pa_readTest_9 : decode (z_c m_Pa_readTest) 9 = .ok (.ifCond .eq 48, 3) := by decide +kernel
theorem d_Pa_readTest_12 : decode (z_c m_Pa_readTest) 12 = .ok (.aload_n 0, 1) := by decide +kernel
theorem d_Pa_readTest_13 : decode (z_c m_Pa_readTest) 13 = .ok (.iconst 0, 1) := by decide +kernel
theorem d_Pa_readTest_14 : decode (z_c m_Pa_readTest) 14 = .ok (.putfield 204, 3) := by decide +kernel
theorem d_Pa_readTest_17 : decode (z_c m_Pa_readTest) 17 = .ok (.aload_n 0, 1) := by decide +kernel
theorem d_Pa_readTest_18 : decode (z_c m_Pa_readTest) 18 = .ok (.getfield 12, 3) := by decide +kernel
theorem d_Pa_readTest_21 : decode (z_c m_Pa_readTest) 21 = .ok (.invokevirtual 109, 3) := by decide +kernel
theorem d_Pa_readTest_24 : decode (z_c m_Pa_readTest) 24 = .ok (.aload_n 0, 1) := by decide +kernel
theorem d_Pa_readTest_25 : decode (z_c m_Pa_readTest) 25 = .ok (.invokevirtual 122, 3) := by decide +kernel
theorem d_Pa_readTest_28 : decode (z_c m_Pa_readTest) 28 = .ok (.ifCond .ne 5, 3) := by decide +kernel
theorem d_Pa_readTest_31 : decode (z_c m_Pa_readTest) 31 = .ok (.iconst 0, 1) := by decide +kernel
theorem d_Pa_readTest_32 : decode (z_c m_Pa_readTest) 32 = .ok (.ireturn, 1) := by decide +kernel
theorem d_Pa_readTest_33 : decode (z_c m_Pa_readTest) 33 = .ok (.aload_n 0, 1) := by decide +kernel
theorem d_Pa_readTest_34 : decode (z_c m_Pa_readTest) 34 = .ok (.aload_n 0, 1) := by decide +kernel
theorem d_Pa_readTest_35 : decode (z_c m_Pa_readTest) 35 = .ok (.getfield 21, 3) := by decide +kernel
theorem d_Pa_readTest_38 : decode (z_c m_Pa_readTest) 38 = .ok (.getfield 146, 3) := by decide +kernel
theorem d_Pa_readTest_41 : decode (z_c m_Pa_readTest) 41 = .ok (.putfield 207, 3) := by decide +kernel
theorem d_Pa_readTest_44 : decode (z_c m_Pa_readTest) 44 = .ok (.aload_n 0, 1) := by decide +kernel
theorem d_Pa_readTest_45 : decode (z_c m_Pa_readTest) 45 = .ok (.aload_n 0, 1) := by decide +kernel
theorem d_Pa_readTest_46 : decode (z_c m_Pa_readTest) 46 = .ok (.getfield 21, 3) := by decide +kernel
theorem d_Pa_readTest_49 : decode (z_c m_Pa_readTest) 49 = .ok (.getfield 149, 3) := by decide +kernel
theorem d_Pa_readTest_52 : decode (z_c m_Pa_readTest) 52 = .ok (.putfield 210, 3) := by decide +kernel
theorem d_Pa_readTest_55 : decode (z_c m_Pa_readTest) 55 = .ok (.iconst 1, 1) := by decide +kernel
theorem d_Pa_readTest_56 : decode (z_c m_Pa_readTest) 56 = .ok (.ireturn, 1) := by decide +kernel
theorem d_Pa_readTest_57 : decode (z_c m_Pa_readTest) 57 = .ok (.aload_n 0, 1) := by decide +kernel
theorem d_Pa_readTest_58 : decode (z_c m_Pa_readTest) 58 = .ok (.getfield 12, 3) := by decide +kernel
theorem d_Pa_readTest_61 : decode (z_c m_Pa_readTest) 61 = .ok (.ldc 236, 2) := by decide +kernel
theorem d_Pa_readTest_63 : decode (z_c m_Pa_readTest) 63 = .ok (.invokevirtual 72, 3) := by decide +kernel
theorem d_Pa_readTest_66 : decode (z_c m_Pa_readTest) 66 = .ok (.ifCond .eq 17, 3) := by decide +kernel
theorem d_Pa_readTest_69 : decode (z_c m_Pa_readTest) 69 = .ok (.aload_n 0, 1) := by decide +kernel
theorem d_Pa_readTest_70 : decode (z_c m_Pa_readTest) 70 = .ok (.iconst 1, 1) := by decide +kernel
theorem d_Pa_readTest_71 : decode (z_c m_Pa_readTest) 71 = .ok (.putfield 204, 3) := by decide +kernel
theorem d_Pa_readTest_74 : decode (z_c m_Pa_readTest) 74 = .ok (.aload_n 0, 1) := by decide +kernel
theorem d_Pa_readTest_75 : decode (z_c m_Pa_readTest) 75 = .ok (.getfield 12, 3) := by decide +kernel
theorem d_Pa_readTest_78 : decode (z_c m_Pa_readTest) 78 = .ok (.invokevirtual 109, 3) := by decide +kernel
theorem d_Pa_readTest_81 : decode (z_c m_Pa_readTest) 81 = .ok (.iconst 1, 1) := by decide +kernel
theorem d_Pa_readTest_82 : decode (z_c m_Pa_readTest) 82 = .ok (.ireturn, 1) := by decide +kernel
theorem d_Pa_readTest_83 : decode (z_c m_Pa_readTest) 83 = .ok (.aload_n 0, 1) := by decide +kernel
theorem d_Pa_readTest_84 : decode (z_c m_Pa_readTest) 84 = .ok (.getfield 12, 3) := by decide +kernel
theorem d_Pa_readTest_87 : decode (z_c m_Pa_readTest) 87 = .ok (.ldc 238, 2) := by decide +kernel
theorem d_Pa_readTest_89 : decode (z_c m_Pa_readTest) 89 = .ok (.invokevirtual 72, 3) := by decide +kernel
theorem d_Pa_readTest_92 : decode (z_c m_Pa_readTest) 92 = .ok (.ifCond .ne 15, 3) := by decide +kernel
theorem d_Pa_readTest_95 : decode (z_c m_Pa_readTest) 95 = .ok (.aload_n 0, 1) := by decide +kernel
theorem d_Pa_readTest_96 : decode (z_c m_Pa_readTest) 96 = .ok (.getfield 12, 3) := by decide +kernel
theorem d_Pa_readTest_99 : decode (z_c m_Pa_readTest) 99 = .ok (.ldc 240, 2) := by decide +kernel
theorem d_Pa_readTest_101 : decode (z_c m_Pa_readTest) 101 = .ok (.invokevirtual 72, 3) := by decide +kernel
theorem d_Pa_readTest_104 : decode (z_c m_Pa_readTest) 104 = .ok (.ifCond .eq 36, 3) := by decide +kernel
theorem d_Pa_readTest_107 : decode (z_c m_Pa_readTest) 107 = .ok (.aload_n 0, 1) := by decide +kernel
theorem d_Pa_readTest_108 : decode (z_c m_Pa_readTest) 108 = .ok (.aload_n 0, 1) := by decide +kernel
theorem d_Pa_readTest_109 : decode (z_c m_Pa_readTest) 109 = .ok (.getfield 12, 3) := by decide +kernel
theorem d_Pa_readTest_112 : decode (z_c m_Pa_readTest) 112 = .ok (.ldc 238, 2) := by decide +kernel
theorem d_Pa_readTest_114 : decode (z_c m_Pa_readTest) 114 = .ok (.invokevirtual 72, 3) := by decide +kernel
theorem d_Pa_readTest_117 : decode (z_c m_Pa_readTest) 117 = .ok (.ifCond .eq 7, 3) := by decide +kernel
theorem d_Pa_readTest_120 : decode (z_c m_Pa_readTest) 120 = .ok (.iconst 2, 1) := by decide +kernel
theorem d_Pa_readTest_121 : decode (z_c m_Pa_readTest) 121 = .ok (.goto 4, 3) := by decide +kernel
theorem d_Pa_readTest_124 : decode (z_c m_Pa_readTest) 124 = .ok (.iconst 3, 1) := by decide +kernel
theorem d_Pa_readTest_125 : decode (z_c m_Pa_readTest) 125 = .ok (.putfield 204, 3) := by decide +kernel
theorem d_Pa_readTest_128 : decode (z_c m_Pa_readTest) 128 = .ok (.aload_n 0, 1) := by decide +kernel
theorem d_Pa_readTest_129 : decode (z_c m_Pa_readTest) 129 = .ok (.getfield 12, 3) := by decide +kernel
theorem d_Pa_readTest_132 : decode (z_c m_Pa_readTest) 132 = .ok (.invokevirtual 109, 3) := by decide +kernel
theorem d_Pa_readTest_135 : decode (z_c m_Pa_readTest) 135 = .ok (.aload_n 0, 1) := by decide +kernel
theorem d_Pa_readTest_136 : decode (z_c m_Pa_readTest) 136 = .ok (.invokevirtual 241, 3) := by decide +kernel
theorem d_Pa_readTest_139 : decode (z_c m_Pa_readTest) 139 = .ok (.ireturn, 1) := by decide +kernel
theorem d_Pa_readTest_140 : decode (z_c m_Pa_readTest) 140 = .ok (.aload_n 0, 1) := by decide +kernel
theorem d_Pa_readTest_141 : decode (z_c m_Pa_readTest) 141 = .ok (.getfield 12, 3) := by decide +kernel
theorem d_Pa_readTest_144 : decode (z_c m_Pa_readTest) 144 = .ok (.invokevirtual 98, 3) := by decide +kernel
theorem d_Pa_readTest_147 : decode (z_c m_Pa_readTest) 147 = .ok (.ireturn, 1) := by decide +kernel
set_option maxRecDepth 8000 in
theorem b_Pa_readTest_0 {X : z_X} {N : Nat} {σ g : z_G} {Q : z_P} (hx : z_lay X N σ 0 z_SF z_RF) (h : z_O X 7 m_Ta_isWord [(2, 10), (4, 16)] N σ g (fun r0 g0 => (r0 = 0 ∨ r0 = 1) → (((r0 = 0) → (z_O X 7 m_Ta_isWord [(2, 10), (4, 17)] N σ g0 (fun r1 g1 => (r1 = 0 ∨ r1 = 1) → (((r1 = 0) → (z_O X 7 m_Ta_isWord [(2, 10), (4, 18)] N σ g1 (fun r2 g2 => (r2 = 0 ∨ r2 = 1) → (((r2 = 0) → (z_O X 7 m_Ta_isWord [(2, 10), (4, 19)] N σ g2 (fun r8 g8 => (r8 = 0 ∨ r8 = 1) → (((r8 = 0) → ((((g8 10 4) = 4) → Q 0 (z_up (z_up g8 10 9 1) 10 10 (g8 10 6))) ∧ (¬ ((g8 10 4) = 4) → Q 0 (z_up (z_up g8 10 9 2) 10 10 (g8 10 6))))) ∧ (¬ (r8 = 0) → (z_O X 7 m_Ta_isWord [(2, 10), (4, 18)] N σ g8 (fun r9 g9 => (r9 = 0 ∨ r9 = 1) → (((r9 = 0) → (z_O X 2 m_Ta_advance [(2, 10)] N σ (z_up g9 9 7 3) (fun r10 g10 => (z_O X 4 m_Pa_readCompare [(2, 9)] N σ g10 (fun r11 g11 => (r11 = 0 ∨ r11 = 1) → Q r11 g11))))) ∧ (¬ (r9 = 0) → (z_O X 2 m_Ta_advance [(2, 10)] N σ (z_up g9 9 7 2) (fun r12 g12 => (z_O X 4 m_Pa_readCompare [(2, 9)] N σ g12 (fun r13 g13 => (r13 = 0 ∨ r13 = 1) → Q r13 g13))))))))))))) ∧ (¬ (r2 = 0) → (z_O X 7 m_Ta_isWord [(2, 10), (4, 18)] N σ g2 (fun r3 g3 => (r3 = 0 ∨ r3 = 1) → (((r3 = 0) → (z_O X 2 m_Ta_advance [(2, 10)] N σ (z_up g3 9 7 3) (fun r4 g4 => (z_O X 4 m_Pa_readCompare [(2, 9)] N σ g4 (fun r5 g5 => (r5 = 0 ∨ r5 = 1) → Q r5 g5))))) ∧ (¬ (r3 = 0) → (z_O X 2 m_Ta_advance [(2, 10)] N σ (z_up g3 9 7 2) (fun r6 g6 => (z_O X 4 m_Pa_readCompare [(2, 9)] N σ g6 (fun r7 g7 => (r7 = 0 ∨ r7 = 1) → Q r7 g7))))))))))))) ∧ (¬ (r1 = 0) → (z_O X 2 m_Ta_advance [(2, 10)] N σ (z_up g1 9 7 1) (fun r14 g14 => Q 1 g14))))))) ∧ (¬ (r0 = 0) → (z_O X 2 m_Ta_advance [(2, 10)] N σ (z_up g0 9 7 0) (fun r15 g15 => (z_O X 9 m_Pa_readValue [(2, 9)] N σ g15 (fun r16 g16 => (r16 = 0 ∨ r16 = 1) → (((r16 = 0) → Q 0 g16) ∧ (¬ (r16 = 0) → Q 1 (z_up (z_up g16 9 8 (g16 12 3)) 9 9 (g16 12 4)))))))))))) : z_O X 10 m_Pa_readTest [(2, 9)] N σ g Q := by
  refine z_Oenter mi_Pa_readTest rfl (fun _ => ?_)
  show z_U X 10 m_Pa_readTest 0 [(0, (2, 9))] [] N σ g Q
  refine z_aload_n (i := 0) (c := 9) 0 d_Pa_readTest_0 rfl rfl rfl ?_
  refine z_getr (c := 9) (kI := 0) (r2 := 10) d_Pa_readTest_1 fd_Pa_tape fl_Pa_12 rfl rfl rfl (ks_F_9 hx) (kl_F_9 hx) (kr_F_9_0 hx) ?_
  refine z_ldcs (q := ("FareyRank$Parser", 235, 16)) d_Pa_readTest_4 (List.mem_of_getElem? (i := 19) rfl) rfl rfl rfl ?_
  refine z_cV (c := 10) (as := [(4, 16)]) (d' := 7) (st := []) d_Pa_readTest_6 mi_Ta_isWord ml_Pa_72 mv_Ta_isWord se_Ta_isWord rfl rfl rfl rfl (ks_F_10 hx) rfl rfl (kl_F_10 hx) rfl rfl (z_Omono h (fun r0 g0 _ h hro => ?_))
  have h := h (z_b01 hro)
  have hzr0 := z_b01 hro
  show z_U X 10 m_Pa_readTest 9 [(0, (2, 9))] [(0, r0)] N σ g0 Q
  refine z_if_eq (tgt := 57) d_Pa_readTest_9 (by decide) (fun c1 => ?_) (fun c1 => ?_)
  · have h := h.1 c1
    refine z_aload_n (i := 0) (c := 9) 0 d_Pa_readTest_57 rfl rfl rfl ?_
    refine z_getr (c := 9) (kI := 0) (r2 := 10) d_Pa_readTest_58 fd_Pa_tape fl_Pa_12 rfl rfl rfl (ks_F_9 hx) (kl_F_9 hx) (kr_F_9_0 hx) ?_
    refine z_ldcs (q := ("FareyRank$Parser", 236, 17)) d_Pa_readTest_61 (List.mem_of_getElem? (i := 20) rfl) rfl rfl rfl ?_
    refine z_cV (c := 10) (as := [(4, 17)]) (d' := 7) (st := []) d_Pa_readTest_63 mi_Ta_isWord ml_Pa_72 mv_Ta_isWord se_Ta_isWord rfl rfl rfl rfl (ks_F_10 hx) rfl rfl (kl_F_10 hx) rfl rfl (z_Omono h (fun r1 g1 _ h hro => ?_))
    have h := h (z_b01 hro)
    have hzr1 := z_b01 hro
    show z_U X 10 m_Pa_readTest 66 [(0, (2, 9))] [(0, r1)] N σ g1 Q
    refine z_if_eq (tgt := 83) d_Pa_readTest_66 (by decide) (fun c2 => ?_) (fun c2 => ?_)
    · have h := h.1 c2
      refine z_aload_n (i := 0) (c := 9) 0 d_Pa_readTest_83 rfl rfl rfl ?_
      refine z_getr (c := 9) (kI := 0) (r2 := 10) d_Pa_readTest_84 fd_Pa_tape fl_Pa_12 rfl rfl rfl (ks_F_9 hx) (kl_F_9 hx) (kr_F_9_0 hx) ?_
      refine z_ldcs (q := ("FareyRank$Parser", 238, 18)) d_Pa_readTest_87 (List.mem_of_getElem? (i := 21) rfl) rfl rfl rfl ?_
      refine z_cV (c := 10) (as := [(4, 18)]) (d' := 7) (st := []) d_Pa_readTest_89 mi_Ta_isWord ml_Pa_72 mv_Ta_isWord se_Ta_isWord rfl rfl rfl rfl (ks_F_10 hx) rfl rfl (kl_F_10 hx) rfl rfl (z_Omono h (fun r2 g2 _ h hro => ?_))
      have h := h (z_b01 hro)
      have hzr2 := z_b01 hro
      show z_U X 10 m_Pa_readTest 92 [(0, (2, 9))] [(0, r2)] N σ g2 Q
      refine z_if_ne (tgt := 107) d_Pa_readTest_92 (by decide) (fun c3 => ?_) (fun c3 => ?_)
      · have h := h.2 c3
        refine z_aload_n (i := 0) (c := 9) 0 d_Pa_readTest_107 rfl rfl rfl ?_
        refine z_aload_n (i := 0) (c := 9) 0 d_Pa_readTest_108 rfl rfl rfl ?_
        refine z_getr (c := 9) (kI := 0) (r2 := 10) d_Pa_readTest_109 fd_Pa_tape fl_Pa_12 rfl rfl rfl (ks_F_9 hx) (kl_F_9 hx) (kr_F_9_0 hx) ?_
        refine z_ldcs (q := ("FareyRank$Parser", 238, 18)) d_Pa_readTest_112 (List.mem_of_getElem? (i := 21) rfl) rfl rfl rfl ?_
        refine z_cV (c := 10) (as := [(4, 18)]) (d' := 7) (st := [(2, 9)]) d_Pa_readTest_114 mi_Ta_isWord ml_Pa_72 mv_Ta_isWord se_Ta_isWord rfl rfl rfl rfl (ks_F_10 hx) rfl rfl (kl_F_10 hx) rfl rfl (z_Omono h (fun r3 g3 _ h hro => ?_))
        have h := h (z_b01 hro)
        have hzr3 := z_b01 hro
        show z_U X 10 m_Pa_readTest 117 [(0, (2, 9))] [(0, r3), (2, 9)] N σ g3 Q
        refine z_if_eq (tgt := 124) d_Pa_readTest_117 (by decide) (fun c4 => ?_) (fun c4 => ?_)
        · have h := h.1 c4
          refine z_iconst (n := 3) d_Pa_readTest_124 (by decide) ?_
          refine z_puti (c := 9) (kI := 7) d_Pa_readTest_125 fd_Pa_test fl_Pa_204 pf_Pa_test rfl rfl rfl rfl (ks_F_9 hx) (kl_F_9 hx) ?_
          refine z_aload_n (i := 0) (c := 9) 0 d_Pa_readTest_128 rfl rfl rfl ?_
          refine z_getr (c := 9) (kI := 0) (r2 := 10) d_Pa_readTest_129 fd_Pa_tape fl_Pa_12 rfl rfl rfl (ks_F_9 hx) (kl_F_9 hx) (kr_F_9_0 hx) ?_
          refine z_cV (c := 10) (as := []) (d' := 2) (st := []) d_Pa_readTest_132 mi_Ta_advance ml_Pa_109 mv_Ta_advance se_Ta_advance rfl rfl rfl rfl (ks_F_10 hx) rfl rfl (kl_F_10 hx) rfl rfl (z_Omono h (fun r4 g4 _ h hro => ?_))
          show z_U X 10 m_Pa_readTest 135 [(0, (2, 9))] [] N σ g4 Q
          refine z_aload_n (i := 0) (c := 9) 0 d_Pa_readTest_135 rfl rfl rfl ?_
          refine z_cV (c := 9) (as := []) (d' := 4) (st := []) d_Pa_readTest_136 mi_Pa_readCompare ml_Pa_241 mv_Pa_readCompare se_Pa_readCompare rfl rfl rfl rfl (ks_F_9 hx) rfl rfl (kl_F_9 hx) rfl rfl (z_Omono h (fun r5 g5 _ h hro => ?_))
          have h := h (z_b01 hro)
          have hzr5 := z_b01 hro
          show z_U X 10 m_Pa_readTest 139 [(0, (2, 9))] [(0, r5)] N σ g5 Q
          exact z_zret d_Pa_readTest_139 rfl (by decide) (by decide) hzr5 ⟨rfl, rfl, h⟩
        · have h := h.2 c4
          refine z_iconst (n := 2) d_Pa_readTest_120 (by decide) ?_
          refine z_goto (tgt := 125) d_Pa_readTest_121 (by decide) ?_
          refine z_puti (c := 9) (kI := 7) d_Pa_readTest_125 fd_Pa_test fl_Pa_204 pf_Pa_test rfl rfl rfl rfl (ks_F_9 hx) (kl_F_9 hx) ?_
          refine z_aload_n (i := 0) (c := 9) 0 d_Pa_readTest_128 rfl rfl rfl ?_
          refine z_getr (c := 9) (kI := 0) (r2 := 10) d_Pa_readTest_129 fd_Pa_tape fl_Pa_12 rfl rfl rfl (ks_F_9 hx) (kl_F_9 hx) (kr_F_9_0 hx) ?_
          refine z_cV (c := 10) (as := []) (d' := 2) (st := []) d_Pa_readTest_132 mi_Ta_advance ml_Pa_109 mv_Ta_advance se_Ta_advance rfl rfl rfl rfl (ks_F_10 hx) rfl rfl (kl_F_10 hx) rfl rfl (z_Omono h (fun r6 g6 _ h hro => ?_))
          show z_U X 10 m_Pa_readTest 135 [(0, (2, 9))] [] N σ g6 Q
          refine z_aload_n (i := 0) (c := 9) 0 d_Pa_readTest_135 rfl rfl rfl ?_
          refine z_cV (c := 9) (as := []) (d' := 4) (st := []) d_Pa_readTest_136 mi_Pa_readCompare ml_Pa_241 mv_Pa_readCompare se_Pa_readCompare rfl rfl rfl rfl (ks_F_9 hx) rfl rfl (kl_F_9 hx) rfl rfl (z_Omono h (fun r7 g7 _ h hro => ?_))
          have h := h (z_b01 hro)
          have hzr7 := z_b01 hro
          show z_U X 10 m_Pa_readTest 139 [(0, (2, 9))] [(0, r7)] N σ g7 Q
          exact z_zret d_Pa_readTest_139 rfl (by decide) (by decide) hzr7 ⟨rfl, rfl, h⟩
      · have h := h.1 c3
        refine z_aload_n (i := 0) (c := 9) 0 d_Pa_readTest_95 rfl rfl rfl ?_
        refine z_getr (c := 9) (kI := 0) (r2 := 10) d_Pa_readTest_96 fd_Pa_tape fl_Pa_12 rfl rfl rfl (ks_F_9 hx) (kl_F_9 hx) (kr_F_9_0 hx) ?_
        refine z_ldcs (q := ("FareyRank$Parser", 240, 19)) d_Pa_readTest_99 (List.mem_of_getElem? (i := 22) rfl) rfl rfl rfl ?_
        refine z_cV (c := 10) (as := [(4, 19)]) (d' := 7) (st := []) d_Pa_readTest_101 mi_Ta_isWord ml_Pa_72 mv_Ta_isWord se_Ta_isWord rfl rfl rfl rfl (ks_F_10 hx) rfl rfl (kl_F_10 hx) rfl rfl (z_Omono h (fun r8 g8 _ h hro => ?_))
        have h := h (z_b01 hro)
        have hzr8 := z_b01 hro
        show z_U X 10 m_Pa_readTest 104 [(0, (2, 9))] [(0, r8)] N σ g8 Q
        refine z_if_eq (tgt := 140) d_Pa_readTest_104 (by decide) (fun c5 => ?_) (fun c5 => ?_)
        · have h := h.1 c5
          refine z_aload_n (i := 0) (c := 9) 0 d_Pa_readTest_140 rfl rfl rfl ?_
          refine z_getr (c := 9) (kI := 0) (r2 := 10) d_Pa_readTest_141 fd_Pa_tape fl_Pa_12 rfl rfl rfl (ks_F_9 hx) (kl_F_9 hx) (kr_F_9_0 hx) ?_
          refine z_cV (c := 10) (as := []) (d' := 2) (st := []) d_Pa_readTest_144 mi_Ta_failHere ml_Pa_98 mv_Ta_failHere se_Ta_failHere rfl rfl rfl rfl (ks_F_10 hx) rfl rfl (kl_F_10 hx) rfl rfl (b_Ta_failHere_0 hx ?_)
          refine ⟨fun c6 => ?_, fun c6 => ?_⟩
          · have h := h.1 c6
            intro _
            show z_U X 10 m_Pa_readTest 147 [(0, (2, 9))] [(0, 0)] N σ (z_up (z_up g8 10 9 1) 10 10 (g8 10 6)) Q
            exact z_zret d_Pa_readTest_147 rfl (by decide) (by decide) (by decide) ⟨rfl, rfl, h⟩
          · have h := h.2 c6
            intro _
            show z_U X 10 m_Pa_readTest 147 [(0, (2, 9))] [(0, 0)] N σ (z_up (z_up g8 10 9 2) 10 10 (g8 10 6)) Q
            exact z_zret d_Pa_readTest_147 rfl (by decide) (by decide) (by decide) ⟨rfl, rfl, h⟩
        · have h := h.2 c5
          refine z_aload_n (i := 0) (c := 9) 0 d_Pa_readTest_107 rfl rfl rfl ?_
          refine z_aload_n (i := 0) (c := 9) 0 d_Pa_readTest_108 rfl rfl rfl ?_
          refine z_getr (c := 9) (kI := 0) (r2 := 10) d_Pa_readTest_109 fd_Pa_tape fl_Pa_12 rfl rfl rfl (ks_F_9 hx) (kl_F_9 hx) (kr_F_9_0 hx) ?_
          refine z_ldcs (q := ("FareyRank$Parser", 238, 18)) d_Pa_readTest_112 (List.mem_of_getElem? (i := 21) rfl) rfl rfl rfl ?_
          refine z_cV (c := 10) (as := [(4, 18)]) (d' := 7) (st := [(2, 9)]) d_Pa_readTest_114 mi_Ta_isWord ml_Pa_72 mv_Ta_isWord se_Ta_isWord rfl rfl rfl rfl (ks_F_10 hx) rfl rfl (kl_F_10 hx) rfl rfl (z_Omono h (fun r9 g9 _ h hro => ?_))
          have h := h (z_b01 hro)
          have hzr9 := z_b01 hro
          show z_U X 10 m_Pa_readTest 117 [(0, (2, 9))] [(0, r9), (2, 9)] N σ g9 Q
          refine z_if_eq (tgt := 124) d_Pa_readTest_117 (by decide) (fun c7 => ?_) (fun c7 => ?_)
          · have h := h.1 c7
            refine z_iconst (n := 3) d_Pa_readTest_124 (by decide) ?_
            refine z_puti (c := 9) (kI := 7) d_Pa_readTest_125 fd_Pa_test fl_Pa_204 pf_Pa_test rfl rfl rfl rfl (ks_F_9 hx) (kl_F_9 hx) ?_
            refine z_aload_n (i := 0) (c := 9) 0 d_Pa_readTest_128 rfl rfl rfl ?_
            refine z_getr (c := 9) (kI := 0) (r2 := 10) d_Pa_readTest_129 fd_Pa_tape fl_Pa_12 rfl rfl rfl (ks_F_9 hx) (kl_F_9 hx) (kr_F_9_0 hx) ?_
            refine z_cV (c := 10) (as := []) (d' := 2) (st := []) d_Pa_readTest_132 mi_Ta_advance ml_Pa_109 mv_Ta_advance se_Ta_advance rfl rfl rfl rfl (ks_F_10 hx) rfl rfl (kl_F_10 hx) rfl rfl (z_Omono h (fun r10 g10 _ h hro => ?_))
            show z_U X 10 m_Pa_readTest 135 [(0, (2, 9))] [] N σ g10 Q
            refine z_aload_n (i := 0) (c := 9) 0 d_Pa_readTest_135 rfl rfl rfl ?_
            refine z_cV (c := 9) (as := []) (d' := 4) (st := []) d_Pa_readTest_136 mi_Pa_readCompare ml_Pa_241 mv_Pa_readCompare se_Pa_readCompare rfl rfl rfl rfl (ks_F_9 hx) rfl rfl (kl_F_9 hx) rfl rfl (z_Omono h (fun r11 g11 _ h hro => ?_))
            have h := h (z_b01 hro)
            have hzr11 := z_b01 hro
            show z_U X 10 m_Pa_readTest 139 [(0, (2, 9))] [(0, r11)] N σ g11 Q
            exact z_zret d_Pa_readTest_139 rfl (by decide) (by decide) hzr11 ⟨rfl, rfl, h⟩
          · have h := h.2 c7
            refine z_iconst (n := 2) d_Pa_readTest_120 (by decide) ?_
            refine z_goto (tgt := 125) d_Pa_readTest_121 (by decide) ?_
            refine z_puti (c := 9) (kI := 7) d_Pa_readTest_125 fd_Pa_test fl_Pa_204 pf_Pa_test rfl rfl rfl rfl (ks_F_9 hx) (kl_F_9 hx) ?_
            refine z_aload_n (i := 0) (c := 9) 0 d_Pa_readTest_128 rfl rfl rfl ?_
            refine z_getr (c := 9) (kI := 0) (r2 := 10) d_Pa_readTest_129 fd_Pa_tape fl_Pa_12 rfl rfl rfl (ks_F_9 hx) (kl_F_9 hx) (kr_F_9_0 hx) ?_
            refine z_cV (c := 10) (as := []) (d' := 2) (st := []) d_Pa_readTest_132 mi_Ta_advance ml_Pa_109 mv_Ta_advance se_Ta_advance rfl rfl rfl rfl (ks_F_10 hx) rfl rfl (kl_F_10 hx) rfl rfl (z_Omono h (fun r12 g12 _ h hro => ?_))
            show z_U X 10 m_Pa_readTest 135 [(0, (2, 9))] [] N σ g12 Q
            refine z_aload_n (i := 0) (c := 9) 0 d_Pa_readTest_135 rfl rfl rfl ?_
            refine z_cV (c := 9) (as := []) (d' := 4) (st := []) d_Pa_readTest_136 mi_Pa_readCompare ml_Pa_241 mv_Pa_readCompare se_Pa_readCompare rfl rfl rfl rfl (ks_F_9 hx) rfl rfl (kl_F_9 hx) rfl rfl (z_Omono h (fun r13 g13 _ h hro => ?_))
            have h := h (z_b01 hro)
            have hzr13 := z_b01 hro
            show z_U X 10 m_Pa_readTest 139 [(0, (2, 9))] [(0, r13)] N σ g13 Q
            exact z_zret d_Pa_readTest_139 rfl (by decide) (by decide) hzr13 ⟨rfl, rfl, h⟩
    · have h := h.2 c2
      refine z_aload_n (i := 0) (c := 9) 0 d_Pa_readTest_69 rfl rfl rfl ?_
      refine z_iconst (n := 1) d_Pa_readTest_70 (by decide) ?_
      refine z_puti (c := 9) (kI := 7) d_Pa_readTest_71 fd_Pa_test fl_Pa_204 pf_Pa_test rfl rfl rfl rfl (ks_F_9 hx) (kl_F_9 hx) ?_
      refine z_aload_n (i := 0) (c := 9) 0 d_Pa_readTest_74 rfl rfl rfl ?_
      refine z_getr (c := 9) (kI := 0) (r2 := 10) d_Pa_readTest_75 fd_Pa_tape fl_Pa_12 rfl rfl rfl (ks_F_9 hx) (kl_F_9 hx) (kr_F_9_0 hx) ?_
      refine z_cV (c := 10) (as := []) (d' := 2) (st := []) d_Pa_readTest_78 mi_Ta_advance ml_Pa_109 mv_Ta_advance se_Ta_advance rfl rfl rfl rfl (ks_F_10 hx) rfl rfl (kl_F_10 hx) rfl rfl (z_Omono h (fun r14 g14 _ h hro => ?_))
      show z_U X 10 m_Pa_readTest 81 [(0, (2, 9))] [] N σ g14 Q
      refine z_iconst (n := 1) d_Pa_readTest_81 (by decide) ?_
      exact z_zret d_Pa_readTest_82 rfl (by decide) (by decide) (by decide) ⟨rfl, rfl, h⟩
  · have h := h.2 c1
    refine z_aload_n (i := 0) (c := 9) 0 d_Pa_readTest_12 rfl rfl rfl ?_
    refine z_iconst (n := 0) d_Pa_readTest_13 (by decide) ?_
    refine z_puti (c := 9) (kI := 7) d_Pa_readTest_14 fd_Pa_test fl_Pa_204 pf_Pa_test rfl rfl rfl rfl (ks_F_9 hx) (kl_F_9 hx) ?_
    refine z_aload_n (i := 0) (c := 9) 0 d_Pa_readTest_17 rfl rfl rfl ?_
    refine z_getr (c := 9) (kI := 0) (r2 := 10) d_Pa_readTest_18 fd_Pa_tape fl_Pa_12 rfl rfl rfl (ks_F_9 hx) (kl_F_9 hx) (kr_F_9_0 hx) ?_
    refine z_cV (c := 10) (as := []) (d' := 2) (st := []) d_Pa_readTest_21 mi_Ta_advance ml_Pa_109 mv_Ta_advance se_Ta_advance rfl rfl rfl rfl (ks_F_10 hx) rfl rfl (kl_F_10 hx) rfl rfl (z_Omono h (fun r15 g15 _ h hro => ?_))
    show z_U X 10 m_Pa_readTest 24 [(0, (2, 9))] [] N σ g15 Q
    refine z_aload_n (i := 0) (c := 9) 0 d_Pa_readTest_24 rfl rfl rfl ?_
    refine z_cV (c := 9) (as := []) (d' := 9) (st := []) d_Pa_readTest_25 mi_Pa_readValue ml_Pa_122 mv_Pa_readValue se_Pa_readValue rfl rfl rfl rfl (ks_F_9 hx) rfl rfl (kl_F_9 hx) rfl rfl (z_Omono h (fun r16 g16 _ h hro => ?_))
    have h := h (z_b01 hro)
    have hzr16 := z_b01 hro
    show z_U X 10 m_Pa_readTest 28 [(0, (2, 9))] [(0, r16)] N σ g16 Q
    refine z_if_ne (tgt := 33) d_Pa_readTest_28 (by decide) (fun c8 => ?_) (fun c8 => ?_)
    · have h := h.2 c8
      refine z_aload_n (i := 0) (c := 9) 0 d_Pa_readTest_33 rfl rfl rfl ?_
      refine z_aload_n (i := 0) (c := 9) 0 d_Pa_readTest_34 rfl rfl rfl ?_
      refine z_getr (c := 9) (kI := 1) (r2 := 12) d_Pa_readTest_35 fd_Pa_chain fl_Pa_21 rfl rfl rfl (ks_F_9 hx) (kl_F_9 hx) (kr_F_9_1 hx) ?_
      refine z_geti (c := 12) (kI := 3) d_Pa_readTest_38 fd_Ch_top fl_Pa_146 (Or.inl rfl) rfl rfl (ks_F_12 hx) (kl_F_12 hx) ?_
      refine z_puti (c := 9) (kI := 8) d_Pa_readTest_41 fd_Pa_first fl_Pa_207 pf_Pa_first rfl rfl rfl rfl (ks_F_9 hx) (kl_F_9 hx) ?_
      refine z_aload_n (i := 0) (c := 9) 0 d_Pa_readTest_44 rfl rfl rfl ?_
      refine z_aload_n (i := 0) (c := 9) 0 d_Pa_readTest_45 rfl rfl rfl ?_
      refine z_getr (c := 9) (kI := 1) (r2 := 12) d_Pa_readTest_46 fd_Pa_chain fl_Pa_21 rfl rfl rfl (ks_F_9 hx) (kl_F_9 hx) (kr_F_9_1 hx) ?_
      refine z_geti (c := 12) (kI := 4) d_Pa_readTest_49 fd_Ch_bottom fl_Pa_149 (Or.inl rfl) rfl rfl (ks_F_12 hx) (kl_F_12 hx) ?_
      refine z_ti (b := g16 12 4) (by simp [z_up]) ?_
      refine z_puti (c := 9) (kI := 9) d_Pa_readTest_52 fd_Pa_second fl_Pa_210 pf_Pa_second rfl rfl rfl rfl (ks_F_9 hx) (kl_F_9 hx) ?_
      refine z_iconst (n := 1) d_Pa_readTest_55 (by decide) ?_
      exact z_zret d_Pa_readTest_56 rfl (by decide) (by decide) (by decide) ⟨rfl, rfl, h⟩
    · have h := h.1 c8
      refine z_iconst (n := 0) d_Pa_readTest_31 (by decide) ?_
      exact z_zret d_Pa_readTest_32 rfl (by decide) (by decide) (by decide) ⟨rfl, rfl, h⟩
theorem d_Pa_readPart_0 : decode (z_c m_Pa_readPart) 0 = .ok (.aload_n 0, 1) := by decide +kernel
theorem d_Pa_readPart_1 : decode (z_c m_Pa_readPart) 1 = .ok (.getfield 12, 3) := by decide +kernel
theorem d_Pa_readPart_4 : decode (z_c m_Pa_readPart) 4 = .ok (.ldc 70, 2) := by decide +kernel
theorem d_Pa_readPart_6 : decode (z_c m_Pa_readPart) 6 = .ok (.invokevirtual 72, 3) := by decide +kernel
theorem d_Pa_readPart_9 : decode (z_c m_Pa_readPart) 9 = .ok (.ifCond .eq 29, 3) := by decide +kernel
theorem d_Pa_readPart_12 : decode (z_c m_Pa_readPart) 12 = .ok (.aload_n 0, 1) := by decide +kernel
theorem d_Pa_readPart_13 : decode (z_c m_Pa_readPart) 13 = .ok (.aload_n 1, 1) := by decide +kernel
theorem d_Pa_readPart_14 : decode (z_c m_Pa_readPart) 14 = .ok (.invokevirtual 76, 3) := by decide +kernel
theorem d_Pa_readPart_17 : decode (z_c m_Pa_readPart) 17 = .ok (.ifCond .eq 19, 3) := by decide +kernel
theorem d_Pa_readPart_20 : decode (z_c m_Pa_readPart) 20 = .ok (.aload_n 0, 1) := by decide +kernel
theorem d_Pa_readPart_21 : decode (z_c m_Pa_readPart) 21 = .ok (.getfield 12, 3) := by decide +kernel
theorem d_Pa_readPart_24 : decode (z_c m_Pa_readPart) 24 = .ok (.bipush 59, 2) := by decide +kernel
theorem d_Pa_readPart_26 : decode (z_c m_Pa_readPart) 26 = .ok (.invokevirtual 79, 3) := by decide +kernel
theorem d_Pa_readPart_29 : decode (z_c m_Pa_readPart) 29 = .ok (.ifCond .eq 7, 3) := by decide +kernel
theorem d_Pa_readPart_32 : decode (z_c m_Pa_readPart) 32 = .ok (.iconst 1, 1) := by decide +kernel
theorem d_Pa_readPart_33 : decode (z_c m_Pa_readPart) 33 = .ok (.goto 4, 3) := by decide +kernel
theorem d_Pa_readPart_36 : decode (z_c m_Pa_readPart) 36 = .ok (.iconst 0, 1) := by decide +kernel
theorem d_Pa_readPart_37 : decode (z_c m_Pa_readPart) 37 = .ok (.ireturn, 1) := by decide +kernel
theorem d_Pa_readPart_38 : decode (z_c m_Pa_readPart) 38 = .ok (.aload_n 0, 1) := by decide +kernel
theorem d_Pa_readPart_39 : decode (z_c m_Pa_readPart) 39 = .ok (.getfield 12, 3) := by decide +kernel
theorem d_Pa_readPart_42 : decode (z_c m_Pa_readPart) 42 = .ok (.ldc 83, 2) := by decide +kernel
theorem d_Pa_readPart_44 : decode (z_c m_Pa_readPart) 44 = .ok (.invokevirtual 72, 3) := by decide +kernel
theorem d_Pa_readPart_47 : decode (z_c m_Pa_readPart) 47 = .ok (.ifCond .eq 29, 3) := by decide +kernel
theorem d_Pa_readPart_50 : decode (z_c m_Pa_readPart) 50 = .ok (.aload_n 0, 1) := by decide +kernel
theorem d_Pa_readPart_51 : decode (z_c m_Pa_readPart) 51 = .ok (.aload_n 1, 1) := by decide +kernel
theorem d_Pa_readPart_52 : decode (z_c m_Pa_readPart) 52 = .ok (.invokevirtual 85, 3) := by decide +kernel
theorem d_Pa_readPart_55 : decode (z_c m_Pa_readPart) 55 = .ok (.ifCond .eq 19, 3) := by decide +kernel
theorem d_Pa_readPart_58 : decode (z_c m_Pa_readPart) 58 = .ok (.aload_n 0, 1) := by decide +kernel
theorem d_Pa_readPart_59 : decode (z_c m_Pa_readPart) 59 = .ok (.getfield 12, 3) := by decide +kernel
theorem d_Pa_readPart_62 : decode (z_c m_Pa_readPart) 62 = .ok (.bipush 59, 2) := by decide +kernel
theorem d_Pa_readPart_64 : decode (z_c m_Pa_readPart) 64 = .ok (.invokevirtual 79, 3) := by decide +kernel
theorem d_Pa_readPart_67 : decode (z_c m_Pa_readPart) 67 = .ok (.ifCond .eq 7, 3) := by decide +kernel
theorem d_Pa_readPart_70 : decode (z_c m_Pa_readPart) 70 = .ok (.iconst 1, 1) := by decide +kernel
theorem d_Pa_readPart_71 : decode (z_c m_Pa_readPart) 71 = .ok (.goto 4, 3) := by decide +kernel
theorem d_Pa_readPart_74 : decode (z_c m_Pa_readPart) 74 = .ok (.iconst 0, 1) := by decide +kernel
theorem d_Pa_readPart_75 : decode (z_c m_Pa_readPart) 75 = .ok (.ireturn, 1) := by decide +kernel
theorem d_Pa_readPart_76 : decode (z_c m_Pa_readPart) 76 = .ok (.aload_n 0, 1) := by decide +kernel
theorem d_Pa_readPart_77 : decode (z_c m_Pa_readPart) 77 = .ok (.getfield 12, 3) := by decide +kernel
theorem d_Pa_readPart_80 : decode (z_c m_Pa_readPart) 80 = .ok (.ldc 88, 2) := by decide +kernel
theorem d_Pa_readPart_82 : decode (z_c m_Pa_readPart) 82 = .ok (.invokevirtual 72, 3) := by decide +kernel
theorem d_Pa_readPart_85 : decode (z_c m_Pa_readPart) 85 = .ok (.ifCond .eq 29, 3) := by decide +kernel
theorem d_Pa_readPart_88 : decode (z_c m_Pa_readPart) 88 = .ok (.aload_n 0, 1) := by decide +kernel
theorem d_Pa_readPart_89 : decode (z_c m_Pa_readPart) 89 = .ok (.aload_n 1, 1) := by decide +kernel
theorem d_Pa_readPart_90 : decode (z_c m_Pa_readPart) 90 = .ok (.invokevirtual 90, 3) := by decide +kernel
theorem d_Pa_readPart_93 : decode (z_c m_Pa_readPart) 93 = .ok (.ifCond .eq 19, 3) := by decide +kernel
theorem d_Pa_readPart_96 : decode (z_c m_Pa_readPart) 96 = .ok (.aload_n 0, 1) := by decide +kernel
theorem d_Pa_readPart_97 : decode (z_c m_Pa_readPart) 97 = .ok (.getfield 12, 3) := by decide +kernel
theorem d_Pa_readPart_100 : decode (z_c m_Pa_readPart) 100 = .ok (.bipush 59, 2) := by decide +kernel
theorem d_Pa_readPart_102 : decode (z_c m_Pa_readPart) 102 = .ok (.invokevirtual 79, 3) := by decide +kernel
theorem d_Pa_readPart_105 : decode (z_c m_Pa_readPart) 105 = .ok (.ifCond .eq 7, 3) := by decide +kernel
theorem d_Pa_readPart_108 : decode (z_c m_Pa_readPart) 108 = .ok (.iconst 1, 1) := by decide +kernel
theorem d_Pa_readPart_109 : decode (z_c m_Pa_readPart) 109 = .ok (.goto 4, 3) := by decide +kernel
theorem d_Pa_readPart_112 : decode (z_c m_Pa_readPart) 112 = .ok (.iconst 0, 1) := by decide +kernel
theorem d_Pa_readPart_113 : decode (z_c m_Pa_readPart) 113 = .ok (.ireturn, 1) := by decide +kernel
theorem d_Pa_readPart_114 : decode (z_c m_Pa_readPart) 114 = .ok (.aload_n 0, 1) := by decide +kernel
theorem d_Pa_readPart_115 : decode (z_c m_Pa_readPart) 115 = .ok (.getfield 12, 3) := by decide +kernel
theorem d_Pa_readPart_118 : decode (z_c m_Pa_readPart) 118 = .ok (.ldc 93, 2) := by decide +kernel
theorem d_Pa_readPart_120 : decode (z_c m_Pa_readPart) 120 = .ok (.invokevirtual 72, 3) := by decide +kernel
theorem d_Pa_readPart_123 : decode (z_c m_Pa_readPart) 123 = .ok (.ifCond .eq 29, 3) := by decide +kernel
theorem d_Pa_readPart_126 : decode (z_c m_Pa_readPart) 126 = .ok (.aload_n 0, 1) := by decide +kernel
theorem d_Pa_readPart_127 : decode (z_c m_Pa_readPart) 127 = .ok (.aload_n 1, 1) := by decide +kernel
theorem d_Pa_readPart_128 : decode (z_c m_Pa_readPart) 128 = .ok (.invokevirtual 95, 3) := by decide +kernel
theorem d_Pa_readPart_131 : decode (z_c m_Pa_readPart) 131 = .ok (.ifCond .eq 19, 3) := by decide +kernel
theorem d_Pa_readPart_134 : decode (z_c m_Pa_readPart) 134 = .ok (.aload_n 0, 1) := by decide +kernel
theorem d_Pa_readPart_135 : decode (z_c m_Pa_readPart) 135 = .ok (.getfield 12, 3) := by decide +kernel
theorem d_Pa_readPart_138 : decode (z_c m_Pa_readPart) 138 = .ok (.bipush 59, 2) := by decide +kernel
theorem d_Pa_readPart_140 : decode (z_c m_Pa_readPart) 140 = .ok (.invokevirtual 79, 3) := by decide +kernel
theorem d_Pa_readPart_143 : decode (z_c m_Pa_readPart) 143 = .ok (.ifCond .eq 7, 3) := by decide +kernel
theorem d_Pa_readPart_146 : decode (z_c m_Pa_readPart) 146 = .ok (.iconst 1, 1) := by decide +kernel
theorem d_Pa_readPart_147 : decode (z_c m_Pa_readPart) 147 = .ok (.goto 4, 3) := by decide +kernel
theorem d_Pa_readPart_150 : decode (z_c m_Pa_readPart) 150 = .ok (.iconst 0, 1) := by decide +kernel
theorem d_Pa_readPart_151 : decode (z_c m_Pa_readPart) 151 = .ok (.ireturn, 1) := by decide +kernel
theorem d_Pa_readPart_152 : decode (z_c m_Pa_readPart) 152 = .ok (.aload_n 0, 1) := by decide +kernel
theorem d_Pa_readPart_153 : decode (z_c m_Pa_readPart) 153 = .ok (.getfield 12, 3) := by decide +kernel
theorem d_Pa_readPart_156 : decode (z_c m_Pa_readPart) 156 = .ok (.invokevirtual 98, 3) := by decide +kernel
theorem d_Pa_readPart_159 : decode (z_c m_Pa_readPart) 159 = .ok (.ireturn, 1) := by decide +kernel
set_option maxRecDepth 8000 in
theorem b_Pa_readPart_0 {X : z_X} {N : Nat} {σ g : z_G} {Q : z_P} {p1 : Nat} (hx : z_lay X N σ 0 z_SF z_RF) (hp1 : z_lay X N σ p1 z_SBd z_RBd) (h : z_O X 7 m_Ta_isWord [(2, 10), (4, 0)] N σ g (fun r0 g0 => (r0 = 0 ∨ r0 = 1) → (((r0 = 0) → (z_O X 7 m_Ta_isWord [(2, 10), (4, 1)] N σ g0 (fun r1 g1 => (r1 = 0 ∨ r1 = 1) → (((r1 = 0) → (z_O X 7 m_Ta_isWord [(2, 10), (4, 2)] N σ g1 (fun r2 g2 => (r2 = 0 ∨ r2 = 1) → (((r2 = 0) → (z_O X 7 m_Ta_isWord [(2, 10), (4, 4)] N σ g2 (fun r3 g3 => (r3 = 0 ∨ r3 = 1) → (((r3 = 0) → ((((g3 10 4) = 4) → Q 0 (z_up (z_up g3 10 9 1) 10 10 (g3 10 6))) ∧ (¬ ((g3 10 4) = 4) → Q 0 (z_up (z_up g3 10 9 2) 10 10 (g3 10 6))))) ∧ (¬ (r3 = 0) → (z_O X 10 m_Pa_readPin [(2, 9), (2, ((p1 : Nat) : Int))] N σ g3 (fun r4 g4 => (r4 = 0 ∨ r4 = 1) → (((r4 = 0) → Q 0 g4) ∧ (¬ (r4 = 0) → (z_O X 3 m_Ta_passSign [(2, 10), (0, 59)] N σ g4 (fun r5 g5 => (r5 = 0 ∨ r5 = 1) → (((r5 = 0) → Q 0 g5) ∧ (¬ (r5 = 0) → Q 1 g5))))))))))))) ∧ (¬ (r2 = 0) → (z_O X 10 m_Pa_readHere [(2, 9), (2, ((p1 : Nat) : Int))] N σ g2 (fun r6 g6 => (r6 = 0 ∨ r6 = 1) → (((r6 = 0) → Q 0 g6) ∧ (¬ (r6 = 0) → (z_O X 3 m_Ta_passSign [(2, 10), (0, 59)] N σ g6 (fun r7 g7 => (r7 = 0 ∨ r7 = 1) → (((r7 = 0) → Q 0 g7) ∧ (¬ (r7 = 0) → Q 1 g7))))))))))))) ∧ (¬ (r1 = 0) → (z_O X 4 m_Pa_readOrder [(2, 9), (2, ((p1 : Nat) : Int))] N σ g1 (fun r8 g8 => (r8 = 0 ∨ r8 = 1) → (((r8 = 0) → Q 0 g8) ∧ (¬ (r8 = 0) → (z_O X 3 m_Ta_passSign [(2, 10), (0, 59)] N σ g8 (fun r9 g9 => (r9 = 0 ∨ r9 = 1) → (((r9 = 0) → Q 0 g9) ∧ (¬ (r9 = 0) → Q 1 g9))))))))))))) ∧ (¬ (r0 = 0) → (z_O X 4 m_Pa_readOdds [(2, 9), (2, ((p1 : Nat) : Int))] N σ g0 (fun r10 g10 => (r10 = 0 ∨ r10 = 1) → (((r10 = 0) → Q 0 g10) ∧ (¬ (r10 = 0) → (z_O X 3 m_Ta_passSign [(2, 10), (0, 59)] N σ g10 (fun r11 g11 => (r11 = 0 ∨ r11 = 1) → (((r11 = 0) → Q 0 g11) ∧ (¬ (r11 = 0) → Q 1 g11)))))))))))) : z_O X 11 m_Pa_readPart [(2, 9), (2, ((p1 : Nat) : Int))] N σ g Q := by
  refine z_Oenter mi_Pa_readPart rfl (fun _ => ?_)
  show z_U X 11 m_Pa_readPart 0 [(0, (2, 9)), (1, (2, ((p1 : Nat) : Int)))] [] N σ g Q
  refine z_aload_n (i := 0) (c := 9) 0 d_Pa_readPart_0 rfl rfl rfl ?_
  refine z_getr (c := 9) (kI := 0) (r2 := 10) d_Pa_readPart_1 fd_Pa_tape fl_Pa_12 rfl rfl rfl (ks_F_9 hx) (kl_F_9 hx) (kr_F_9_0 hx) ?_
  refine z_ldcs (q := ("FareyRank$Parser", 70, 0)) d_Pa_readPart_4 (List.mem_of_getElem? (i := 0) rfl) rfl rfl rfl ?_
  refine z_cV (c := 10) (as := [(4, 0)]) (d' := 7) (st := []) d_Pa_readPart_6 mi_Ta_isWord ml_Pa_72 mv_Ta_isWord se_Ta_isWord rfl rfl rfl rfl (ks_F_10 hx) rfl rfl (kl_F_10 hx) rfl rfl (z_Omono h (fun r0 g0 _ h hro => ?_))
  have h := h (z_b01 hro)
  have hzr0 := z_b01 hro
  show z_U X 11 m_Pa_readPart 9 [(0, (2, 9)), (1, (2, ((p1 : Nat) : Int)))] [(0, r0)] N σ g0 Q
  refine z_if_eq (tgt := 38) d_Pa_readPart_9 (by decide) (fun c1 => ?_) (fun c1 => ?_)
  · have h := h.1 c1
    refine z_aload_n (i := 0) (c := 9) 0 d_Pa_readPart_38 rfl rfl rfl ?_
    refine z_getr (c := 9) (kI := 0) (r2 := 10) d_Pa_readPart_39 fd_Pa_tape fl_Pa_12 rfl rfl rfl (ks_F_9 hx) (kl_F_9 hx) (kr_F_9_0 hx) ?_
    refine z_ldcs (q := ("FareyRank$Parser", 83, 1)) d_Pa_readPart_42 (List.mem_of_getElem? (i := 1) rfl) rfl rfl rfl ?_
    refine z_cV (c := 10) (as := [(4, 1)]) (d' := 7) (st := []) d_Pa_readPart_44 mi_Ta_isWord ml_Pa_72 mv_Ta_isWord se_Ta_isWord rfl rfl rfl rfl (ks_F_10 hx) rfl rfl (kl_F_10 hx) rfl rfl (z_Omono h (fun r1 g1 _ h hro => ?_))
    have h := h (z_b01 hro)
    have hzr1 := z_b01 hro
    show z_U X 11 m_Pa_readPart 47 [(0, (2, 9)), (1, (2, ((p1 : Nat) : Int)))] [(0, r1)] N σ g1 Q
    refine z_if_eq (tgt := 76) d_Pa_readPart_47 (by decide) (fun c2 => ?_) (fun c2 => ?_)
    · have h := h.1 c2
      refine z_aload_n (i := 0) (c := 9) 0 d_Pa_readPart_76 rfl rfl rfl ?_
      refine z_getr (c := 9) (kI := 0) (r2 := 10) d_Pa_readPart_77 fd_Pa_tape fl_Pa_12 rfl rfl rfl (ks_F_9 hx) (kl_F_9 hx) (kr_F_9_0 hx) ?_
      refine z_ldcs (q := ("FareyRank$Parser", 88, 2)) d_Pa_readPart_80 (List.mem_of_getElem? (i := 2) rfl) rfl rfl rfl ?_
      refine z_cV (c := 10) (as := [(4, 2)]) (d' := 7) (st := []) d_Pa_readPart_82 mi_Ta_isWord ml_Pa_72 mv_Ta_isWord se_Ta_isWord rfl rfl rfl rfl (ks_F_10 hx) rfl rfl (kl_F_10 hx) rfl rfl (z_Omono h (fun r2 g2 _ h hro => ?_))
      have h := h (z_b01 hro)
      have hzr2 := z_b01 hro
      show z_U X 11 m_Pa_readPart 85 [(0, (2, 9)), (1, (2, ((p1 : Nat) : Int)))] [(0, r2)] N σ g2 Q
      refine z_if_eq (tgt := 114) d_Pa_readPart_85 (by decide) (fun c3 => ?_) (fun c3 => ?_)
      · have h := h.1 c3
        refine z_aload_n (i := 0) (c := 9) 0 d_Pa_readPart_114 rfl rfl rfl ?_
        refine z_getr (c := 9) (kI := 0) (r2 := 10) d_Pa_readPart_115 fd_Pa_tape fl_Pa_12 rfl rfl rfl (ks_F_9 hx) (kl_F_9 hx) (kr_F_9_0 hx) ?_
        refine z_ldcs (q := ("FareyRank$Parser", 93, 4)) d_Pa_readPart_118 (List.mem_of_getElem? (i := 4) rfl) rfl rfl rfl ?_
        refine z_cV (c := 10) (as := [(4, 4)]) (d' := 7) (st := []) d_Pa_readPart_120 mi_Ta_isWord ml_Pa_72 mv_Ta_isWord se_Ta_isWord rfl rfl rfl rfl (ks_F_10 hx) rfl rfl (kl_F_10 hx) rfl rfl (z_Omono h (fun r3 g3 _ h hro => ?_))
        have h := h (z_b01 hro)
        have hzr3 := z_b01 hro
        show z_U X 11 m_Pa_readPart 123 [(0, (2, 9)), (1, (2, ((p1 : Nat) : Int)))] [(0, r3)] N σ g3 Q
        refine z_if_eq (tgt := 152) d_Pa_readPart_123 (by decide) (fun c4 => ?_) (fun c4 => ?_)
        · have h := h.1 c4
          refine z_aload_n (i := 0) (c := 9) 0 d_Pa_readPart_152 rfl rfl rfl ?_
          refine z_getr (c := 9) (kI := 0) (r2 := 10) d_Pa_readPart_153 fd_Pa_tape fl_Pa_12 rfl rfl rfl (ks_F_9 hx) (kl_F_9 hx) (kr_F_9_0 hx) ?_
          refine z_cV (c := 10) (as := []) (d' := 2) (st := []) d_Pa_readPart_156 mi_Ta_failHere ml_Pa_98 mv_Ta_failHere se_Ta_failHere rfl rfl rfl rfl (ks_F_10 hx) rfl rfl (kl_F_10 hx) rfl rfl (b_Ta_failHere_0 hx ?_)
          refine ⟨fun c5 => ?_, fun c5 => ?_⟩
          · have h := h.1 c5
            intro _
            show z_U X 11 m_Pa_readPart 159 [(0, (2, 9)), (1, (2, ((p1 : Nat) : Int)))] [(0, 0)] N σ (z_up (z_up g3 10 9 1) 10 10 (g3 10 6)) Q
            exact z_zret d_Pa_readPart_159 rfl (by decide) (by decide) (by decide) ⟨rfl, rfl, h⟩
          · have h := h.2 c5
            intro _
            show z_U X 11 m_Pa_readPart 159 [(0, (2, 9)), (1, (2, ((p1 : Nat) : Int)))] [(0, 0)] N σ (z_up (z_up g3 10 9 2) 10 10 (g3 10 6)) Q
            exact z_zret d_Pa_readPart_159 rfl (by decide) (by decide) (by decide) ⟨rfl, rfl, h⟩
        · have h := h.2 c4
          refine z_aload_n (i := 0) (c := 9) 0 d_Pa_readPart_126 rfl rfl rfl ?_
          refine z_aload_n (i := 1) (c := p1) 1 d_Pa_readPart_127 rfl rfl rfl ?_
          refine z_cV (c := 9) (as := [(2, ((p1 : Nat) : Int))]) (d' := 10) (st := []) d_Pa_readPart_128 mi_Pa_readPin ml_Pa_95 mv_Pa_readPin se_Pa_readPin rfl rfl rfl rfl (ks_F_9 hx) rfl rfl (kl_F_9 hx) rfl rfl (z_Omono h (fun r4 g4 _ h hro => ?_))
          have h := h (z_b01 hro)
          have hzr4 := z_b01 hro
          show z_U X 11 m_Pa_readPart 131 [(0, (2, 9)), (1, (2, ((p1 : Nat) : Int)))] [(0, r4)] N σ g4 Q
          refine z_if_eq (tgt := 150) d_Pa_readPart_131 (by decide) (fun c6 => ?_) (fun c6 => ?_)
          · have h := h.1 c6
            refine z_iconst (n := 0) d_Pa_readPart_150 (by decide) ?_
            exact z_zret d_Pa_readPart_151 rfl (by decide) (by decide) (by decide) ⟨rfl, rfl, h⟩
          · have h := h.2 c6
            refine z_aload_n (i := 0) (c := 9) 0 d_Pa_readPart_134 rfl rfl rfl ?_
            refine z_getr (c := 9) (kI := 0) (r2 := 10) d_Pa_readPart_135 fd_Pa_tape fl_Pa_12 rfl rfl rfl (ks_F_9 hx) (kl_F_9 hx) (kr_F_9_0 hx) ?_
            refine z_bipush (n := 59) d_Pa_readPart_138 (by decide) (by decide) ?_
            refine z_cV (c := 10) (as := [(0, 59)]) (d' := 3) (st := []) d_Pa_readPart_140 mi_Ta_passSign ml_Pa_79 mv_Ta_passSign se_Ta_passSign rfl rfl rfl rfl (ks_F_10 hx) rfl rfl (kl_F_10 hx) rfl rfl (z_Omono h (fun r5 g5 _ h hro => ?_))
            have h := h (z_b01 hro)
            have hzr5 := z_b01 hro
            show z_U X 11 m_Pa_readPart 143 [(0, (2, 9)), (1, (2, ((p1 : Nat) : Int)))] [(0, r5)] N σ g5 Q
            refine z_if_eq (tgt := 150) d_Pa_readPart_143 (by decide) (fun c7 => ?_) (fun c7 => ?_)
            · have h := h.1 c7
              refine z_iconst (n := 0) d_Pa_readPart_150 (by decide) ?_
              exact z_zret d_Pa_readPart_151 rfl (by decide) (by decide) (by decide) ⟨rfl, rfl, h⟩
            · have h := h.2 c7
              refine z_iconst (n := 1) d_Pa_readPart_146 (by decide) ?_
              refine z_goto (tgt := 151) d_Pa_readPart_147 (by decide) ?_
              exact z_zret d_Pa_readPart_151 rfl (by decide) (by decide) (by decide) ⟨rfl, rfl, h⟩
      · have h := h.2 c3
        refine z_aload_n (i := 0) (c := 9) 0 d_Pa_readPart_88 rfl rfl rfl ?_
        refine z_aload_n (i := 1) (c := p1) 1 d_Pa_readPart_89 rfl rfl rfl ?_
        refine z_cV (c := 9) (as := [(2, ((p1 : Nat) : Int))]) (d' := 10) (st := []) d_Pa_readPart_90 mi_Pa_readHere ml_Pa_90 mv_Pa_readHere se_Pa_readHere rfl rfl rfl rfl (ks_F_9 hx) rfl rfl (kl_F_9 hx) rfl rfl (z_Omono h (fun r6 g6 _ h hro => ?_))
        have h := h (z_b01 hro)
        have hzr6 := z_b01 hro
        show z_U X 11 m_Pa_readPart 93 [(0, (2, 9)), (1, (2, ((p1 : Nat) : Int)))] [(0, r6)] N σ g6 Q
        refine z_if_eq (tgt := 112) d_Pa_readPart_93 (by decide) (fun c8 => ?_) (fun c8 => ?_)
        · have h := h.1 c8
          refine z_iconst (n := 0) d_Pa_readPart_112 (by decide) ?_
          exact z_zret d_Pa_readPart_113 rfl (by decide) (by decide) (by decide) ⟨rfl, rfl, h⟩
        · have h := h.2 c8
          refine z_aload_n (i := 0) (c := 9) 0 d_Pa_readPart_96 rfl rfl rfl ?_
          refine z_getr (c := 9) (kI := 0) (r2 := 10) d_Pa_readPart_97 fd_Pa_tape fl_Pa_12 rfl rfl rfl (ks_F_9 hx) (kl_F_9 hx) (kr_F_9_0 hx) ?_
          refine z_bipush (n := 59) d_Pa_readPart_100 (by decide) (by decide) ?_
          refine z_cV (c := 10) (as := [(0, 59)]) (d' := 3) (st := []) d_Pa_readPart_102 mi_Ta_passSign ml_Pa_79 mv_Ta_passSign se_Ta_passSign rfl rfl rfl rfl (ks_F_10 hx) rfl rfl (kl_F_10 hx) rfl rfl (z_Omono h (fun r7 g7 _ h hro => ?_))
          have h := h (z_b01 hro)
          have hzr7 := z_b01 hro
          show z_U X 11 m_Pa_readPart 105 [(0, (2, 9)), (1, (2, ((p1 : Nat) : Int)))] [(0, r7)] N σ g7 Q
          refine z_if_eq (tgt := 112) d_Pa_readPart_105 (by decide) (fun c9 => ?_) (fun c9 => ?_)
          · have h := h.1 c9
            refine z_iconst (n := 0) d_Pa_readPart_112 (by decide) ?_
            exact z_zret d_Pa_readPart_113 rfl (by decide) (by decide) (by decide) ⟨rfl, rfl, h⟩
          · have h := h.2 c9
            refine z_iconst (n := 1) d_Pa_readPart_108 (by decide) ?_
            refine z_goto (tgt := 113) d_Pa_readPart_109 (by decide) ?_
            exact z_zret d_Pa_readPart_113 rfl (by decide) (by decide) (by decide) ⟨rfl, rfl, h⟩
    · have h := h.2 c2
      refine z_aload_n (i := 0) (c := 9) 0 d_Pa_readPart_50 rfl rfl rfl ?_
      refine z_aload_n (i := 1) (c := p1) 1 d_Pa_readPart_51 rfl rfl rfl ?_
      refine z_cV (c := 9) (as := [(2, ((p1 : Nat) : Int))]) (d' := 4) (st := []) d_Pa_readPart_52 mi_Pa_readOrder ml_Pa_85 mv_Pa_readOrder se_Pa_readOrder rfl rfl rfl rfl (ks_F_9 hx) rfl rfl (kl_F_9 hx) rfl rfl (z_Omono h (fun r8 g8 _ h hro => ?_))
      have h := h (z_b01 hro)
      have hzr8 := z_b01 hro
      show z_U X 11 m_Pa_readPart 55 [(0, (2, 9)), (1, (2, ((p1 : Nat) : Int)))] [(0, r8)] N σ g8 Q
      refine z_if_eq (tgt := 74) d_Pa_readPart_55 (by decide) (fun c10 => ?_) (fun c10 => ?_)
      · have h := h.1 c10
        refine z_iconst (n := 0) d_Pa_readPart_74 (by decide) ?_
        exact z_zret d_Pa_readPart_75 rfl (by decide) (by decide) (by decide) ⟨rfl, rfl, h⟩
      · have h := h.2 c10
        refine z_aload_n (i := 0) (c := 9) 0 d_Pa_readPart_58 rfl rfl rfl ?_
        refine z_getr (c := 9) (kI := 0) (r2 := 10) d_Pa_readPart_59 fd_Pa_tape fl_Pa_12 rfl rfl rfl (ks_F_9 hx) (kl_F_9 hx) (kr_F_9_0 hx) ?_
        refine z_bipush (n := 59) d_Pa_readPart_62 (by decide) (by decide) ?_
        refine z_cV (c := 10) (as := [(0, 59)]) (d' := 3) (st := []) d_Pa_readPart_64 mi_Ta_passSign ml_Pa_79 mv_Ta_passSign se_Ta_passSign rfl rfl rfl rfl (ks_F_10 hx) rfl rfl (kl_F_10 hx) rfl rfl (z_Omono h (fun r9 g9 _ h hro => ?_))
        have h := h (z_b01 hro)
        have hzr9 := z_b01 hro
        show z_U X 11 m_Pa_readPart 67 [(0, (2, 9)), (1, (2, ((p1 : Nat) : Int)))] [(0, r9)] N σ g9 Q
        refine z_if_eq (tgt := 74) d_Pa_readPart_67 (by decide) (fun c11 => ?_) (fun c11 => ?_)
        · have h := h.1 c11
          refine z_iconst (n := 0) d_Pa_readPart_74 (by decide) ?_
          exact z_zret d_Pa_readPart_75 rfl (by decide) (by decide) (by decide) ⟨rfl, rfl, h⟩
        · have h := h.2 c11
          refine z_iconst (n := 1) d_Pa_readPart_70 (by decide) ?_
          refine z_goto (tgt := 75) d_Pa_readPart_71 (by decide) ?_
          exact z_zret d_Pa_readPart_75 rfl (by decide) (by decide) (by decide) ⟨rfl, rfl, h⟩
  · have h := h.2 c1
    refine z_aload_n (i := 0) (c := 9) 0 d_Pa_readPart_12 rfl rfl rfl ?_
    refine z_aload_n (i := 1) (c := p1) 1 d_Pa_readPart_13 rfl rfl rfl ?_
    refine z_cV (c := 9) (as := [(2, ((p1 : Nat) : Int))]) (d' := 4) (st := []) d_Pa_readPart_14 mi_Pa_readOdds ml_Pa_76 mv_Pa_readOdds se_Pa_readOdds rfl rfl rfl rfl (ks_F_9 hx) rfl rfl (kl_F_9 hx) rfl rfl (z_Omono h (fun r10 g10 _ h hro => ?_))
    have h := h (z_b01 hro)
    have hzr10 := z_b01 hro
    show z_U X 11 m_Pa_readPart 17 [(0, (2, 9)), (1, (2, ((p1 : Nat) : Int)))] [(0, r10)] N σ g10 Q
    refine z_if_eq (tgt := 36) d_Pa_readPart_17 (by decide) (fun c12 => ?_) (fun c12 => ?_)
    · have h := h.1 c12
      refine z_iconst (n := 0) d_Pa_readPart_36 (by decide) ?_
      exact z_zret d_Pa_readPart_37 rfl (by decide) (by decide) (by decide) ⟨rfl, rfl, h⟩
    · have h := h.2 c12
      refine z_aload_n (i := 0) (c := 9) 0 d_Pa_readPart_20 rfl rfl rfl ?_
      refine z_getr (c := 9) (kI := 0) (r2 := 10) d_Pa_readPart_21 fd_Pa_tape fl_Pa_12 rfl rfl rfl (ks_F_9 hx) (kl_F_9 hx) (kr_F_9_0 hx) ?_
      refine z_bipush (n := 59) d_Pa_readPart_24 (by decide) (by decide) ?_
      refine z_cV (c := 10) (as := [(0, 59)]) (d' := 3) (st := []) d_Pa_readPart_26 mi_Ta_passSign ml_Pa_79 mv_Ta_passSign se_Ta_passSign rfl rfl rfl rfl (ks_F_10 hx) rfl rfl (kl_F_10 hx) rfl rfl (z_Omono h (fun r11 g11 _ h hro => ?_))
      have h := h (z_b01 hro)
      have hzr11 := z_b01 hro
      show z_U X 11 m_Pa_readPart 29 [(0, (2, 9)), (1, (2, ((p1 : Nat) : Int)))] [(0, r11)] N σ g11 Q
      refine z_if_eq (tgt := 36) d_Pa_readPart_29 (by decide) (fun c13 => ?_) (fun c13 => ?_)
      · have h := h.1 c13
        refine z_iconst (n := 0) d_Pa_readPart_36 (by decide) ?_
        exact z_zret d_Pa_readPart_37 rfl (by decide) (by decide) (by decide) ⟨rfl, rfl, h⟩
      · have h := h.2 c13
        refine z_iconst (n := 1) d_Pa_readPart_32 (by decide) ?_
        refine z_goto (tgt := 37) d_Pa_readPart_33 (by decide) ?_
        exact z_zret d_Pa_readPart_37 rfl (by decide) (by decide) (by decide) ⟨rfl, rfl, h⟩
theorem d_Pa_readStep_0 : decode (z_c m_Pa_readStep) 0 = .ok (.aload_n 0, 1) := by decide +kernel
theorem d_Pa_readStep_1 : decode (z_c m_Pa_readStep) 1 = .ok (.invokevirtual 197, 3) := by decide +kernel
theorem d_Pa_readStep_4 : decode (z_c m_Pa_readStep) 4 = .ok (.istore_n 2, 1) := by decide +kernel
theorem d_Pa_readStep_5 : decode (z_c m_Pa_readStep) 5 = .ok (.iload_n 2, 1) := by decide +kernel
theorem d_Pa_readStep_6 : decode (z_c m_Pa_readStep) 6 = .ok (.ifCond .ge 11, 3) := by decide +kernel
theorem d_Pa_readStep_9 : decode (z_c m_Pa_readStep) 9 = .ok (.aload_n 0, 1) := by decide +kernel
theorem d_Pa_readStep_10 : decode (z_c m_Pa_readStep) 10 = .ok (.getfield 12, 3) := by decide +kernel
theorem d_Pa_readStep_13 : decode (z_c m_Pa_readStep) 13 = .ok (.invokevirtual 98, 3) := by decide +kernel
theorem d_Pa_readStep_16 : decode (z_c m_Pa_readStep) 16 = .ok (.ireturn, 1) := by decide +kernel
theorem d_Pa_readStep_17 : decode (z_c m_Pa_readStep) 17 = .ok (.iload_n 2, 1) := by decide +kernel
theorem d_Pa_readStep_18 : decode (z_c m_Pa_readStep) 18 = .ok (.bipush 8, 2) := by decide +kernel
theorem d_Pa_readStep_20 : decode (z_c m_Pa_readStep) 20 = .ok (.if_icmp .eq 9, 3) := by decide +kernel
theorem d_Pa_readStep_23 : decode (z_c m_Pa_readStep) 23 = .ok (.iload_n 2, 1) := by decide +kernel
theorem d_Pa_readStep_24 : decode (z_c m_Pa_readStep) 24 = .ok (.bipush 9, 2) := by decide +kernel
theorem d_Pa_readStep_26 : decode (z_c m_Pa_readStep) 26 = .ok (.if_icmp .ne 7, 3) := by decide +kernel
theorem d_Pa_readStep_29 : decode (z_c m_Pa_readStep) 29 = .ok (.iconst 1, 1) := by decide +kernel
theorem d_Pa_readStep_30 : decode (z_c m_Pa_readStep) 30 = .ok (.goto 4, 3) := by decide +kernel
theorem d_Pa_readStep_33 : decode (z_c m_Pa_readStep) 33 = .ok (.iconst 0, 1) := by decide +kernel
theorem d_Pa_readStep_34 : decode (z_c m_Pa_readStep) 34 = .ok (.istore_n 3, 1) := by decide +kernel
theorem d_Pa_readStep_35 : decode (z_c m_Pa_readStep) 35 = .ok (.aload_n 1, 1) := by decide +kernel
theorem d_Pa_readStep_36 : decode (z_c m_Pa_readStep) 36 = .ok (.getfield 201, 3) := by decide +kernel
theorem d_Pa_readStep_39 : decode (z_c m_Pa_readStep) 39 = .ok (.bipush 30, 2) := by decide +kernel
theorem d_Pa_readStep_41 : decode (z_c m_Pa_readStep) 41 = .ok (.if_icmp .lt 20, 3) := by decide +kernel
theorem d_Pa_readStep_44 : decode (z_c m_Pa_readStep) 44 = .ok (.aload_n 0, 1) := by decide +kernel
theorem d_Pa_readStep_45 : decode (z_c m_Pa_readStep) 45 = .ok (.getfield 12, 3) := by decide +kernel
theorem d_Pa_readStep_48 : decode (z_c m_Pa_readStep) 48 = .ok (.bipush 6, 2) := by decide +kernel
theorem d_Pa_readStep_50 : decode (z_c m_Pa_readStep) 50 = .ok (.aload_n 0, 1) := by decide +kernel
theorem d_Pa_readStep_51 : decode (z_c m_Pa_readStep) 51 = .ok (.getfield 12, 3) := by decide +kernel
theorem d_Pa_readStep_54 : decode (z_c m_Pa_readStep) 54 = .ok (.getfield 101, 3) := by decide +kernel
theorem d_Pa_readStep_57 : decode (z_c m_Pa_readStep) 57 = .ok (.invokevirtual 105, 3) := by decide +kernel
theorem d_Pa_readStep_60 : decode (z_c m_Pa_readStep) 60 = .ok (.ireturn, 1) := by decide +kernel
theorem d_Pa_readStep_61 : decode (z_c m_Pa_readStep) 61 = .ok (.iload_n 3, 1) := by decide +kernel
theorem d_Pa_readStep_62 : decode (z_c m_Pa_readStep) 62 = .ok (.ifCond .eq 28, 3) := by decide +kernel
theorem d_Pa_readStep_65 : decode (z_c m_Pa_readStep) 65 = .ok (.aload_n 0, 1) := by decide +kernel
theorem d_Pa_readStep_66 : decode (z_c m_Pa_readStep) 66 = .ok (.getfield 179, 3) := by decide +kernel
theorem d_Pa_readStep_69 : decode (z_c m_Pa_readStep) 69 = .ok (.iconst 3, 1) := by decide +kernel
theorem d_Pa_readStep_70 : decode (z_c m_Pa_readStep) 70 = .ok (.if_icmp .lt 20, 3) := by decide +kernel
theorem d_Pa_readStep_73 : decode (z_c m_Pa_readStep) 73 = .ok (.aload_n 0, 1) := by decide +kernel
theorem d_Pa_readStep_74 : decode (z_c m_Pa_readStep) 74 = .ok (.getfield 12, 3) := by decide +kernel
theorem d_Pa_readStep_77 : decode (z_c m_Pa_readStep) 77 = .ok (.bipush 7, 2) := by decide +kernel
theorem d_Pa_readStep_79 : decode (z_c m_Pa_readStep) 79 = .ok (.aload_n 0, 1) := by decide +kernel
theorem d_Pa_readStep_80 : decode (z_c m_Pa_readStep) 80 = .ok (.getfield 12, 3) := by decide +kernel
theorem d_Pa_readStep_83 : decode (z_c m_Pa_readStep) 83 = .ok (.getfield 101, 3) := by decide +kernel
theorem d_Pa_readStep_86 : decode (z_c m_Pa_readStep) 86 = .ok (.invokevirtual 105, 3) := by decide +kernel
theorem d_Pa_readStep_89 : decode (z_c m_Pa_readStep) 89 = .ok (.ireturn, 1) := by decide +kernel
theorem d_Pa_readStep_90 : decode (z_c m_Pa_readStep) 90 = .ok (.aload_n 0, 1) := by decide +kernel
theorem d_Pa_readStep_91 : decode (z_c m_Pa_readStep) 91 = .ok (.getfield 12, 3) := by decide +kernel
theorem d_Pa_readStep_94 : decode (z_c m_Pa_readStep) 94 = .ok (.invokevirtual 109, 3) := by decide +kernel
theorem d_Pa_readStep_97 : decode (z_c m_Pa_readStep) 97 = .ok (.aload_n 0, 1) := by decide +kernel
theorem d_Pa_readStep_98 : decode (z_c m_Pa_readStep) 98 = .ok (.iconst 0, 1) := by decide +kernel
theorem d_Pa_readStep_99 : decode (z_c m_Pa_readStep) 99 = .ok (.putfield 204, 3) := by decide +kernel
theorem d_Pa_readStep_102 : decode (z_c m_Pa_readStep) 102 = .ok (.aload_n 0, 1) := by decide +kernel
theorem d_Pa_readStep_103 : decode (z_c m_Pa_readStep) 103 = .ok (.iconst 0, 1) := by decide +kernel
theorem d_Pa_readStep_104 : decode (z_c m_Pa_readStep) 104 = .ok (.putfield 207, 3) := by decide +kernel
theorem d_Pa_readStep_107 : decode (z_c m_Pa_readStep) 107 = .ok (.aload_n 0, 1) := by decide +kernel
theorem d_Pa_readStep_108 : decode (z_c m_Pa_readStep) 108 = .ok (.iconst 0, 1) := by decide +kernel
theorem d_Pa_readStep_109 : decode (z_c m_Pa_readStep) 109 = .ok (.putfield 210, 3) := by decide +kernel
theorem d_Pa_readStep_112 : decode (z_c m_Pa_readStep) 112 = .ok (.iload_n 2, 1) := by decide +kernel
theorem d_Pa_readStep_113 : decode (z_c m_Pa_readStep) 113 = .ok (.bipush 8, 2) := by decide +kernel
theorem d_Pa_readStep_115 : decode (z_c m_Pa_readStep) 115 = .ok (.if_icmp .ne 10, 3) := by decide +kernel
theorem d_Pa_readStep_118 : decode (z_c m_Pa_readStep) 118 = .ok (.aload_n 0, 1) := by decide +kernel
theorem d_Pa_readStep_119 : decode (z_c m_Pa_readStep) 119 = .ok (.invokevirtual 213, 3) := by decide +kernel
theorem d_Pa_readStep_122 : decode (z_c m_Pa_readStep) 122 = .ok (.goto 11, 3) := by decide +kernel
theorem d_Pa_readStep_125 : decode (z_c m_Pa_readStep) 125 = .ok (.aload_n 0, 1) := by decide +kernel
theorem d_Pa_readStep_126 : decode (z_c m_Pa_readStep) 126 = .ok (.iload_n 2, 1) := by decide +kernel
theorem d_Pa_readStep_127 : decode (z_c m_Pa_readStep) 127 = .ok (.invokestatic 216, 3) := by decide +kernel
theorem d_Pa_readStep_130 : decode (z_c m_Pa_readStep) 130 = .ok (.invokevirtual 220, 3) := by decide +kernel
theorem d_Pa_readStep_133 : decode (z_c m_Pa_readStep) 133 = .ok (.istore 4, 2) := by decide +kernel
theorem d_Pa_readStep_135 : decode (z_c m_Pa_readStep) 135 = .ok (.iload 4, 2) := by decide +kernel
theorem d_Pa_readStep_137 : decode (z_c m_Pa_readStep) 137 = .ok (.ifCond .eq 15, 3) := by decide +kernel
theorem d_Pa_readStep_140 : decode (z_c m_Pa_readStep) 140 = .ok (.aload_n 0, 1) := by decide +kernel
theorem d_Pa_readStep_141 : decode (z_c m_Pa_readStep) 141 = .ok (.getfield 12, 3) := by decide +kernel
theorem d_Pa_readStep_144 : decode (z_c m_Pa_readStep) 144 = .ok (.bipush 59, 2) := by decide +kernel
theorem d_Pa_readStep_146 : decode (z_c m_Pa_readStep) 146 = .ok (.invokevirtual 79, 3) := by decide +kernel
theorem d_Pa_readStep_149 : decode (z_c m_Pa_readStep) 149 = .ok (.ifCond .ne 5, 3) := by decide +kernel
theorem d_Pa_readStep_152 : decode (z_c m_Pa_readStep) 152 = .ok (.iconst 0, 1) := by decide +kernel
theorem d_Pa_readStep_153 : decode (z_c m_Pa_readStep) 153 = .ok (.ireturn, 1) := by decide +kernel
theorem d_Pa_readStep_154 : decode (z_c m_Pa_readStep) 154 = .ok (.iload_n 3, 1) := by decide +kernel
theorem d_Pa_readStep_155 : decode (z_c m_Pa_readStep) 155 = .ok (.ifCond .eq 26, 3) := by decide +kernel
theorem d_Pa_readStep_158 : decode (z_c m_Pa_readStep) 158 = .ok (.aload_n 0, 1) := by decide +kernel
theorem d_Pa_readStep_159 : decode (z_c m_Pa_readStep) 159 = .ok (.getfield 25, 3) := by decide +kernel
theorem d_Pa_readStep_162 : decode (z_c m_Pa_readStep) 162 = .ok (.aload_n 0, 1) := by decide +kernel
theorem d_Pa_readStep_163 : decode (z_c m_Pa_readStep) 163 = .ok (.getfield 179, 3) := by decide +kernel
theorem d_Pa_readStep_166 : decode (z_c m_Pa_readStep) 166 = .ok (.aload_n 1, 1) := by decide +kernel
theorem d_Pa_readStep_167 : decode (z_c m_Pa_readStep) 167 = .ok (.getfield 224, 3) := by decide +kernel
theorem d_Pa_readStep_170 : decode (z_c m_Pa_readStep) 170 = .ok (.iastore, 1) := by decide +kernel
theorem d_Pa_readStep_171 : decode (z_c m_Pa_readStep) 171 = .ok (.aload_n 0, 1) := by decide +kernel
theorem d_Pa_readStep_172 : decode (z_c m_Pa_readStep) 172 = .ok (.dup, 1) := by decide +kernel
theorem d_Pa_readStep_173 : decode (z_c m_Pa_readStep) 173 = .ok (.getfield 179, 3) := by decide +kernel
theorem d_Pa_readStep_176 : decode (z_c m_Pa_readStep) 176 = .ok (.iconst 1, 1) := by decide +kernel
theorem d_Pa_readStep_177 : decode (z_c m_Pa_readStep) 177 = .ok (.iadd, 1) := by decide +kernel
theorem d_Pa_readStep_178 : decode (z_c m_Pa_readStep) 178 = .ok (.putfield 179, 3) := by decide +kernel
theorem d_Pa_readStep_181 : decode (z_c m_Pa_readStep) 181 = .ok (.aload_n 1, 1) := by decide +kernel
theorem d_Pa_readStep_182 : decode (z_c m_Pa_readStep) 182 = .ok (.iload_n 2, 1) := by decide +kernel
theorem d_Pa_readStep_183 : decode (z_c m_Pa_readStep) 183 = .ok (.aload_n 0, 1) := by decide +kernel
theorem d_Pa_readStep_184 : decode (z_c m_Pa_readStep) 184 = .ok (.getfield 204, 3) := by decide +kernel
theorem d_Pa_readStep_187 : decode (z_c m_Pa_readStep) 187 = .ok (.aload_n 0, 1) := by decide +kernel
theorem d_Pa_readStep_188 : decode (z_c m_Pa_readStep) 188 = .ok (.getfield 207, 3) := by decide +kernel
theorem d_Pa_readStep_191 : decode (z_c m_Pa_readStep) 191 = .ok (.aload_n 0, 1) := by decide +kernel
theorem d_Pa_readStep_192 : decode (z_c m_Pa_readStep) 192 = .ok (.getfield 210, 3) := by decide +kernel
theorem d_Pa_readStep_195 : decode (z_c m_Pa_readStep) 195 = .ok (.invokevirtual 227, 3) := by decide +kernel
theorem d_Pa_readStep_198 : decode (z_c m_Pa_readStep) 198 = .ok (.iconst 1, 1) := by decide +kernel
theorem d_Pa_readStep_199 : decode (z_c m_Pa_readStep) 199 = .ok (.ireturn, 1) := by decide +kernel
set_option maxRecDepth 8000 in
theorem b_Pa_readStep_0 {X : z_X} {N : Nat} {σ g : z_G} {Q : z_P} {p1 : Nat} (hx : z_lay X N σ 0 z_SF z_RF) (hp1 : z_lay X N σ p1 z_SPg z_RPg) (h : z_O X 8 m_Pa_kindHere [(2, 9)] N σ g (fun r0 g0 => (((0 ≤ r0) → (((r0 = 8) → ((((g0 p1 1) < 30) → ((((g0 9 6) < 3) → (z_O X 2 m_Ta_advance [(2, 10)] N σ g0 (fun r1 g1 => (z_O X 10 m_Pa_readTest [(2, 9)] N σ (z_up (z_up (z_up g1 9 7 0) 9 8 0) 9 9 0) (fun r2 g2 => (r2 = 0 ∨ r2 = 1) → (((r2 = 0) → Q 0 g2) ∧ (¬ (r2 = 0) → (z_O X 3 m_Ta_passSign [(2, 10), (0, 59)] N σ g2 (fun r3 g3 => (r3 = 0 ∨ r3 = 1) → (((r3 = 0) → Q 0 g3) ∧ (¬ (r3 = 0) → ((0 ≤ (g3 9 6) ∧ (g3 9 6) < 3) ∧ ((-2147483648 ≤ ((g3 9 6) + 1) ∧ ((g3 9 6) + 1) ≤ 2147483647) ∧ (z_O X 1 m_Pg_addStep [(2, ((p1 : Nat) : Int)), (0, r0), (0, g3 9 7), (0, g3 9 8), (0, g3 9 9)] N σ (z_up (z_up g3 14 (g3 9 6) (g3 p1 2)) 9 6 ((g3 9 6) + 1)) (fun r4 g4 => Q 1 g4))))))))))))))) ∧ (¬ ((g0 9 6) < 3) → Q 0 (z_up (z_up g0 10 9 7) 10 10 (g0 10 6))))) ∧ (¬ ((g0 p1 1) < 30) → Q 0 (z_up (z_up g0 10 9 6) 10 10 (g0 10 6))))) ∧ (¬ (r0 = 8) → (((r0 = 9) → ((((g0 p1 1) < 30) → ((((g0 9 6) < 3) → (z_O X 2 m_Ta_advance [(2, 10)] N σ g0 (fun r18 g18 => (((r0 = 4) → (z_O X 4 m_Pa_readFirst [(2, 9), (0, 99)] N σ (z_up (z_up (z_up g18 9 7 0) 9 8 0) 9 9 0) (fun r19 g19 => (r19 = 0 ∨ r19 = 1) → (((r19 = 0) → Q 0 g19) ∧ (¬ (r19 = 0) → (z_O X 3 m_Ta_passSign [(2, 10), (0, 59)] N σ g19 (fun r20 g20 => (r20 = 0 ∨ r20 = 1) → (((r20 = 0) → Q 0 g20) ∧ (¬ (r20 = 0) → ((0 ≤ (g20 9 6) ∧ (g20 9 6) < 3) ∧ ((-2147483648 ≤ ((g20 9 6) + 1) ∧ ((g20 9 6) + 1) ≤ 2147483647) ∧ (z_O X 1 m_Pg_addStep [(2, ((p1 : Nat) : Int)), (0, r0), (0, g20 9 7), (0, g20 9 8), (0, g20 9 9)] N σ (z_up (z_up g20 14 (g20 9 6) (g20 p1 2)) 9 6 ((g20 9 6) + 1)) (fun r21 g21 => Q 1 g21))))))))))))) ∧ ((r0 = 6) → (z_O X 4 m_Pa_readFirst [(2, 9), (0, 200)] N σ (z_up (z_up (z_up g18 9 7 0) 9 8 0) 9 9 0) (fun r22 g22 => (r22 = 0 ∨ r22 = 1) → (((r22 = 0) → Q 0 g22) ∧ (¬ (r22 = 0) → (z_O X 3 m_Ta_passSign [(2, 10), (0, 59)] N σ g22 (fun r23 g23 => (r23 = 0 ∨ r23 = 1) → (((r23 = 0) → Q 0 g23) ∧ (¬ (r23 = 0) → ((0 ≤ (g23 9 6) ∧ (g23 9 6) < 3) ∧ ((-2147483648 ≤ ((g23 9 6) + 1) ∧ ((g23 9 6) + 1) ≤ 2147483647) ∧ (z_O X 1 m_Pg_addStep [(2, ((p1 : Nat) : Int)), (0, r0), (0, g23 9 7), (0, g23 9 8), (0, g23 9 9)] N σ (z_up (z_up g23 14 (g23 9 6) (g23 p1 2)) 9 6 ((g23 9 6) + 1)) (fun r24 g24 => Q 1 g24))))))))))))) ∧ ((r0 = 9) → (z_O X 4 m_Pa_readFirst [(2, 9), (0, 99)] N σ (z_up (z_up (z_up g18 9 7 0) 9 8 0) 9 9 0) (fun r25 g25 => (r25 = 0 ∨ r25 = 1) → (((r25 = 0) → Q 0 g25) ∧ (¬ (r25 = 0) → (z_O X 3 m_Ta_passSign [(2, 10), (0, 59)] N σ g25 (fun r26 g26 => (r26 = 0 ∨ r26 = 1) → (((r26 = 0) → Q 0 g26) ∧ (¬ (r26 = 0) → ((0 ≤ (g26 9 6) ∧ (g26 9 6) < 3) ∧ ((-2147483648 ≤ ((g26 9 6) + 1) ∧ ((g26 9 6) + 1) ≤ 2147483647) ∧ (z_O X 1 m_Pg_addStep [(2, ((p1 : Nat) : Int)), (0, r0), (0, g26 9 7), (0, g26 9 8), (0, g26 9 9)] N σ (z_up (z_up g26 14 (g26 9 6) (g26 p1 2)) 9 6 ((g26 9 6) + 1)) (fun r27 g27 => Q 1 g27))))))))))))) ∧ ((¬ (r0 = 4) ∧ ¬ (r0 = 6) ∧ ¬ (r0 = 9)) → (z_O X 4 m_Pa_readFirst [(2, 9), (0, 0)] N σ (z_up (z_up (z_up g18 9 7 0) 9 8 0) 9 9 0) (fun r28 g28 => (r28 = 0 ∨ r28 = 1) → (((r28 = 0) → Q 0 g28) ∧ (¬ (r28 = 0) → (z_O X 3 m_Ta_passSign [(2, 10), (0, 59)] N σ g28 (fun r29 g29 => (r29 = 0 ∨ r29 = 1) → (((r29 = 0) → Q 0 g29) ∧ (¬ (r29 = 0) → ((0 ≤ (g29 9 6) ∧ (g29 9 6) < 3) ∧ ((-2147483648 ≤ ((g29 9 6) + 1) ∧ ((g29 9 6) + 1) ≤ 2147483647) ∧ (z_O X 1 m_Pg_addStep [(2, ((p1 : Nat) : Int)), (0, r0), (0, g29 9 7), (0, g29 9 8), (0, g29 9 9)] N σ (z_up (z_up g29 14 (g29 9 6) (g29 p1 2)) 9 6 ((g29 9 6) + 1)) (fun r30 g30 => Q 1 g30))))))))))))))))) ∧ (¬ ((g0 9 6) < 3) → Q 0 (z_up (z_up g0 10 9 7) 10 10 (g0 10 6))))) ∧ (¬ ((g0 p1 1) < 30) → Q 0 (z_up (z_up g0 10 9 6) 10 10 (g0 10 6))))) ∧ (¬ (r0 = 9) → ((((g0 p1 1) < 30) → (z_O X 2 m_Ta_advance [(2, 10)] N σ g0 (fun r5 g5 => (((r0 = 4) → (z_O X 4 m_Pa_readFirst [(2, 9), (0, 99)] N σ (z_up (z_up (z_up g5 9 7 0) 9 8 0) 9 9 0) (fun r6 g6 => (r6 = 0 ∨ r6 = 1) → (((r6 = 0) → Q 0 g6) ∧ (¬ (r6 = 0) → (z_O X 3 m_Ta_passSign [(2, 10), (0, 59)] N σ g6 (fun r7 g7 => (r7 = 0 ∨ r7 = 1) → (((r7 = 0) → Q 0 g7) ∧ (¬ (r7 = 0) → (z_O X 1 m_Pg_addStep [(2, ((p1 : Nat) : Int)), (0, r0), (0, g7 9 7), (0, g7 9 8), (0, g7 9 9)] N σ g7 (fun r8 g8 => Q 1 g8))))))))))) ∧ ((r0 = 6) → (z_O X 4 m_Pa_readFirst [(2, 9), (0, 200)] N σ (z_up (z_up (z_up g5 9 7 0) 9 8 0) 9 9 0) (fun r9 g9 => (r9 = 0 ∨ r9 = 1) → (((r9 = 0) → Q 0 g9) ∧ (¬ (r9 = 0) → (z_O X 3 m_Ta_passSign [(2, 10), (0, 59)] N σ g9 (fun r10 g10 => (r10 = 0 ∨ r10 = 1) → (((r10 = 0) → Q 0 g10) ∧ (¬ (r10 = 0) → (z_O X 1 m_Pg_addStep [(2, ((p1 : Nat) : Int)), (0, r0), (0, g10 9 7), (0, g10 9 8), (0, g10 9 9)] N σ g10 (fun r11 g11 => Q 1 g11))))))))))) ∧ ((r0 = 9) → (z_O X 4 m_Pa_readFirst [(2, 9), (0, 99)] N σ (z_up (z_up (z_up g5 9 7 0) 9 8 0) 9 9 0) (fun r12 g12 => (r12 = 0 ∨ r12 = 1) → (((r12 = 0) → Q 0 g12) ∧ (¬ (r12 = 0) → (z_O X 3 m_Ta_passSign [(2, 10), (0, 59)] N σ g12 (fun r13 g13 => (r13 = 0 ∨ r13 = 1) → (((r13 = 0) → Q 0 g13) ∧ (¬ (r13 = 0) → (z_O X 1 m_Pg_addStep [(2, ((p1 : Nat) : Int)), (0, r0), (0, g13 9 7), (0, g13 9 8), (0, g13 9 9)] N σ g13 (fun r14 g14 => Q 1 g14))))))))))) ∧ ((¬ (r0 = 4) ∧ ¬ (r0 = 6) ∧ ¬ (r0 = 9)) → (z_O X 4 m_Pa_readFirst [(2, 9), (0, 0)] N σ (z_up (z_up (z_up g5 9 7 0) 9 8 0) 9 9 0) (fun r15 g15 => (r15 = 0 ∨ r15 = 1) → (((r15 = 0) → Q 0 g15) ∧ (¬ (r15 = 0) → (z_O X 3 m_Ta_passSign [(2, 10), (0, 59)] N σ g15 (fun r16 g16 => (r16 = 0 ∨ r16 = 1) → (((r16 = 0) → Q 0 g16) ∧ (¬ (r16 = 0) → (z_O X 1 m_Pg_addStep [(2, ((p1 : Nat) : Int)), (0, r0), (0, g16 9 7), (0, g16 9 8), (0, g16 9 9)] N σ g16 (fun r17 g17 => Q 1 g17))))))))))))))) ∧ (¬ ((g0 p1 1) < 30) → Q 0 (z_up (z_up g0 10 9 6) 10 10 (g0 10 6))))))))) ∧ (¬ (0 ≤ r0) → ((((g0 10 4) = 4) → Q 0 (z_up (z_up g0 10 9 1) 10 10 (g0 10 6))) ∧ (¬ ((g0 10 4) = 4) → Q 0 (z_up (z_up g0 10 9 2) 10 10 (g0 10 6)))))))) : z_O X 11 m_Pa_readStep [(2, 9), (2, ((p1 : Nat) : Int))] N σ g Q := by
  refine z_Oenter mi_Pa_readStep rfl (fun _ => ?_)
  show z_U X 11 m_Pa_readStep 0 [(0, (2, 9)), (1, (2, ((p1 : Nat) : Int)))] [] N σ g Q
  refine z_aload_n (i := 0) (c := 9) 0 d_Pa_readStep_0 rfl rfl rfl ?_
  refine z_cV (c := 9) (as := []) (d' := 8) (st := []) d_Pa_readStep_1 mi_Pa_kindHere ml_Pa_197 mv_Pa_kindHere se_Pa_kindHere rfl rfl rfl rfl (ks_F_9 hx) rfl rfl (kl_F_9 hx) rfl rfl (z_Omono h (fun r0 g0 _ h hro => ?_))
  show z_U X 11 m_Pa_readStep 4 [(0, (2, 9)), (1, (2, ((p1 : Nat) : Int)))] [(0, r0)] N σ g0 Q
  refine z_istore_n (i := 2) (ls' := [(2, (0, r0)), (0, (2, 9)), (1, (2, ((p1 : Nat) : Int)))]) d_Pa_readStep_4 rfl rfl rfl ?_
  refine z_iload_n (i := 2) 0 d_Pa_readStep_5 rfl rfl ?_
  refine z_if_ge (tgt := 17) d_Pa_readStep_6 (by decide) (fun c1 => ?_) (fun c1 => ?_)
  · have h := h.1 c1
    refine z_iload_n (i := 2) 0 d_Pa_readStep_17 rfl rfl ?_
    refine z_bipush (n := 8) d_Pa_readStep_18 (by decide) (by decide) ?_
    refine z_icmp_eq (tgt := 29) d_Pa_readStep_20 (by decide) (fun c2 => ?_) (fun c2 => ?_)
    · have h := h.1 c2
      refine z_iconst (n := 1) d_Pa_readStep_29 (by decide) ?_
      refine z_goto (tgt := 34) d_Pa_readStep_30 (by decide) ?_
      refine z_istore_n (i := 3) (ls' := [(3, (0, 1)), (2, (0, r0)), (0, (2, 9)), (1, (2, ((p1 : Nat) : Int)))]) d_Pa_readStep_34 rfl rfl rfl ?_
      refine z_aload_n (i := 1) (c := p1) 3 d_Pa_readStep_35 rfl rfl rfl ?_
      refine z_geti (c := p1) (kI := 1) d_Pa_readStep_36 fd_Pg_steps fl_Pa_201 (Or.inl rfl) rfl rfl (ks_Pg_0 hp1) (kl_Pg_0 hp1) ?_
      refine z_bipush (n := 30) d_Pa_readStep_39 (by decide) (by decide) ?_
      refine z_icmp_lt (tgt := 61) d_Pa_readStep_41 (by decide) (fun c3 => ?_) (fun c3 => ?_)
      · have h := h.1 c3
        refine z_iload_n (i := 3) 0 d_Pa_readStep_61 rfl rfl ?_
        refine z_if_eq (tgt := 90) d_Pa_readStep_62 (by decide) (fun c => absurd c (by decide)) (fun _ => ?_)
        refine z_aload_n (i := 0) (c := 9) 2 d_Pa_readStep_65 rfl rfl rfl ?_
        refine z_geti (c := 9) (kI := 6) d_Pa_readStep_66 fd_Pa_open fl_Pa_179 (Or.inl rfl) rfl rfl (ks_F_9 hx) (kl_F_9 hx) ?_
        refine z_iconst (n := 3) d_Pa_readStep_69 (by decide) ?_
        refine z_icmp_lt (tgt := 90) d_Pa_readStep_70 (by decide) (fun c4 => ?_) (fun c4 => ?_)
        · have h := h.1 c4
          refine z_aload_n (i := 0) (c := 9) 2 d_Pa_readStep_90 rfl rfl rfl ?_
          refine z_getr (c := 9) (kI := 0) (r2 := 10) d_Pa_readStep_91 fd_Pa_tape fl_Pa_12 rfl rfl rfl (ks_F_9 hx) (kl_F_9 hx) (kr_F_9_0 hx) ?_
          refine z_cV (c := 10) (as := []) (d' := 2) (st := []) d_Pa_readStep_94 mi_Ta_advance ml_Pa_109 mv_Ta_advance se_Ta_advance rfl rfl rfl rfl (ks_F_10 hx) rfl rfl (kl_F_10 hx) rfl rfl (z_Omono h (fun r1 g1 _ h hro => ?_))
          show z_U X 11 m_Pa_readStep 97 [(3, (0, 1)), (2, (0, r0)), (0, (2, 9)), (1, (2, ((p1 : Nat) : Int)))] [] N σ g1 Q
          refine z_aload_n (i := 0) (c := 9) 2 d_Pa_readStep_97 rfl rfl rfl ?_
          refine z_iconst (n := 0) d_Pa_readStep_98 (by decide) ?_
          refine z_puti (c := 9) (kI := 7) d_Pa_readStep_99 fd_Pa_test fl_Pa_204 pf_Pa_test rfl rfl rfl rfl (ks_F_9 hx) (kl_F_9 hx) ?_
          refine z_aload_n (i := 0) (c := 9) 2 d_Pa_readStep_102 rfl rfl rfl ?_
          refine z_iconst (n := 0) d_Pa_readStep_103 (by decide) ?_
          refine z_puti (c := 9) (kI := 8) d_Pa_readStep_104 fd_Pa_first fl_Pa_207 pf_Pa_first rfl rfl rfl rfl (ks_F_9 hx) (kl_F_9 hx) ?_
          refine z_aload_n (i := 0) (c := 9) 2 d_Pa_readStep_107 rfl rfl rfl ?_
          refine z_iconst (n := 0) d_Pa_readStep_108 (by decide) ?_
          refine z_puti (c := 9) (kI := 9) d_Pa_readStep_109 fd_Pa_second fl_Pa_210 pf_Pa_second rfl rfl rfl rfl (ks_F_9 hx) (kl_F_9 hx) ?_
          refine z_iload_n (i := 2) 1 d_Pa_readStep_112 rfl rfl ?_
          refine z_bipush (n := 8) d_Pa_readStep_113 (by decide) (by decide) ?_
          refine z_icmp_ne (tgt := 125) d_Pa_readStep_115 (by decide) (fun c => absurd c2 c) (fun _ => ?_)
          refine z_aload_n (i := 0) (c := 9) 2 d_Pa_readStep_118 rfl rfl rfl ?_
          refine z_cV (c := 9) (as := []) (d' := 10) (st := []) d_Pa_readStep_119 mi_Pa_readTest ml_Pa_213 mv_Pa_readTest se_Pa_readTest rfl rfl rfl rfl (ks_F_9 hx) rfl rfl (kl_F_9 hx) rfl rfl (z_Omono h (fun r2 g2 _ h hro => ?_))
          have h := h (z_b01 hro)
          have hzr2 := z_b01 hro
          show z_U X 11 m_Pa_readStep 122 [(3, (0, 1)), (2, (0, r0)), (0, (2, 9)), (1, (2, ((p1 : Nat) : Int)))] [(0, r2)] N σ g2 Q
          refine z_goto (tgt := 133) d_Pa_readStep_122 (by decide) ?_
          refine z_istore (ls' := [(4, (0, r2)), (3, (0, 1)), (2, (0, r0)), (0, (2, 9)), (1, (2, ((p1 : Nat) : Int)))]) d_Pa_readStep_133 rfl rfl ?_
          refine z_iload 0 d_Pa_readStep_135 rfl ?_
          refine z_if_eq (tgt := 152) d_Pa_readStep_137 (by decide) (fun c5 => ?_) (fun c5 => ?_)
          · have h := h.1 c5
            refine z_iconst (n := 0) d_Pa_readStep_152 (by decide) ?_
            exact z_zret d_Pa_readStep_153 rfl (by decide) (by decide) (by decide) ⟨rfl, rfl, h⟩
          · have h := h.2 c5
            refine z_aload_n (i := 0) (c := 9) 3 d_Pa_readStep_140 rfl rfl rfl ?_
            refine z_getr (c := 9) (kI := 0) (r2 := 10) d_Pa_readStep_141 fd_Pa_tape fl_Pa_12 rfl rfl rfl (ks_F_9 hx) (kl_F_9 hx) (kr_F_9_0 hx) ?_
            refine z_bipush (n := 59) d_Pa_readStep_144 (by decide) (by decide) ?_
            refine z_cV (c := 10) (as := [(0, 59)]) (d' := 3) (st := []) d_Pa_readStep_146 mi_Ta_passSign ml_Pa_79 mv_Ta_passSign se_Ta_passSign rfl rfl rfl rfl (ks_F_10 hx) rfl rfl (kl_F_10 hx) rfl rfl (z_Omono h (fun r3 g3 _ h hro => ?_))
            have h := h (z_b01 hro)
            have hzr3 := z_b01 hro
            show z_U X 11 m_Pa_readStep 149 [(4, (0, r2)), (3, (0, 1)), (2, (0, r0)), (0, (2, 9)), (1, (2, ((p1 : Nat) : Int)))] [(0, r3)] N σ g3 Q
            refine z_if_ne (tgt := 154) d_Pa_readStep_149 (by decide) (fun c6 => ?_) (fun c6 => ?_)
            · have h := h.2 c6
              refine z_iload_n (i := 3) 1 d_Pa_readStep_154 rfl rfl ?_
              refine z_if_eq (tgt := 181) d_Pa_readStep_155 (by decide) (fun c => absurd c (by decide)) (fun _ => ?_)
              refine z_aload_n (i := 0) (c := 9) 3 d_Pa_readStep_158 rfl rfl rfl ?_
              refine z_getr (c := 9) (kI := 5) (r2 := 14) d_Pa_readStep_159 fd_Pa_begins fl_Pa_25 rfl rfl rfl (ks_F_9 hx) (kl_F_9 hx) (kr_F_9_5 hx) ?_
              refine z_aload_n (i := 0) (c := 9) 3 d_Pa_readStep_162 rfl rfl rfl ?_
              refine z_geti (c := 9) (kI := 6) d_Pa_readStep_163 fd_Pa_open fl_Pa_179 (Or.inl rfl) rfl rfl (ks_F_9 hx) (kl_F_9 hx) ?_
              refine z_aload_n (i := 1) (c := p1) 4 d_Pa_readStep_166 rfl rfl rfl ?_
              refine z_geti (c := p1) (kI := 2) d_Pa_readStep_167 fd_Pg_lines fl_Pa_224 (Or.inl rfl) rfl rfl (ks_Pg_0 hp1) (kl_Pg_0 hp1) ?_
              obtain ⟨c7, h⟩ := h
              refine z_iast (c := 14) (m := 3) d_Pa_readStep_170 rfl (ks_F_14 hx) (kl_F_14 hx) rfl (by decide) c7 ?_
              refine z_aload_n (i := 0) (c := 9) 3 d_Pa_readStep_171 rfl rfl rfl ?_
              refine z_dup d_Pa_readStep_172 rfl ?_
              refine z_geti (c := 9) (kI := 6) d_Pa_readStep_173 fd_Pa_open fl_Pa_179 (Or.inl rfl) rfl rfl (ks_F_9 hx) (kl_F_9 hx) ?_
              refine z_ti (b := g3 9 6) (by simp [z_up]) ?_
              refine z_iconst (n := 1) d_Pa_readStep_176 (by decide) ?_
              obtain ⟨c8, h⟩ := h
              refine z_iadd d_Pa_readStep_177 c8 ?_
              refine z_puti (c := 9) (kI := 6) d_Pa_readStep_178 fd_Pa_open fl_Pa_179 pf_Pa_open rfl rfl rfl rfl (ks_F_9 hx) (kl_F_9 hx) ?_
              refine z_aload_n (i := 1) (c := p1) 4 d_Pa_readStep_181 rfl rfl rfl ?_
              refine z_iload_n (i := 2) 2 d_Pa_readStep_182 rfl rfl ?_
              refine z_aload_n (i := 0) (c := 9) 3 d_Pa_readStep_183 rfl rfl rfl ?_
              refine z_geti (c := 9) (kI := 7) d_Pa_readStep_184 fd_Pa_test fl_Pa_204 (Or.inl rfl) rfl rfl (ks_F_9 hx) (kl_F_9 hx) ?_
              refine z_ti (b := g3 9 7) (by simp [z_up]) ?_
              refine z_aload_n (i := 0) (c := 9) 3 d_Pa_readStep_187 rfl rfl rfl ?_
              refine z_geti (c := 9) (kI := 8) d_Pa_readStep_188 fd_Pa_first fl_Pa_207 (Or.inl rfl) rfl rfl (ks_F_9 hx) (kl_F_9 hx) ?_
              refine z_ti (b := g3 9 8) (by simp [z_up]) ?_
              refine z_aload_n (i := 0) (c := 9) 3 d_Pa_readStep_191 rfl rfl rfl ?_
              refine z_geti (c := 9) (kI := 9) d_Pa_readStep_192 fd_Pa_second fl_Pa_210 (Or.inl rfl) rfl rfl (ks_F_9 hx) (kl_F_9 hx) ?_
              refine z_ti (b := g3 9 9) (by simp [z_up]) ?_
              refine z_cV (c := p1) (as := [(0, r0), (0, g3 9 7), (0, g3 9 8), (0, g3 9 9)]) (d' := 1) (st := []) d_Pa_readStep_195 mi_Pg_addStep ml_Pa_227 mv_Pg_addStep se_Pg_addStep rfl rfl rfl rfl (ks_Pg_0 hp1) rfl rfl (kl_Pg_0 hp1) rfl rfl (z_Omono h (fun r4 g4 _ h hro => ?_))
              show z_U X 11 m_Pa_readStep 198 [(4, (0, r2)), (3, (0, 1)), (2, (0, r0)), (0, (2, 9)), (1, (2, ((p1 : Nat) : Int)))] [] N σ g4 Q
              refine z_iconst (n := 1) d_Pa_readStep_198 (by decide) ?_
              exact z_zret d_Pa_readStep_199 rfl (by decide) (by decide) (by decide) ⟨rfl, rfl, h⟩
            · have h := h.1 c6
              refine z_iconst (n := 0) d_Pa_readStep_152 (by decide) ?_
              exact z_zret d_Pa_readStep_153 rfl (by decide) (by decide) (by decide) ⟨rfl, rfl, h⟩
        · have h := h.2 c4
          refine z_aload_n (i := 0) (c := 9) 2 d_Pa_readStep_73 rfl rfl rfl ?_
          refine z_getr (c := 9) (kI := 0) (r2 := 10) d_Pa_readStep_74 fd_Pa_tape fl_Pa_12 rfl rfl rfl (ks_F_9 hx) (kl_F_9 hx) (kr_F_9_0 hx) ?_
          refine z_bipush (n := 7) d_Pa_readStep_77 (by decide) (by decide) ?_
          refine z_aload_n (i := 0) (c := 9) 2 d_Pa_readStep_79 rfl rfl rfl ?_
          refine z_getr (c := 9) (kI := 0) (r2 := 10) d_Pa_readStep_80 fd_Pa_tape fl_Pa_12 rfl rfl rfl (ks_F_9 hx) (kl_F_9 hx) (kr_F_9_0 hx) ?_
          refine z_geti (c := 10) (kI := 6) d_Pa_readStep_83 fd_Ta_at fl_Pa_101 (Or.inl rfl) rfl rfl (ks_F_10 hx) (kl_F_10 hx) ?_
          refine z_cV (c := 10) (as := [(0, 7), (0, g0 10 6)]) (d' := 1) (st := []) d_Pa_readStep_86 mi_Ta_fail ml_Pa_105 mv_Ta_fail se_Ta_fail rfl rfl rfl rfl (ks_F_10 hx) rfl rfl (kl_F_10 hx) rfl rfl (b_Ta_fail_0 hx ?_)
          intro _
          show z_U X 11 m_Pa_readStep 89 [(3, (0, 1)), (2, (0, r0)), (0, (2, 9)), (1, (2, ((p1 : Nat) : Int)))] [(0, 0)] N σ (z_up (z_up g0 10 9 7) 10 10 (g0 10 6)) Q
          exact z_zret d_Pa_readStep_89 rfl (by decide) (by decide) (by decide) ⟨rfl, rfl, h⟩
      · have h := h.2 c3
        refine z_aload_n (i := 0) (c := 9) 2 d_Pa_readStep_44 rfl rfl rfl ?_
        refine z_getr (c := 9) (kI := 0) (r2 := 10) d_Pa_readStep_45 fd_Pa_tape fl_Pa_12 rfl rfl rfl (ks_F_9 hx) (kl_F_9 hx) (kr_F_9_0 hx) ?_
        refine z_bipush (n := 6) d_Pa_readStep_48 (by decide) (by decide) ?_
        refine z_aload_n (i := 0) (c := 9) 2 d_Pa_readStep_50 rfl rfl rfl ?_
        refine z_getr (c := 9) (kI := 0) (r2 := 10) d_Pa_readStep_51 fd_Pa_tape fl_Pa_12 rfl rfl rfl (ks_F_9 hx) (kl_F_9 hx) (kr_F_9_0 hx) ?_
        refine z_geti (c := 10) (kI := 6) d_Pa_readStep_54 fd_Ta_at fl_Pa_101 (Or.inl rfl) rfl rfl (ks_F_10 hx) (kl_F_10 hx) ?_
        refine z_cV (c := 10) (as := [(0, 6), (0, g0 10 6)]) (d' := 1) (st := []) d_Pa_readStep_57 mi_Ta_fail ml_Pa_105 mv_Ta_fail se_Ta_fail rfl rfl rfl rfl (ks_F_10 hx) rfl rfl (kl_F_10 hx) rfl rfl (b_Ta_fail_0 hx ?_)
        intro _
        show z_U X 11 m_Pa_readStep 60 [(3, (0, 1)), (2, (0, r0)), (0, (2, 9)), (1, (2, ((p1 : Nat) : Int)))] [(0, 0)] N σ (z_up (z_up g0 10 9 6) 10 10 (g0 10 6)) Q
        exact z_zret d_Pa_readStep_60 rfl (by decide) (by decide) (by decide) ⟨rfl, rfl, h⟩
    · have h := h.2 c2
      refine z_iload_n (i := 2) 0 d_Pa_readStep_23 rfl rfl ?_
      refine z_bipush (n := 9) d_Pa_readStep_24 (by decide) (by decide) ?_
      refine z_icmp_ne (tgt := 33) d_Pa_readStep_26 (by decide) (fun c9 => ?_) (fun c9 => ?_)
      · have h := h.2 c9
        refine z_iconst (n := 0) d_Pa_readStep_33 (by decide) ?_
        refine z_istore_n (i := 3) (ls' := [(3, (0, 0)), (2, (0, r0)), (0, (2, 9)), (1, (2, ((p1 : Nat) : Int)))]) d_Pa_readStep_34 rfl rfl rfl ?_
        refine z_aload_n (i := 1) (c := p1) 3 d_Pa_readStep_35 rfl rfl rfl ?_
        refine z_geti (c := p1) (kI := 1) d_Pa_readStep_36 fd_Pg_steps fl_Pa_201 (Or.inl rfl) rfl rfl (ks_Pg_0 hp1) (kl_Pg_0 hp1) ?_
        refine z_bipush (n := 30) d_Pa_readStep_39 (by decide) (by decide) ?_
        refine z_icmp_lt (tgt := 61) d_Pa_readStep_41 (by decide) (fun c10 => ?_) (fun c10 => ?_)
        · have h := h.1 c10
          refine z_iload_n (i := 3) 0 d_Pa_readStep_61 rfl rfl ?_
          refine z_if_eq (tgt := 90) d_Pa_readStep_62 (by decide) (fun _ => ?_) (fun c => absurd (by decide) c)
          refine z_aload_n (i := 0) (c := 9) 2 d_Pa_readStep_90 rfl rfl rfl ?_
          refine z_getr (c := 9) (kI := 0) (r2 := 10) d_Pa_readStep_91 fd_Pa_tape fl_Pa_12 rfl rfl rfl (ks_F_9 hx) (kl_F_9 hx) (kr_F_9_0 hx) ?_
          refine z_cV (c := 10) (as := []) (d' := 2) (st := []) d_Pa_readStep_94 mi_Ta_advance ml_Pa_109 mv_Ta_advance se_Ta_advance rfl rfl rfl rfl (ks_F_10 hx) rfl rfl (kl_F_10 hx) rfl rfl (z_Omono h (fun r5 g5 _ h hro => ?_))
          show z_U X 11 m_Pa_readStep 97 [(3, (0, 0)), (2, (0, r0)), (0, (2, 9)), (1, (2, ((p1 : Nat) : Int)))] [] N σ g5 Q
          refine z_aload_n (i := 0) (c := 9) 2 d_Pa_readStep_97 rfl rfl rfl ?_
          refine z_iconst (n := 0) d_Pa_readStep_98 (by decide) ?_
          refine z_puti (c := 9) (kI := 7) d_Pa_readStep_99 fd_Pa_test fl_Pa_204 pf_Pa_test rfl rfl rfl rfl (ks_F_9 hx) (kl_F_9 hx) ?_
          refine z_aload_n (i := 0) (c := 9) 2 d_Pa_readStep_102 rfl rfl rfl ?_
          refine z_iconst (n := 0) d_Pa_readStep_103 (by decide) ?_
          refine z_puti (c := 9) (kI := 8) d_Pa_readStep_104 fd_Pa_first fl_Pa_207 pf_Pa_first rfl rfl rfl rfl (ks_F_9 hx) (kl_F_9 hx) ?_
          refine z_aload_n (i := 0) (c := 9) 2 d_Pa_readStep_107 rfl rfl rfl ?_
          refine z_iconst (n := 0) d_Pa_readStep_108 (by decide) ?_
          refine z_puti (c := 9) (kI := 9) d_Pa_readStep_109 fd_Pa_second fl_Pa_210 pf_Pa_second rfl rfl rfl rfl (ks_F_9 hx) (kl_F_9 hx) ?_
          refine z_iload_n (i := 2) 1 d_Pa_readStep_112 rfl rfl ?_
          refine z_bipush (n := 8) d_Pa_readStep_113 (by decide) (by decide) ?_
          refine z_icmp_ne (tgt := 125) d_Pa_readStep_115 (by decide) (fun _ => ?_) (fun c => absurd c c2)
          refine z_aload_n (i := 0) (c := 9) 2 d_Pa_readStep_125 rfl rfl rfl ?_
          refine z_iload_n (i := 2) 1 d_Pa_readStep_126 rfl rfl ?_
          refine z_cS (as := [(0, r0)]) (d' := 1) (st := [(2, 9)]) d_Pa_readStep_127 mi_Pa_mostOf ml_Pa_216 ms_Pa_mostOf rfl rfl rfl rfl rfl (b_Pa_mostOf_0  ?_)
          refine ⟨fun c11 => ?_, ?_⟩
          · have h := h.1 c11
            intro _
            show z_U X 11 m_Pa_readStep 130 [(3, (0, 0)), (2, (0, r0)), (0, (2, 9)), (1, (2, ((p1 : Nat) : Int)))] [(0, 99), (2, 9)] N σ (z_up (z_up (z_up g5 9 7 0) 9 8 0) 9 9 0) Q
            refine z_cV (c := 9) (as := [(0, 99)]) (d' := 4) (st := []) d_Pa_readStep_130 mi_Pa_readFirst ml_Pa_220 mv_Pa_readFirst se_Pa_readFirst rfl rfl rfl rfl (ks_F_9 hx) rfl rfl (kl_F_9 hx) rfl rfl (z_Omono h (fun r6 g6 _ h hro => ?_))
            have h := h (z_b01 hro)
            have hzr6 := z_b01 hro
            show z_U X 11 m_Pa_readStep 133 [(3, (0, 0)), (2, (0, r0)), (0, (2, 9)), (1, (2, ((p1 : Nat) : Int)))] [(0, r6)] N σ g6 Q
            refine z_istore (ls' := [(4, (0, r6)), (3, (0, 0)), (2, (0, r0)), (0, (2, 9)), (1, (2, ((p1 : Nat) : Int)))]) d_Pa_readStep_133 rfl rfl ?_
            refine z_iload 0 d_Pa_readStep_135 rfl ?_
            refine z_if_eq (tgt := 152) d_Pa_readStep_137 (by decide) (fun c12 => ?_) (fun c12 => ?_)
            · have h := h.1 c12
              refine z_iconst (n := 0) d_Pa_readStep_152 (by decide) ?_
              exact z_zret d_Pa_readStep_153 rfl (by decide) (by decide) (by decide) ⟨rfl, rfl, h⟩
            · have h := h.2 c12
              refine z_aload_n (i := 0) (c := 9) 3 d_Pa_readStep_140 rfl rfl rfl ?_
              refine z_getr (c := 9) (kI := 0) (r2 := 10) d_Pa_readStep_141 fd_Pa_tape fl_Pa_12 rfl rfl rfl (ks_F_9 hx) (kl_F_9 hx) (kr_F_9_0 hx) ?_
              refine z_bipush (n := 59) d_Pa_readStep_144 (by decide) (by decide) ?_
              refine z_cV (c := 10) (as := [(0, 59)]) (d' := 3) (st := []) d_Pa_readStep_146 mi_Ta_passSign ml_Pa_79 mv_Ta_passSign se_Ta_passSign rfl rfl rfl rfl (ks_F_10 hx) rfl rfl (kl_F_10 hx) rfl rfl (z_Omono h (fun r7 g7 _ h hro => ?_))
              have h := h (z_b01 hro)
              have hzr7 := z_b01 hro
              show z_U X 11 m_Pa_readStep 149 [(4, (0, r6)), (3, (0, 0)), (2, (0, r0)), (0, (2, 9)), (1, (2, ((p1 : Nat) : Int)))] [(0, r7)] N σ g7 Q
              refine z_if_ne (tgt := 154) d_Pa_readStep_149 (by decide) (fun c13 => ?_) (fun c13 => ?_)
              · have h := h.2 c13
                refine z_iload_n (i := 3) 1 d_Pa_readStep_154 rfl rfl ?_
                refine z_if_eq (tgt := 181) d_Pa_readStep_155 (by decide) (fun _ => ?_) (fun c => absurd (by decide) c)
                refine z_aload_n (i := 1) (c := p1) 4 d_Pa_readStep_181 rfl rfl rfl ?_
                refine z_iload_n (i := 2) 2 d_Pa_readStep_182 rfl rfl ?_
                refine z_aload_n (i := 0) (c := 9) 3 d_Pa_readStep_183 rfl rfl rfl ?_
                refine z_geti (c := 9) (kI := 7) d_Pa_readStep_184 fd_Pa_test fl_Pa_204 (Or.inl rfl) rfl rfl (ks_F_9 hx) (kl_F_9 hx) ?_
                refine z_aload_n (i := 0) (c := 9) 3 d_Pa_readStep_187 rfl rfl rfl ?_
                refine z_geti (c := 9) (kI := 8) d_Pa_readStep_188 fd_Pa_first fl_Pa_207 (Or.inl rfl) rfl rfl (ks_F_9 hx) (kl_F_9 hx) ?_
                refine z_aload_n (i := 0) (c := 9) 3 d_Pa_readStep_191 rfl rfl rfl ?_
                refine z_geti (c := 9) (kI := 9) d_Pa_readStep_192 fd_Pa_second fl_Pa_210 (Or.inl rfl) rfl rfl (ks_F_9 hx) (kl_F_9 hx) ?_
                refine z_cV (c := p1) (as := [(0, r0), (0, g7 9 7), (0, g7 9 8), (0, g7 9 9)]) (d' := 1) (st := []) d_Pa_readStep_195 mi_Pg_addStep ml_Pa_227 mv_Pg_addStep se_Pg_addStep rfl rfl rfl rfl (ks_Pg_0 hp1) rfl rfl (kl_Pg_0 hp1) rfl rfl (z_Omono h (fun r8 g8 _ h hro => ?_))
                show z_U X 11 m_Pa_readStep 198 [(4, (0, r6)), (3, (0, 0)), (2, (0, r0)), (0, (2, 9)), (1, (2, ((p1 : Nat) : Int)))] [] N σ g8 Q
                refine z_iconst (n := 1) d_Pa_readStep_198 (by decide) ?_
                exact z_zret d_Pa_readStep_199 rfl (by decide) (by decide) (by decide) ⟨rfl, rfl, h⟩
              · have h := h.1 c13
                refine z_iconst (n := 0) d_Pa_readStep_152 (by decide) ?_
                exact z_zret d_Pa_readStep_153 rfl (by decide) (by decide) (by decide) ⟨rfl, rfl, h⟩
          have h := h.2
          refine ⟨fun c14 => ?_, ?_⟩
          · have h := h.1 c14
            intro _
            show z_U X 11 m_Pa_readStep 130 [(3, (0, 0)), (2, (0, r0)), (0, (2, 9)), (1, (2, ((p1 : Nat) : Int)))] [(0, 200), (2, 9)] N σ (z_up (z_up (z_up g5 9 7 0) 9 8 0) 9 9 0) Q
            refine z_cV (c := 9) (as := [(0, 200)]) (d' := 4) (st := []) d_Pa_readStep_130 mi_Pa_readFirst ml_Pa_220 mv_Pa_readFirst se_Pa_readFirst rfl rfl rfl rfl (ks_F_9 hx) rfl rfl (kl_F_9 hx) rfl rfl (z_Omono h (fun r9 g9 _ h hro => ?_))
            have h := h (z_b01 hro)
            have hzr9 := z_b01 hro
            show z_U X 11 m_Pa_readStep 133 [(3, (0, 0)), (2, (0, r0)), (0, (2, 9)), (1, (2, ((p1 : Nat) : Int)))] [(0, r9)] N σ g9 Q
            refine z_istore (ls' := [(4, (0, r9)), (3, (0, 0)), (2, (0, r0)), (0, (2, 9)), (1, (2, ((p1 : Nat) : Int)))]) d_Pa_readStep_133 rfl rfl ?_
            refine z_iload 0 d_Pa_readStep_135 rfl ?_
            refine z_if_eq (tgt := 152) d_Pa_readStep_137 (by decide) (fun c15 => ?_) (fun c15 => ?_)
            · have h := h.1 c15
              refine z_iconst (n := 0) d_Pa_readStep_152 (by decide) ?_
              exact z_zret d_Pa_readStep_153 rfl (by decide) (by decide) (by decide) ⟨rfl, rfl, h⟩
            · have h := h.2 c15
              refine z_aload_n (i := 0) (c := 9) 3 d_Pa_readStep_140 rfl rfl rfl ?_
              refine z_getr (c := 9) (kI := 0) (r2 := 10) d_Pa_readStep_141 fd_Pa_tape fl_Pa_12 rfl rfl rfl (ks_F_9 hx) (kl_F_9 hx) (kr_F_9_0 hx) ?_
              refine z_bipush (n := 59) d_Pa_readStep_144 (by decide) (by decide) ?_
              refine z_cV (c := 10) (as := [(0, 59)]) (d' := 3) (st := []) d_Pa_readStep_146 mi_Ta_passSign ml_Pa_79 mv_Ta_passSign se_Ta_passSign rfl rfl rfl rfl (ks_F_10 hx) rfl rfl (kl_F_10 hx) rfl rfl (z_Omono h (fun r10 g10 _ h hro => ?_))
              have h := h (z_b01 hro)
              have hzr10 := z_b01 hro
              show z_U X 11 m_Pa_readStep 149 [(4, (0, r9)), (3, (0, 0)), (2, (0, r0)), (0, (2, 9)), (1, (2, ((p1 : Nat) : Int)))] [(0, r10)] N σ g10 Q
              refine z_if_ne (tgt := 154) d_Pa_readStep_149 (by decide) (fun c16 => ?_) (fun c16 => ?_)
              · have h := h.2 c16
                refine z_iload_n (i := 3) 1 d_Pa_readStep_154 rfl rfl ?_
                refine z_if_eq (tgt := 181) d_Pa_readStep_155 (by decide) (fun _ => ?_) (fun c => absurd (by decide) c)
                refine z_aload_n (i := 1) (c := p1) 4 d_Pa_readStep_181 rfl rfl rfl ?_
                refine z_iload_n (i := 2) 2 d_Pa_readStep_182 rfl rfl ?_
                refine z_aload_n (i := 0) (c := 9) 3 d_Pa_readStep_183 rfl rfl rfl ?_
                refine z_geti (c := 9) (kI := 7) d_Pa_readStep_184 fd_Pa_test fl_Pa_204 (Or.inl rfl) rfl rfl (ks_F_9 hx) (kl_F_9 hx) ?_
                refine z_aload_n (i := 0) (c := 9) 3 d_Pa_readStep_187 rfl rfl rfl ?_
                refine z_geti (c := 9) (kI := 8) d_Pa_readStep_188 fd_Pa_first fl_Pa_207 (Or.inl rfl) rfl rfl (ks_F_9 hx) (kl_F_9 hx) ?_
                refine z_aload_n (i := 0) (c := 9) 3 d_Pa_readStep_191 rfl rfl rfl ?_
                refine z_geti (c := 9) (kI := 9) d_Pa_readStep_192 fd_Pa_second fl_Pa_210 (Or.inl rfl) rfl rfl (ks_F_9 hx) (kl_F_9 hx) ?_
                refine z_cV (c := p1) (as := [(0, r0), (0, g10 9 7), (0, g10 9 8), (0, g10 9 9)]) (d' := 1) (st := []) d_Pa_readStep_195 mi_Pg_addStep ml_Pa_227 mv_Pg_addStep se_Pg_addStep rfl rfl rfl rfl (ks_Pg_0 hp1) rfl rfl (kl_Pg_0 hp1) rfl rfl (z_Omono h (fun r11 g11 _ h hro => ?_))
                show z_U X 11 m_Pa_readStep 198 [(4, (0, r9)), (3, (0, 0)), (2, (0, r0)), (0, (2, 9)), (1, (2, ((p1 : Nat) : Int)))] [] N σ g11 Q
                refine z_iconst (n := 1) d_Pa_readStep_198 (by decide) ?_
                exact z_zret d_Pa_readStep_199 rfl (by decide) (by decide) (by decide) ⟨rfl, rfl, h⟩
              · have h := h.1 c16
                refine z_iconst (n := 0) d_Pa_readStep_152 (by decide) ?_
                exact z_zret d_Pa_readStep_153 rfl (by decide) (by decide) (by decide) ⟨rfl, rfl, h⟩
          have h := h.2
          refine ⟨fun c17 => ?_, ?_⟩
          · have h := h.1 c17
            intro _
            show z_U X 11 m_Pa_readStep 130 [(3, (0, 0)), (2, (0, r0)), (0, (2, 9)), (1, (2, ((p1 : Nat) : Int)))] [(0, 99), (2, 9)] N σ (z_up (z_up (z_up g5 9 7 0) 9 8 0) 9 9 0) Q
            refine z_cV (c := 9) (as := [(0, 99)]) (d' := 4) (st := []) d_Pa_readStep_130 mi_Pa_readFirst ml_Pa_220 mv_Pa_readFirst se_Pa_readFirst rfl rfl rfl rfl (ks_F_9 hx) rfl rfl (kl_F_9 hx) rfl rfl (z_Omono h (fun r12 g12 _ h hro => ?_))
            have h := h (z_b01 hro)
            have hzr12 := z_b01 hro
            show z_U X 11 m_Pa_readStep 133 [(3, (0, 0)), (2, (0, r0)), (0, (2, 9)), (1, (2, ((p1 : Nat) : Int)))] [(0, r12)] N σ g12 Q
            refine z_istore (ls' := [(4, (0, r12)), (3, (0, 0)), (2, (0, r0)), (0, (2, 9)), (1, (2, ((p1 : Nat) : Int)))]) d_Pa_readStep_133 rfl rfl ?_
            refine z_iload 0 d_Pa_readStep_135 rfl ?_
            refine z_if_eq (tgt := 152) d_Pa_readStep_137 (by decide) (fun c18 => ?_) (fun c18 => ?_)
            · have h := h.1 c18
              refine z_iconst (n := 0) d_Pa_readStep_152 (by decide) ?_
              exact z_zret d_Pa_readStep_153 rfl (by decide) (by decide) (by decide) ⟨rfl, rfl, h⟩
            · have h := h.2 c18
              refine z_aload_n (i := 0) (c := 9) 3 d_Pa_readStep_140 rfl rfl rfl ?_
              refine z_getr (c := 9) (kI := 0) (r2 := 10) d_Pa_readStep_141 fd_Pa_tape fl_Pa_12 rfl rfl rfl (ks_F_9 hx) (kl_F_9 hx) (kr_F_9_0 hx) ?_
              refine z_bipush (n := 59) d_Pa_readStep_144 (by decide) (by decide) ?_
              refine z_cV (c := 10) (as := [(0, 59)]) (d' := 3) (st := []) d_Pa_readStep_146 mi_Ta_passSign ml_Pa_79 mv_Ta_passSign se_Ta_passSign rfl rfl rfl rfl (ks_F_10 hx) rfl rfl (kl_F_10 hx) rfl rfl (z_Omono h (fun r13 g13 _ h hro => ?_))
              have h := h (z_b01 hro)
              have hzr13 := z_b01 hro
              show z_U X 11 m_Pa_readStep 149 [(4, (0, r12)), (3, (0, 0)), (2, (0, r0)), (0, (2, 9)), (1, (2, ((p1 : Nat) : Int)))] [(0, r13)] N σ g13 Q
              refine z_if_ne (tgt := 154) d_Pa_readStep_149 (by decide) (fun c19 => ?_) (fun c19 => ?_)
              · have h := h.2 c19
                refine z_iload_n (i := 3) 1 d_Pa_readStep_154 rfl rfl ?_
                refine z_if_eq (tgt := 181) d_Pa_readStep_155 (by decide) (fun _ => ?_) (fun c => absurd (by decide) c)
                refine z_aload_n (i := 1) (c := p1) 4 d_Pa_readStep_181 rfl rfl rfl ?_
                refine z_iload_n (i := 2) 2 d_Pa_readStep_182 rfl rfl ?_
                refine z_aload_n (i := 0) (c := 9) 3 d_Pa_readStep_183 rfl rfl rfl ?_
                refine z_geti (c := 9) (kI := 7) d_Pa_readStep_184 fd_Pa_test fl_Pa_204 (Or.inl rfl) rfl rfl (ks_F_9 hx) (kl_F_9 hx) ?_
                refine z_aload_n (i := 0) (c := 9) 3 d_Pa_readStep_187 rfl rfl rfl ?_
                refine z_geti (c := 9) (kI := 8) d_Pa_readStep_188 fd_Pa_first fl_Pa_207 (Or.inl rfl) rfl rfl (ks_F_9 hx) (kl_F_9 hx) ?_
                refine z_aload_n (i := 0) (c := 9) 3 d_Pa_readStep_191 rfl rfl rfl ?_
                refine z_geti (c := 9) (kI := 9) d_Pa_readStep_192 fd_Pa_second fl_Pa_210 (Or.inl rfl) rfl rfl (ks_F_9 hx) (kl_F_9 hx) ?_
                refine z_cV (c := p1) (as := [(0, r0), (0, g13 9 7), (0, g13 9 8), (0, g13 9 9)]) (d' := 1) (st := []) d_Pa_readStep_195 mi_Pg_addStep ml_Pa_227 mv_Pg_addStep se_Pg_addStep rfl rfl rfl rfl (ks_Pg_0 hp1) rfl rfl (kl_Pg_0 hp1) rfl rfl (z_Omono h (fun r14 g14 _ h hro => ?_))
                show z_U X 11 m_Pa_readStep 198 [(4, (0, r12)), (3, (0, 0)), (2, (0, r0)), (0, (2, 9)), (1, (2, ((p1 : Nat) : Int)))] [] N σ g14 Q
                refine z_iconst (n := 1) d_Pa_readStep_198 (by decide) ?_
                exact z_zret d_Pa_readStep_199 rfl (by decide) (by decide) (by decide) ⟨rfl, rfl, h⟩
              · have h := h.1 c19
                refine z_iconst (n := 0) d_Pa_readStep_152 (by decide) ?_
                exact z_zret d_Pa_readStep_153 rfl (by decide) (by decide) (by decide) ⟨rfl, rfl, h⟩
          have h := h.2
          intro c20
          have h := h c20
          intro _
          show z_U X 11 m_Pa_readStep 130 [(3, (0, 0)), (2, (0, r0)), (0, (2, 9)), (1, (2, ((p1 : Nat) : Int)))] [(0, 0), (2, 9)] N σ (z_up (z_up (z_up g5 9 7 0) 9 8 0) 9 9 0) Q
          refine z_cV (c := 9) (as := [(0, 0)]) (d' := 4) (st := []) d_Pa_readStep_130 mi_Pa_readFirst ml_Pa_220 mv_Pa_readFirst se_Pa_readFirst rfl rfl rfl rfl (ks_F_9 hx) rfl rfl (kl_F_9 hx) rfl rfl (z_Omono h (fun r15 g15 _ h hro => ?_))
          have h := h (z_b01 hro)
          have hzr15 := z_b01 hro
          show z_U X 11 m_Pa_readStep 133 [(3, (0, 0)), (2, (0, r0)), (0, (2, 9)), (1, (2, ((p1 : Nat) : Int)))] [(0, r15)] N σ g15 Q
          refine z_istore (ls' := [(4, (0, r15)), (3, (0, 0)), (2, (0, r0)), (0, (2, 9)), (1, (2, ((p1 : Nat) : Int)))]) d_Pa_readStep_133 rfl rfl ?_
          refine z_iload 0 d_Pa_readStep_135 rfl ?_
          refine z_if_eq (tgt := 152) d_Pa_readStep_137 (by decide) (fun c21 => ?_) (fun c21 => ?_)
          · have h := h.1 c21
            refine z_iconst (n := 0) d_Pa_readStep_152 (by decide) ?_
            exact z_zret d_Pa_readStep_153 rfl (by decide) (by decide) (by decide) ⟨rfl, rfl, h⟩
          · have h := h.2 c21
            refine z_aload_n (i := 0) (c := 9) 3 d_Pa_readStep_140 rfl rfl rfl ?_
            refine z_getr (c := 9) (kI := 0) (r2 := 10) d_Pa_readStep_141 fd_Pa_tape fl_Pa_12 rfl rfl rfl (ks_F_9 hx) (kl_F_9 hx) (kr_F_9_0 hx) ?_
            refine z_bipush (n := 59) d_Pa_readStep_144 (by decide) (by decide) ?_
            refine z_cV (c := 10) (as := [(0, 59)]) (d' := 3) (st := []) d_Pa_readStep_146 mi_Ta_passSign ml_Pa_79 mv_Ta_passSign se_Ta_passSign rfl rfl rfl rfl (ks_F_10 hx) rfl rfl (kl_F_10 hx) rfl rfl (z_Omono h (fun r16 g16 _ h hro => ?_))
            have h := h (z_b01 hro)
            have hzr16 := z_b01 hro
            show z_U X 11 m_Pa_readStep 149 [(4, (0, r15)), (3, (0, 0)), (2, (0, r0)), (0, (2, 9)), (1, (2, ((p1 : Nat) : Int)))] [(0, r16)] N σ g16 Q
            refine z_if_ne (tgt := 154) d_Pa_readStep_149 (by decide) (fun c22 => ?_) (fun c22 => ?_)
            · have h := h.2 c22
              refine z_iload_n (i := 3) 1 d_Pa_readStep_154 rfl rfl ?_
              refine z_if_eq (tgt := 181) d_Pa_readStep_155 (by decide) (fun _ => ?_) (fun c => absurd (by decide) c)
              refine z_aload_n (i := 1) (c := p1) 4 d_Pa_readStep_181 rfl rfl rfl ?_
              refine z_iload_n (i := 2) 2 d_Pa_readStep_182 rfl rfl ?_
              refine z_aload_n (i := 0) (c := 9) 3 d_Pa_readStep_183 rfl rfl rfl ?_
              refine z_geti (c := 9) (kI := 7) d_Pa_readStep_184 fd_Pa_test fl_Pa_204 (Or.inl rfl) rfl rfl (ks_F_9 hx) (kl_F_9 hx) ?_
              refine z_aload_n (i := 0) (c := 9) 3 d_Pa_readStep_187 rfl rfl rfl ?_
              refine z_geti (c := 9) (kI := 8) d_Pa_readStep_188 fd_Pa_first fl_Pa_207 (Or.inl rfl) rfl rfl (ks_F_9 hx) (kl_F_9 hx) ?_
              refine z_aload_n (i := 0) (c := 9) 3 d_Pa_readStep_191 rfl rfl rfl ?_
              refine z_geti (c := 9) (kI := 9) d_Pa_readStep_192 fd_Pa_second fl_Pa_210 (Or.inl rfl) rfl rfl (ks_F_9 hx) (kl_F_9 hx) ?_
              refine z_cV (c := p1) (as := [(0, r0), (0, g16 9 7), (0, g16 9 8), (0, g16 9 9)]) (d' := 1) (st := []) d_Pa_readStep_195 mi_Pg_addStep ml_Pa_227 mv_Pg_addStep se_Pg_addStep rfl rfl rfl rfl (ks_Pg_0 hp1) rfl rfl (kl_Pg_0 hp1) rfl rfl (z_Omono h (fun r17 g17 _ h hro => ?_))
              show z_U X 11 m_Pa_readStep 198 [(4, (0, r15)), (3, (0, 0)), (2, (0, r0)), (0, (2, 9)), (1, (2, ((p1 : Nat) : Int)))] [] N σ g17 Q
              refine z_iconst (n := 1) d_Pa_readStep_198 (by decide) ?_
              exact z_zret d_Pa_readStep_199 rfl (by decide) (by decide) (by decide) ⟨rfl, rfl, h⟩
            · have h := h.1 c22
              refine z_iconst (n := 0) d_Pa_readStep_152 (by decide) ?_
              exact z_zret d_Pa_readStep_153 rfl (by decide) (by decide) (by decide) ⟨rfl, rfl, h⟩
        · have h := h.2 c10
          refine z_aload_n (i := 0) (c := 9) 2 d_Pa_readStep_44 rfl rfl rfl ?_
          refine z_getr (c := 9) (kI := 0) (r2 := 10) d_Pa_readStep_45 fd_Pa_tape fl_Pa_12 rfl rfl rfl (ks_F_9 hx) (kl_F_9 hx) (kr_F_9_0 hx) ?_
          refine z_bipush (n := 6) d_Pa_readStep_48 (by decide) (by decide) ?_
          refine z_aload_n (i := 0) (c := 9) 2 d_Pa_readStep_50 rfl rfl rfl ?_
          refine z_getr (c := 9) (kI := 0) (r2 := 10) d_Pa_readStep_51 fd_Pa_tape fl_Pa_12 rfl rfl rfl (ks_F_9 hx) (kl_F_9 hx) (kr_F_9_0 hx) ?_
          refine z_geti (c := 10) (kI := 6) d_Pa_readStep_54 fd_Ta_at fl_Pa_101 (Or.inl rfl) rfl rfl (ks_F_10 hx) (kl_F_10 hx) ?_
          refine z_cV (c := 10) (as := [(0, 6), (0, g0 10 6)]) (d' := 1) (st := []) d_Pa_readStep_57 mi_Ta_fail ml_Pa_105 mv_Ta_fail se_Ta_fail rfl rfl rfl rfl (ks_F_10 hx) rfl rfl (kl_F_10 hx) rfl rfl (b_Ta_fail_0 hx ?_)
          intro _
          show z_U X 11 m_Pa_readStep 60 [(3, (0, 0)), (2, (0, r0)), (0, (2, 9)), (1, (2, ((p1 : Nat) : Int)))] [(0, 0)] N σ (z_up (z_up g0 10 9 6) 10 10 (g0 10 6)) Q
          exact z_zret d_Pa_readStep_60 rfl (by decide) (by decide) (by decide) ⟨rfl, rfl, h⟩
      · have h := h.1 c9
        refine z_iconst (n := 1) d_Pa_readStep_29 (by decide) ?_
        refine z_goto (tgt := 34) d_Pa_readStep_30 (by decide) ?_
        refine z_istore_n (i := 3) (ls' := [(3, (0, 1)), (2, (0, r0)), (0, (2, 9)), (1, (2, ((p1 : Nat) : Int)))]) d_Pa_readStep_34 rfl rfl rfl ?_
        refine z_aload_n (i := 1) (c := p1) 3 d_Pa_readStep_35 rfl rfl rfl ?_
        refine z_geti (c := p1) (kI := 1) d_Pa_readStep_36 fd_Pg_steps fl_Pa_201 (Or.inl rfl) rfl rfl (ks_Pg_0 hp1) (kl_Pg_0 hp1) ?_
        refine z_bipush (n := 30) d_Pa_readStep_39 (by decide) (by decide) ?_
        refine z_icmp_lt (tgt := 61) d_Pa_readStep_41 (by decide) (fun c23 => ?_) (fun c23 => ?_)
        · have h := h.1 c23
          refine z_iload_n (i := 3) 0 d_Pa_readStep_61 rfl rfl ?_
          refine z_if_eq (tgt := 90) d_Pa_readStep_62 (by decide) (fun c => absurd c (by decide)) (fun _ => ?_)
          refine z_aload_n (i := 0) (c := 9) 2 d_Pa_readStep_65 rfl rfl rfl ?_
          refine z_geti (c := 9) (kI := 6) d_Pa_readStep_66 fd_Pa_open fl_Pa_179 (Or.inl rfl) rfl rfl (ks_F_9 hx) (kl_F_9 hx) ?_
          refine z_iconst (n := 3) d_Pa_readStep_69 (by decide) ?_
          refine z_icmp_lt (tgt := 90) d_Pa_readStep_70 (by decide) (fun c24 => ?_) (fun c24 => ?_)
          · have h := h.1 c24
            refine z_aload_n (i := 0) (c := 9) 2 d_Pa_readStep_90 rfl rfl rfl ?_
            refine z_getr (c := 9) (kI := 0) (r2 := 10) d_Pa_readStep_91 fd_Pa_tape fl_Pa_12 rfl rfl rfl (ks_F_9 hx) (kl_F_9 hx) (kr_F_9_0 hx) ?_
            refine z_cV (c := 10) (as := []) (d' := 2) (st := []) d_Pa_readStep_94 mi_Ta_advance ml_Pa_109 mv_Ta_advance se_Ta_advance rfl rfl rfl rfl (ks_F_10 hx) rfl rfl (kl_F_10 hx) rfl rfl (z_Omono h (fun r18 g18 _ h hro => ?_))
            show z_U X 11 m_Pa_readStep 97 [(3, (0, 1)), (2, (0, r0)), (0, (2, 9)), (1, (2, ((p1 : Nat) : Int)))] [] N σ g18 Q
            refine z_aload_n (i := 0) (c := 9) 2 d_Pa_readStep_97 rfl rfl rfl ?_
            refine z_iconst (n := 0) d_Pa_readStep_98 (by decide) ?_
            refine z_puti (c := 9) (kI := 7) d_Pa_readStep_99 fd_Pa_test fl_Pa_204 pf_Pa_test rfl rfl rfl rfl (ks_F_9 hx) (kl_F_9 hx) ?_
            refine z_aload_n (i := 0) (c := 9) 2 d_Pa_readStep_102 rfl rfl rfl ?_
            refine z_iconst (n := 0) d_Pa_readStep_103 (by decide) ?_
            refine z_puti (c := 9) (kI := 8) d_Pa_readStep_104 fd_Pa_first fl_Pa_207 pf_Pa_first rfl rfl rfl rfl (ks_F_9 hx) (kl_F_9 hx) ?_
            refine z_aload_n (i := 0) (c := 9) 2 d_Pa_readStep_107 rfl rfl rfl ?_
            refine z_iconst (n := 0) d_Pa_readStep_108 (by decide) ?_
            refine z_puti (c := 9) (kI := 9) d_Pa_readStep_109 fd_Pa_second fl_Pa_210 pf_Pa_second rfl rfl rfl rfl (ks_F_9 hx) (kl_F_9 hx) ?_
            refine z_iload_n (i := 2) 1 d_Pa_readStep_112 rfl rfl ?_
            refine z_bipush (n := 8) d_Pa_readStep_113 (by decide) (by decide) ?_
            refine z_icmp_ne (tgt := 125) d_Pa_readStep_115 (by decide) (fun _ => ?_) (fun c => absurd c c2)
            refine z_aload_n (i := 0) (c := 9) 2 d_Pa_readStep_125 rfl rfl rfl ?_
            refine z_iload_n (i := 2) 1 d_Pa_readStep_126 rfl rfl ?_
            refine z_cS (as := [(0, r0)]) (d' := 1) (st := [(2, 9)]) d_Pa_readStep_127 mi_Pa_mostOf ml_Pa_216 ms_Pa_mostOf rfl rfl rfl rfl rfl (b_Pa_mostOf_0  ?_)
            refine ⟨fun c25 => ?_, ?_⟩
            · have h := h.1 c25
              intro _
              show z_U X 11 m_Pa_readStep 130 [(3, (0, 1)), (2, (0, r0)), (0, (2, 9)), (1, (2, ((p1 : Nat) : Int)))] [(0, 99), (2, 9)] N σ (z_up (z_up (z_up g18 9 7 0) 9 8 0) 9 9 0) Q
              refine z_cV (c := 9) (as := [(0, 99)]) (d' := 4) (st := []) d_Pa_readStep_130 mi_Pa_readFirst ml_Pa_220 mv_Pa_readFirst se_Pa_readFirst rfl rfl rfl rfl (ks_F_9 hx) rfl rfl (kl_F_9 hx) rfl rfl (z_Omono h (fun r19 g19 _ h hro => ?_))
              have h := h (z_b01 hro)
              have hzr19 := z_b01 hro
              show z_U X 11 m_Pa_readStep 133 [(3, (0, 1)), (2, (0, r0)), (0, (2, 9)), (1, (2, ((p1 : Nat) : Int)))] [(0, r19)] N σ g19 Q
              refine z_istore (ls' := [(4, (0, r19)), (3, (0, 1)), (2, (0, r0)), (0, (2, 9)), (1, (2, ((p1 : Nat) : Int)))]) d_Pa_readStep_133 rfl rfl ?_
              refine z_iload 0 d_Pa_readStep_135 rfl ?_
              refine z_if_eq (tgt := 152) d_Pa_readStep_137 (by decide) (fun c26 => ?_) (fun c26 => ?_)
              · have h := h.1 c26
                refine z_iconst (n := 0) d_Pa_readStep_152 (by decide) ?_
                exact z_zret d_Pa_readStep_153 rfl (by decide) (by decide) (by decide) ⟨rfl, rfl, h⟩
              · have h := h.2 c26
                refine z_aload_n (i := 0) (c := 9) 3 d_Pa_readStep_140 rfl rfl rfl ?_
                refine z_getr (c := 9) (kI := 0) (r2 := 10) d_Pa_readStep_141 fd_Pa_tape fl_Pa_12 rfl rfl rfl (ks_F_9 hx) (kl_F_9 hx) (kr_F_9_0 hx) ?_
                refine z_bipush (n := 59) d_Pa_readStep_144 (by decide) (by decide) ?_
                refine z_cV (c := 10) (as := [(0, 59)]) (d' := 3) (st := []) d_Pa_readStep_146 mi_Ta_passSign ml_Pa_79 mv_Ta_passSign se_Ta_passSign rfl rfl rfl rfl (ks_F_10 hx) rfl rfl (kl_F_10 hx) rfl rfl (z_Omono h (fun r20 g20 _ h hro => ?_))
                have h := h (z_b01 hro)
                have hzr20 := z_b01 hro
                show z_U X 11 m_Pa_readStep 149 [(4, (0, r19)), (3, (0, 1)), (2, (0, r0)), (0, (2, 9)), (1, (2, ((p1 : Nat) : Int)))] [(0, r20)] N σ g20 Q
                refine z_if_ne (tgt := 154) d_Pa_readStep_149 (by decide) (fun c27 => ?_) (fun c27 => ?_)
                · have h := h.2 c27
                  refine z_iload_n (i := 3) 1 d_Pa_readStep_154 rfl rfl ?_
                  refine z_if_eq (tgt := 181) d_Pa_readStep_155 (by decide) (fun c => absurd c (by decide)) (fun _ => ?_)
                  refine z_aload_n (i := 0) (c := 9) 3 d_Pa_readStep_158 rfl rfl rfl ?_
                  refine z_getr (c := 9) (kI := 5) (r2 := 14) d_Pa_readStep_159 fd_Pa_begins fl_Pa_25 rfl rfl rfl (ks_F_9 hx) (kl_F_9 hx) (kr_F_9_5 hx) ?_
                  refine z_aload_n (i := 0) (c := 9) 3 d_Pa_readStep_162 rfl rfl rfl ?_
                  refine z_geti (c := 9) (kI := 6) d_Pa_readStep_163 fd_Pa_open fl_Pa_179 (Or.inl rfl) rfl rfl (ks_F_9 hx) (kl_F_9 hx) ?_
                  refine z_aload_n (i := 1) (c := p1) 4 d_Pa_readStep_166 rfl rfl rfl ?_
                  refine z_geti (c := p1) (kI := 2) d_Pa_readStep_167 fd_Pg_lines fl_Pa_224 (Or.inl rfl) rfl rfl (ks_Pg_0 hp1) (kl_Pg_0 hp1) ?_
                  obtain ⟨c28, h⟩ := h
                  refine z_iast (c := 14) (m := 3) d_Pa_readStep_170 rfl (ks_F_14 hx) (kl_F_14 hx) rfl (by decide) c28 ?_
                  refine z_aload_n (i := 0) (c := 9) 3 d_Pa_readStep_171 rfl rfl rfl ?_
                  refine z_dup d_Pa_readStep_172 rfl ?_
                  refine z_geti (c := 9) (kI := 6) d_Pa_readStep_173 fd_Pa_open fl_Pa_179 (Or.inl rfl) rfl rfl (ks_F_9 hx) (kl_F_9 hx) ?_
                  refine z_ti (b := g20 9 6) (by simp [z_up]) ?_
                  refine z_iconst (n := 1) d_Pa_readStep_176 (by decide) ?_
                  obtain ⟨c29, h⟩ := h
                  refine z_iadd d_Pa_readStep_177 c29 ?_
                  refine z_puti (c := 9) (kI := 6) d_Pa_readStep_178 fd_Pa_open fl_Pa_179 pf_Pa_open rfl rfl rfl rfl (ks_F_9 hx) (kl_F_9 hx) ?_
                  refine z_aload_n (i := 1) (c := p1) 4 d_Pa_readStep_181 rfl rfl rfl ?_
                  refine z_iload_n (i := 2) 2 d_Pa_readStep_182 rfl rfl ?_
                  refine z_aload_n (i := 0) (c := 9) 3 d_Pa_readStep_183 rfl rfl rfl ?_
                  refine z_geti (c := 9) (kI := 7) d_Pa_readStep_184 fd_Pa_test fl_Pa_204 (Or.inl rfl) rfl rfl (ks_F_9 hx) (kl_F_9 hx) ?_
                  refine z_ti (b := g20 9 7) (by simp [z_up]) ?_
                  refine z_aload_n (i := 0) (c := 9) 3 d_Pa_readStep_187 rfl rfl rfl ?_
                  refine z_geti (c := 9) (kI := 8) d_Pa_readStep_188 fd_Pa_first fl_Pa_207 (Or.inl rfl) rfl rfl (ks_F_9 hx) (kl_F_9 hx) ?_
                  refine z_ti (b := g20 9 8) (by simp [z_up]) ?_
                  refine z_aload_n (i := 0) (c := 9) 3 d_Pa_readStep_191 rfl rfl rfl ?_
                  refine z_geti (c := 9) (kI := 9) d_Pa_readStep_192 fd_Pa_second fl_Pa_210 (Or.inl rfl) rfl rfl (ks_F_9 hx) (kl_F_9 hx) ?_
                  refine z_ti (b := g20 9 9) (by simp [z_up]) ?_
                  refine z_cV (c := p1) (as := [(0, r0), (0, g20 9 7), (0, g20 9 8), (0, g20 9 9)]) (d' := 1) (st := []) d_Pa_readStep_195 mi_Pg_addStep ml_Pa_227 mv_Pg_addStep se_Pg_addStep rfl rfl rfl rfl (ks_Pg_0 hp1) rfl rfl (kl_Pg_0 hp1) rfl rfl (z_Omono h (fun r21 g21 _ h hro => ?_))
                  show z_U X 11 m_Pa_readStep 198 [(4, (0, r19)), (3, (0, 1)), (2, (0, r0)), (0, (2, 9)), (1, (2, ((p1 : Nat) : Int)))] [] N σ g21 Q
                  refine z_iconst (n := 1) d_Pa_readStep_198 (by decide) ?_
                  exact z_zret d_Pa_readStep_199 rfl (by decide) (by decide) (by decide) ⟨rfl, rfl, h⟩
                · have h := h.1 c27
                  refine z_iconst (n := 0) d_Pa_readStep_152 (by decide) ?_
                  exact z_zret d_Pa_readStep_153 rfl (by decide) (by decide) (by decide) ⟨rfl, rfl, h⟩
            have h := h.2
            refine ⟨fun c30 => ?_, ?_⟩
            · have h := h.1 c30
              intro _
              show z_U X 11 m_Pa_readStep 130 [(3, (0, 1)), (2, (0, r0)), (0, (2, 9)), (1, (2, ((p1 : Nat) : Int)))] [(0, 200), (2, 9)] N σ (z_up (z_up (z_up g18 9 7 0) 9 8 0) 9 9 0) Q
              refine z_cV (c := 9) (as := [(0, 200)]) (d' := 4) (st := []) d_Pa_readStep_130 mi_Pa_readFirst ml_Pa_220 mv_Pa_readFirst se_Pa_readFirst rfl rfl rfl rfl (ks_F_9 hx) rfl rfl (kl_F_9 hx) rfl rfl (z_Omono h (fun r22 g22 _ h hro => ?_))
              have h := h (z_b01 hro)
              have hzr22 := z_b01 hro
              show z_U X 11 m_Pa_readStep 133 [(3, (0, 1)), (2, (0, r0)), (0, (2, 9)), (1, (2, ((p1 : Nat) : Int)))] [(0, r22)] N σ g22 Q
              refine z_istore (ls' := [(4, (0, r22)), (3, (0, 1)), (2, (0, r0)), (0, (2, 9)), (1, (2, ((p1 : Nat) : Int)))]) d_Pa_readStep_133 rfl rfl ?_
              refine z_iload 0 d_Pa_readStep_135 rfl ?_
              refine z_if_eq (tgt := 152) d_Pa_readStep_137 (by decide) (fun c31 => ?_) (fun c31 => ?_)
              · have h := h.1 c31
                refine z_iconst (n := 0) d_Pa_readStep_152 (by decide) ?_
                exact z_zret d_Pa_readStep_153 rfl (by decide) (by decide) (by decide) ⟨rfl, rfl, h⟩
              · have h := h.2 c31
                refine z_aload_n (i := 0) (c := 9) 3 d_Pa_readStep_140 rfl rfl rfl ?_
                refine z_getr (c := 9) (kI := 0) (r2 := 10) d_Pa_readStep_141 fd_Pa_tape fl_Pa_12 rfl rfl rfl (ks_F_9 hx) (kl_F_9 hx) (kr_F_9_0 hx) ?_
                refine z_bipush (n := 59) d_Pa_readStep_144 (by decide) (by decide) ?_
                refine z_cV (c := 10) (as := [(0, 59)]) (d' := 3) (st := []) d_Pa_readStep_146 mi_Ta_passSign ml_Pa_79 mv_Ta_passSign se_Ta_passSign rfl rfl rfl rfl (ks_F_10 hx) rfl rfl (kl_F_10 hx) rfl rfl (z_Omono h (fun r23 g23 _ h hro => ?_))
                have h := h (z_b01 hro)
                have hzr23 := z_b01 hro
                show z_U X 11 m_Pa_readStep 149 [(4, (0, r22)), (3, (0, 1)), (2, (0, r0)), (0, (2, 9)), (1, (2, ((p1 : Nat) : Int)))] [(0, r23)] N σ g23 Q
                refine z_if_ne (tgt := 154) d_Pa_readStep_149 (by decide) (fun c32 => ?_) (fun c32 => ?_)
                · have h := h.2 c32
                  refine z_iload_n (i := 3) 1 d_Pa_readStep_154 rfl rfl ?_
                  refine z_if_eq (tgt := 181) d_Pa_readStep_155 (by decide) (fun c => absurd c (by decide)) (fun _ => ?_)
                  refine z_aload_n (i := 0) (c := 9) 3 d_Pa_readStep_158 rfl rfl rfl ?_
                  refine z_getr (c := 9) (kI := 5) (r2 := 14) d_Pa_readStep_159 fd_Pa_begins fl_Pa_25 rfl rfl rfl (ks_F_9 hx) (kl_F_9 hx) (kr_F_9_5 hx) ?_
                  refine z_aload_n (i := 0) (c := 9) 3 d_Pa_readStep_162 rfl rfl rfl ?_
                  refine z_geti (c := 9) (kI := 6) d_Pa_readStep_163 fd_Pa_open fl_Pa_179 (Or.inl rfl) rfl rfl (ks_F_9 hx) (kl_F_9 hx) ?_
                  refine z_aload_n (i := 1) (c := p1) 4 d_Pa_readStep_166 rfl rfl rfl ?_
                  refine z_geti (c := p1) (kI := 2) d_Pa_readStep_167 fd_Pg_lines fl_Pa_224 (Or.inl rfl) rfl rfl (ks_Pg_0 hp1) (kl_Pg_0 hp1) ?_
                  obtain ⟨c33, h⟩ := h
                  refine z_iast (c := 14) (m := 3) d_Pa_readStep_170 rfl (ks_F_14 hx) (kl_F_14 hx) rfl (by decide) c33 ?_
                  refine z_aload_n (i := 0) (c := 9) 3 d_Pa_readStep_171 rfl rfl rfl ?_
                  refine z_dup d_Pa_readStep_172 rfl ?_
                  refine z_geti (c := 9) (kI := 6) d_Pa_readStep_173 fd_Pa_open fl_Pa_179 (Or.inl rfl) rfl rfl (ks_F_9 hx) (kl_F_9 hx) ?_
                  refine z_ti (b := g23 9 6) (by simp [z_up]) ?_
                  refine z_iconst (n := 1) d_Pa_readStep_176 (by decide) ?_
                  obtain ⟨c34, h⟩ := h
                  refine z_iadd d_Pa_readStep_177 c34 ?_
                  refine z_puti (c := 9) (kI := 6) d_Pa_readStep_178 fd_Pa_open fl_Pa_179 pf_Pa_open rfl rfl rfl rfl (ks_F_9 hx) (kl_F_9 hx) ?_
                  refine z_aload_n (i := 1) (c := p1) 4 d_Pa_readStep_181 rfl rfl rfl ?_
                  refine z_iload_n (i := 2) 2 d_Pa_readStep_182 rfl rfl ?_
                  refine z_aload_n (i := 0) (c := 9) 3 d_Pa_readStep_183 rfl rfl rfl ?_
                  refine z_geti (c := 9) (kI := 7) d_Pa_readStep_184 fd_Pa_test fl_Pa_204 (Or.inl rfl) rfl rfl (ks_F_9 hx) (kl_F_9 hx) ?_
                  refine z_ti (b := g23 9 7) (by simp [z_up]) ?_
                  refine z_aload_n (i := 0) (c := 9) 3 d_Pa_readStep_187 rfl rfl rfl ?_
                  refine z_geti (c := 9) (kI := 8) d_Pa_readStep_188 fd_Pa_first fl_Pa_207 (Or.inl rfl) rfl rfl (ks_F_9 hx) (kl_F_9 hx) ?_
                  refine z_ti (b := g23 9 8) (by simp [z_up]) ?_
                  refine z_aload_n (i := 0) (c := 9) 3 d_Pa_readStep_191 rfl rfl rfl ?_
                  refine z_geti (c := 9) (kI := 9) d_Pa_readStep_192 fd_Pa_second fl_Pa_210 (Or.inl rfl) rfl rfl (ks_F_9 hx) (kl_F_9 hx) ?_
                  refine z_ti (b := g23 9 9) (by simp [z_up]) ?_
                  refine z_cV (c := p1) (as := [(0, r0), (0, g23 9 7), (0, g23 9 8), (0, g23 9 9)]) (d' := 1) (st := []) d_Pa_readStep_195 mi_Pg_addStep ml_Pa_227 mv_Pg_addStep se_Pg_addStep rfl rfl rfl rfl (ks_Pg_0 hp1) rfl rfl (kl_Pg_0 hp1) rfl rfl (z_Omono h (fun r24 g24 _ h hro => ?_))
                  show z_U X 11 m_Pa_readStep 198 [(4, (0, r22)), (3, (0, 1)), (2, (0, r0)), (0, (2, 9)), (1, (2, ((p1 : Nat) : Int)))] [] N σ g24 Q
                  refine z_iconst (n := 1) d_Pa_readStep_198 (by decide) ?_
                  exact z_zret d_Pa_readStep_199 rfl (by decide) (by decide) (by decide) ⟨rfl, rfl, h⟩
                · have h := h.1 c32
                  refine z_iconst (n := 0) d_Pa_readStep_152 (by decide) ?_
                  exact z_zret d_Pa_readStep_153 rfl (by decide) (by decide) (by decide) ⟨rfl, rfl, h⟩
            have h := h.2
            refine ⟨fun c35 => ?_, ?_⟩
            · have h := h.1 c35
              intro _
              show z_U X 11 m_Pa_readStep 130 [(3, (0, 1)), (2, (0, r0)), (0, (2, 9)), (1, (2, ((p1 : Nat) : Int)))] [(0, 99), (2, 9)] N σ (z_up (z_up (z_up g18 9 7 0) 9 8 0) 9 9 0) Q
              refine z_cV (c := 9) (as := [(0, 99)]) (d' := 4) (st := []) d_Pa_readStep_130 mi_Pa_readFirst ml_Pa_220 mv_Pa_readFirst se_Pa_readFirst rfl rfl rfl rfl (ks_F_9 hx) rfl rfl (kl_F_9 hx) rfl rfl (z_Omono h (fun r25 g25 _ h hro => ?_))
              have h := h (z_b01 hro)
              have hzr25 := z_b01 hro
              show z_U X 11 m_Pa_readStep 133 [(3, (0, 1)), (2, (0, r0)), (0, (2, 9)), (1, (2, ((p1 : Nat) : Int)))] [(0, r25)] N σ g25 Q
              refine z_istore (ls' := [(4, (0, r25)), (3, (0, 1)), (2, (0, r0)), (0, (2, 9)), (1, (2, ((p1 : Nat) : Int)))]) d_Pa_readStep_133 rfl rfl ?_
              refine z_iload 0 d_Pa_readStep_135 rfl ?_
              refine z_if_eq (tgt := 152) d_Pa_readStep_137 (by decide) (fun c36 => ?_) (fun c36 => ?_)
              · have h := h.1 c36
                refine z_iconst (n := 0) d_Pa_readStep_152 (by decide) ?_
                exact z_zret d_Pa_readStep_153 rfl (by decide) (by decide) (by decide) ⟨rfl, rfl, h⟩
              · have h := h.2 c36
                refine z_aload_n (i := 0) (c := 9) 3 d_Pa_readStep_140 rfl rfl rfl ?_
                refine z_getr (c := 9) (kI := 0) (r2 := 10) d_Pa_readStep_141 fd_Pa_tape fl_Pa_12 rfl rfl rfl (ks_F_9 hx) (kl_F_9 hx) (kr_F_9_0 hx) ?_
                refine z_bipush (n := 59) d_Pa_readStep_144 (by decide) (by decide) ?_
                refine z_cV (c := 10) (as := [(0, 59)]) (d' := 3) (st := []) d_Pa_readStep_146 mi_Ta_passSign ml_Pa_79 mv_Ta_passSign se_Ta_passSign rfl rfl rfl rfl (ks_F_10 hx) rfl rfl (kl_F_10 hx) rfl rfl (z_Omono h (fun r26 g26 _ h hro => ?_))
                have h := h (z_b01 hro)
                have hzr26 := z_b01 hro
                show z_U X 11 m_Pa_readStep 149 [(4, (0, r25)), (3, (0, 1)), (2, (0, r0)), (0, (2, 9)), (1, (2, ((p1 : Nat) : Int)))] [(0, r26)] N σ g26 Q
                refine z_if_ne (tgt := 154) d_Pa_readStep_149 (by decide) (fun c37 => ?_) (fun c37 => ?_)
                · have h := h.2 c37
                  refine z_iload_n (i := 3) 1 d_Pa_readStep_154 rfl rfl ?_
                  refine z_if_eq (tgt := 181) d_Pa_readStep_155 (by decide) (fun c => absurd c (by decide)) (fun _ => ?_)
                  refine z_aload_n (i := 0) (c := 9) 3 d_Pa_readStep_158 rfl rfl rfl ?_
                  refine z_getr (c := 9) (kI := 5) (r2 := 14) d_Pa_readStep_159 fd_Pa_begins fl_Pa_25 rfl rfl rfl (ks_F_9 hx) (kl_F_9 hx) (kr_F_9_5 hx) ?_
                  refine z_aload_n (i := 0) (c := 9) 3 d_Pa_readStep_162 rfl rfl rfl ?_
                  refine z_geti (c := 9) (kI := 6) d_Pa_readStep_163 fd_Pa_open fl_Pa_179 (Or.inl rfl) rfl rfl (ks_F_9 hx) (kl_F_9 hx) ?_
                  refine z_aload_n (i := 1) (c := p1) 4 d_Pa_readStep_166 rfl rfl rfl ?_
                  refine z_geti (c := p1) (kI := 2) d_Pa_readStep_167 fd_Pg_lines fl_Pa_224 (Or.inl rfl) rfl rfl (ks_Pg_0 hp1) (kl_Pg_0 hp1) ?_
                  obtain ⟨c38, h⟩ := h
                  refine z_iast (c := 14) (m := 3) d_Pa_readStep_170 rfl (ks_F_14 hx) (kl_F_14 hx) rfl (by decide) c38 ?_
                  refine z_aload_n (i := 0) (c := 9) 3 d_Pa_readStep_171 rfl rfl rfl ?_
                  refine z_dup d_Pa_readStep_172 rfl ?_
                  refine z_geti (c := 9) (kI := 6) d_Pa_readStep_173 fd_Pa_open fl_Pa_179 (Or.inl rfl) rfl rfl (ks_F_9 hx) (kl_F_9 hx) ?_
                  refine z_ti (b := g26 9 6) (by simp [z_up]) ?_
                  refine z_iconst (n := 1) d_Pa_readStep_176 (by decide) ?_
                  obtain ⟨c39, h⟩ := h
                  refine z_iadd d_Pa_readStep_177 c39 ?_
                  refine z_puti (c := 9) (kI := 6) d_Pa_readStep_178 fd_Pa_open fl_Pa_179 pf_Pa_open rfl rfl rfl rfl (ks_F_9 hx) (kl_F_9 hx) ?_
                  refine z_aload_n (i := 1) (c := p1) 4 d_Pa_readStep_181 rfl rfl rfl ?_
                  refine z_iload_n (i := 2) 2 d_Pa_readStep_182 rfl rfl ?_
                  refine z_aload_n (i := 0) (c := 9) 3 d_Pa_readStep_183 rfl rfl rfl ?_
                  refine z_geti (c := 9) (kI := 7) d_Pa_readStep_184 fd_Pa_test fl_Pa_204 (Or.inl rfl) rfl rfl (ks_F_9 hx) (kl_F_9 hx) ?_
                  refine z_ti (b := g26 9 7) (by simp [z_up]) ?_
                  refine z_aload_n (i := 0) (c := 9) 3 d_Pa_readStep_187 rfl rfl rfl ?_
                  refine z_geti (c := 9) (kI := 8) d_Pa_readStep_188 fd_Pa_first fl_Pa_207 (Or.inl rfl) rfl rfl (ks_F_9 hx) (kl_F_9 hx) ?_
                  refine z_ti (b := g26 9 8) (by simp [z_up]) ?_
                  refine z_aload_n (i := 0) (c := 9) 3 d_Pa_readStep_191 rfl rfl rfl ?_
                  refine z_geti (c := 9) (kI := 9) d_Pa_readStep_192 fd_Pa_second fl_Pa_210 (Or.inl rfl) rfl rfl (ks_F_9 hx) (kl_F_9 hx) ?_
                  refine z_ti (b := g26 9 9) (by simp [z_up]) ?_
                  refine z_cV (c := p1) (as := [(0, r0), (0, g26 9 7), (0, g26 9 8), (0, g26 9 9)]) (d' := 1) (st := []) d_Pa_readStep_195 mi_Pg_addStep ml_Pa_227 mv_Pg_addStep se_Pg_addStep rfl rfl rfl rfl (ks_Pg_0 hp1) rfl rfl (kl_Pg_0 hp1) rfl rfl (z_Omono h (fun r27 g27 _ h hro => ?_))
                  show z_U X 11 m_Pa_readStep 198 [(4, (0, r25)), (3, (0, 1)), (2, (0, r0)), (0, (2, 9)), (1, (2, ((p1 : Nat) : Int)))] [] N σ g27 Q
                  refine z_iconst (n := 1) d_Pa_readStep_198 (by decide) ?_
                  exact z_zret d_Pa_readStep_199 rfl (by decide) (by decide) (by decide) ⟨rfl, rfl, h⟩
                · have h := h.1 c37
                  refine z_iconst (n := 0) d_Pa_readStep_152 (by decide) ?_
                  exact z_zret d_Pa_readStep_153 rfl (by decide) (by decide) (by decide) ⟨rfl, rfl, h⟩
            have h := h.2
            intro c40
            have h := h c40
            intro _
            show z_U X 11 m_Pa_readStep 130 [(3, (0, 1)), (2, (0, r0)), (0, (2, 9)), (1, (2, ((p1 : Nat) : Int)))] [(0, 0), (2, 9)] N σ (z_up (z_up (z_up g18 9 7 0) 9 8 0) 9 9 0) Q
            refine z_cV (c := 9) (as := [(0, 0)]) (d' := 4) (st := []) d_Pa_readStep_130 mi_Pa_readFirst ml_Pa_220 mv_Pa_readFirst se_Pa_readFirst rfl rfl rfl rfl (ks_F_9 hx) rfl rfl (kl_F_9 hx) rfl rfl (z_Omono h (fun r28 g28 _ h hro => ?_))
            have h := h (z_b01 hro)
            have hzr28 := z_b01 hro
            show z_U X 11 m_Pa_readStep 133 [(3, (0, 1)), (2, (0, r0)), (0, (2, 9)), (1, (2, ((p1 : Nat) : Int)))] [(0, r28)] N σ g28 Q
            refine z_istore (ls' := [(4, (0, r28)), (3, (0, 1)), (2, (0, r0)), (0, (2, 9)), (1, (2, ((p1 : Nat) : Int)))]) d_Pa_readStep_133 rfl rfl ?_
            refine z_iload 0 d_Pa_readStep_135 rfl ?_
            refine z_if_eq (tgt := 152) d_Pa_readStep_137 (by decide) (fun c41 => ?_) (fun c41 => ?_)
            · have h := h.1 c41
              refine z_iconst (n := 0) d_Pa_readStep_152 (by decide) ?_
              exact z_zret d_Pa_readStep_153 rfl (by decide) (by decide) (by decide) ⟨rfl, rfl, h⟩
            · have h := h.2 c41
              refine z_aload_n (i := 0) (c := 9) 3 d_Pa_readStep_140 rfl rfl rfl ?_
              refine z_getr (c := 9) (kI := 0) (r2 := 10) d_Pa_readStep_141 fd_Pa_tape fl_Pa_12 rfl rfl rfl (ks_F_9 hx) (kl_F_9 hx) (kr_F_9_0 hx) ?_
              refine z_bipush (n := 59) d_Pa_readStep_144 (by decide) (by decide) ?_
              refine z_cV (c := 10) (as := [(0, 59)]) (d' := 3) (st := []) d_Pa_readStep_146 mi_Ta_passSign ml_Pa_79 mv_Ta_passSign se_Ta_passSign rfl rfl rfl rfl (ks_F_10 hx) rfl rfl (kl_F_10 hx) rfl rfl (z_Omono h (fun r29 g29 _ h hro => ?_))
              have h := h (z_b01 hro)
              have hzr29 := z_b01 hro
              show z_U X 11 m_Pa_readStep 149 [(4, (0, r28)), (3, (0, 1)), (2, (0, r0)), (0, (2, 9)), (1, (2, ((p1 : Nat) : Int)))] [(0, r29)] N σ g29 Q
              refine z_if_ne (tgt := 154) d_Pa_readStep_149 (by decide) (fun c42 => ?_) (fun c42 => ?_)
              · have h := h.2 c42
                refine z_iload_n (i := 3) 1 d_Pa_readStep_154 rfl rfl ?_
                refine z_if_eq (tgt := 181) d_Pa_readStep_155 (by decide) (fun c => absurd c (by decide)) (fun _ => ?_)
                refine z_aload_n (i := 0) (c := 9) 3 d_Pa_readStep_158 rfl rfl rfl ?_
                refine z_getr (c := 9) (kI := 5) (r2 := 14) d_Pa_readStep_159 fd_Pa_begins fl_Pa_25 rfl rfl rfl (ks_F_9 hx) (kl_F_9 hx) (kr_F_9_5 hx) ?_
                refine z_aload_n (i := 0) (c := 9) 3 d_Pa_readStep_162 rfl rfl rfl ?_
                refine z_geti (c := 9) (kI := 6) d_Pa_readStep_163 fd_Pa_open fl_Pa_179 (Or.inl rfl) rfl rfl (ks_F_9 hx) (kl_F_9 hx) ?_
                refine z_aload_n (i := 1) (c := p1) 4 d_Pa_readStep_166 rfl rfl rfl ?_
                refine z_geti (c := p1) (kI := 2) d_Pa_readStep_167 fd_Pg_lines fl_Pa_224 (Or.inl rfl) rfl rfl (ks_Pg_0 hp1) (kl_Pg_0 hp1) ?_
                obtain ⟨c43, h⟩ := h
                refine z_iast (c := 14) (m := 3) d_Pa_readStep_170 rfl (ks_F_14 hx) (kl_F_14 hx) rfl (by decide) c43 ?_
                refine z_aload_n (i := 0) (c := 9) 3 d_Pa_readStep_171 rfl rfl rfl ?_
                refine z_dup d_Pa_readStep_172 rfl ?_
                refine z_geti (c := 9) (kI := 6) d_Pa_readStep_173 fd_Pa_open fl_Pa_179 (Or.inl rfl) rfl rfl (ks_F_9 hx) (kl_F_9 hx) ?_
                refine z_ti (b := g29 9 6) (by simp [z_up]) ?_
                refine z_iconst (n := 1) d_Pa_readStep_176 (by decide) ?_
                obtain ⟨c44, h⟩ := h
                refine z_iadd d_Pa_readStep_177 c44 ?_
                refine z_puti (c := 9) (kI := 6) d_Pa_readStep_178 fd_Pa_open fl_Pa_179 pf_Pa_open rfl rfl rfl rfl (ks_F_9 hx) (kl_F_9 hx) ?_
                refine z_aload_n (i := 1) (c := p1) 4 d_Pa_readStep_181 rfl rfl rfl ?_
                refine z_iload_n (i := 2) 2 d_Pa_readStep_182 rfl rfl ?_
                refine z_aload_n (i := 0) (c := 9) 3 d_Pa_readStep_183 rfl rfl rfl ?_
                refine z_geti (c := 9) (kI := 7) d_Pa_readStep_184 fd_Pa_test fl_Pa_204 (Or.inl rfl) rfl rfl (ks_F_9 hx) (kl_F_9 hx) ?_
                refine z_ti (b := g29 9 7) (by simp [z_up]) ?_
                refine z_aload_n (i := 0) (c := 9) 3 d_Pa_readStep_187 rfl rfl rfl ?_
                refine z_geti (c := 9) (kI := 8) d_Pa_readStep_188 fd_Pa_first fl_Pa_207 (Or.inl rfl) rfl rfl (ks_F_9 hx) (kl_F_9 hx) ?_
                refine z_ti (b := g29 9 8) (by simp [z_up]) ?_
                refine z_aload_n (i := 0) (c := 9) 3 d_Pa_readStep_191 rfl rfl rfl ?_
                refine z_geti (c := 9) (kI := 9) d_Pa_readStep_192 fd_Pa_second fl_Pa_210 (Or.inl rfl) rfl rfl (ks_F_9 hx) (kl_F_9 hx) ?_
                refine z_ti (b := g29 9 9) (by simp [z_up]) ?_
                refine z_cV (c := p1) (as := [(0, r0), (0, g29 9 7), (0, g29 9 8), (0, g29 9 9)]) (d' := 1) (st := []) d_Pa_readStep_195 mi_Pg_addStep ml_Pa_227 mv_Pg_addStep se_Pg_addStep rfl rfl rfl rfl (ks_Pg_0 hp1) rfl rfl (kl_Pg_0 hp1) rfl rfl (z_Omono h (fun r30 g30 _ h hro => ?_))
                show z_U X 11 m_Pa_readStep 198 [(4, (0, r28)), (3, (0, 1)), (2, (0, r0)), (0, (2, 9)), (1, (2, ((p1 : Nat) : Int)))] [] N σ g30 Q
                refine z_iconst (n := 1) d_Pa_readStep_198 (by decide) ?_
                exact z_zret d_Pa_readStep_199 rfl (by decide) (by decide) (by decide) ⟨rfl, rfl, h⟩
              · have h := h.1 c42
                refine z_iconst (n := 0) d_Pa_readStep_152 (by decide) ?_
                exact z_zret d_Pa_readStep_153 rfl (by decide) (by decide) (by decide) ⟨rfl, rfl, h⟩
          · have h := h.2 c24
            refine z_aload_n (i := 0) (c := 9) 2 d_Pa_readStep_73 rfl rfl rfl ?_
            refine z_getr (c := 9) (kI := 0) (r2 := 10) d_Pa_readStep_74 fd_Pa_tape fl_Pa_12 rfl rfl rfl (ks_F_9 hx) (kl_F_9 hx) (kr_F_9_0 hx) ?_
            refine z_bipush (n := 7) d_Pa_readStep_77 (by decide) (by decide) ?_
            refine z_aload_n (i := 0) (c := 9) 2 d_Pa_readStep_79 rfl rfl rfl ?_
            refine z_getr (c := 9) (kI := 0) (r2 := 10) d_Pa_readStep_80 fd_Pa_tape fl_Pa_12 rfl rfl rfl (ks_F_9 hx) (kl_F_9 hx) (kr_F_9_0 hx) ?_
            refine z_geti (c := 10) (kI := 6) d_Pa_readStep_83 fd_Ta_at fl_Pa_101 (Or.inl rfl) rfl rfl (ks_F_10 hx) (kl_F_10 hx) ?_
            refine z_cV (c := 10) (as := [(0, 7), (0, g0 10 6)]) (d' := 1) (st := []) d_Pa_readStep_86 mi_Ta_fail ml_Pa_105 mv_Ta_fail se_Ta_fail rfl rfl rfl rfl (ks_F_10 hx) rfl rfl (kl_F_10 hx) rfl rfl (b_Ta_fail_0 hx ?_)
            intro _
            show z_U X 11 m_Pa_readStep 89 [(3, (0, 1)), (2, (0, r0)), (0, (2, 9)), (1, (2, ((p1 : Nat) : Int)))] [(0, 0)] N σ (z_up (z_up g0 10 9 7) 10 10 (g0 10 6)) Q
            exact z_zret d_Pa_readStep_89 rfl (by decide) (by decide) (by decide) ⟨rfl, rfl, h⟩
        · have h := h.2 c23
          refine z_aload_n (i := 0) (c := 9) 2 d_Pa_readStep_44 rfl rfl rfl ?_
          refine z_getr (c := 9) (kI := 0) (r2 := 10) d_Pa_readStep_45 fd_Pa_tape fl_Pa_12 rfl rfl rfl (ks_F_9 hx) (kl_F_9 hx) (kr_F_9_0 hx) ?_
          refine z_bipush (n := 6) d_Pa_readStep_48 (by decide) (by decide) ?_
          refine z_aload_n (i := 0) (c := 9) 2 d_Pa_readStep_50 rfl rfl rfl ?_
          refine z_getr (c := 9) (kI := 0) (r2 := 10) d_Pa_readStep_51 fd_Pa_tape fl_Pa_12 rfl rfl rfl (ks_F_9 hx) (kl_F_9 hx) (kr_F_9_0 hx) ?_
          refine z_geti (c := 10) (kI := 6) d_Pa_readStep_54 fd_Ta_at fl_Pa_101 (Or.inl rfl) rfl rfl (ks_F_10 hx) (kl_F_10 hx) ?_
          refine z_cV (c := 10) (as := [(0, 6), (0, g0 10 6)]) (d' := 1) (st := []) d_Pa_readStep_57 mi_Ta_fail ml_Pa_105 mv_Ta_fail se_Ta_fail rfl rfl rfl rfl (ks_F_10 hx) rfl rfl (kl_F_10 hx) rfl rfl (b_Ta_fail_0 hx ?_)
          intro _
          show z_U X 11 m_Pa_readStep 60 [(3, (0, 1)), (2, (0, r0)), (0, (2, 9)), (1, (2, ((p1 : Nat) : Int)))] [(0, 0)] N σ (z_up (z_up g0 10 9 6) 10 10 (g0 10 6)) Q
          exact z_zret d_Pa_readStep_60 rfl (by decide) (by decide) (by decide) ⟨rfl, rfl, h⟩
  · have h := h.2 c1
    refine z_aload_n (i := 0) (c := 9) 1 d_Pa_readStep_9 rfl rfl rfl ?_
    refine z_getr (c := 9) (kI := 0) (r2 := 10) d_Pa_readStep_10 fd_Pa_tape fl_Pa_12 rfl rfl rfl (ks_F_9 hx) (kl_F_9 hx) (kr_F_9_0 hx) ?_
    refine z_cV (c := 10) (as := []) (d' := 2) (st := []) d_Pa_readStep_13 mi_Ta_failHere ml_Pa_98 mv_Ta_failHere se_Ta_failHere rfl rfl rfl rfl (ks_F_10 hx) rfl rfl (kl_F_10 hx) rfl rfl (b_Ta_failHere_0 hx ?_)
    refine ⟨fun c45 => ?_, fun c45 => ?_⟩
    · have h := h.1 c45
      intro _
      show z_U X 11 m_Pa_readStep 16 [(2, (0, r0)), (0, (2, 9)), (1, (2, ((p1 : Nat) : Int)))] [(0, 0)] N σ (z_up (z_up g0 10 9 1) 10 10 (g0 10 6)) Q
      exact z_zret d_Pa_readStep_16 rfl (by decide) (by decide) (by decide) ⟨rfl, rfl, h⟩
    · have h := h.2 c45
      intro _
      show z_U X 11 m_Pa_readStep 16 [(2, (0, r0)), (0, (2, 9)), (1, (2, ((p1 : Nat) : Int)))] [(0, 0)] N σ (z_up (z_up g0 10 9 2) 10 10 (g0 10 6)) Q
      exact z_zret d_Pa_readStep_16 rfl (by decide) (by decide) (by decide) ⟨rfl, rfl, h⟩
theorem d_Pa_readStudy_0 : decode (z_c m_Pa_readStudy) 0 = .ok (.aload_n 1, 1) := by decide +kernel
theorem d_Pa_readStudy_1 : decode (z_c m_Pa_readStudy) 1 = .ok (.invokevirtual 29, 3) := by decide +kernel
theorem d_Pa_readStudy_4 : decode (z_c m_Pa_readStudy) 4 = .ok (.aload_n 0, 1) := by decide +kernel
theorem d_Pa_readStudy_5 : decode (z_c m_Pa_readStudy) 5 = .ok (.iconst 0, 1) := by decide +kernel
theorem d_Pa_readStudy_6 : decode (z_c m_Pa_readStudy) 6 = .ok (.putfield 34, 3) := by decide +kernel
theorem d_Pa_readStudy_9 : decode (z_c m_Pa_readStudy) 9 = .ok (.aload_n 0, 1) := by decide +kernel
theorem d_Pa_readStudy_10 : decode (z_c m_Pa_readStudy) 10 = .ok (.iconst 0, 1) := by decide +kernel
theorem d_Pa_readStudy_11 : decode (z_c m_Pa_readStudy) 11 = .ok (.putfield 38, 3) := by decide +kernel
theorem d_Pa_readStudy_14 : decode (z_c m_Pa_readStudy) 14 = .ok (.aload_n 0, 1) := by decide +kernel
theorem d_Pa_readStudy_15 : decode (z_c m_Pa_readStudy) 15 = .ok (.iconst 0, 1) := by decide +kernel
theorem d_Pa_readStudy_16 : decode (z_c m_Pa_readStudy) 16 = .ok (.putfield 41, 3) := by decide +kernel
theorem d_Pa_readStudy_19 : decode (z_c m_Pa_readStudy) 19 = .ok (.aload_n 0, 1) := by decide +kernel
theorem d_Pa_readStudy_20 : decode (z_c m_Pa_readStudy) 20 = .ok (.getfield 12, 3) := by decide +kernel
theorem d_Pa_readStudy_23 : decode (z_c m_Pa_readStudy) 23 = .ok (.iload_n 2, 1) := by decide +kernel
theorem d_Pa_readStudy_24 : decode (z_c m_Pa_readStudy) 24 = .ok (.invokevirtual 44, 3) := by decide +kernel
theorem d_Pa_readStudy_27 : decode (z_c m_Pa_readStudy) 27 = .ok (.iconst 0, 1) := by decide +kernel
theorem d_Pa_readStudy_28 : decode (z_c m_Pa_readStudy) 28 = .ok (.istore_n 3, 1) := by decide +kernel
theorem d_Pa_readStudy_29 : decode (z_c m_Pa_readStudy) 29 = .ok (.iload_n 3, 1) := by decide +kernel
theorem d_Pa_readStudy_30 : decode (z_c m_Pa_readStudy) 30 = .ok (.iload_n 2, 1) := by decide +kernel
theorem d_Pa_readStudy_31 : decode (z_c m_Pa_readStudy) 31 = .ok (.if_icmp .ge 29, 3) := by decide +kernel
theorem d_Pa_readStudy_34 : decode (z_c m_Pa_readStudy) 34 = .ok (.aload_n 0, 1) := by decide +kernel
theorem d_Pa_readStudy_35 : decode (z_c m_Pa_readStudy) 35 = .ok (.getfield 12, 3) := by decide +kernel
theorem d_Pa_readStudy_38 : decode (z_c m_Pa_readStudy) 38 = .ok (.invokevirtual 48, 3) := by decide +kernel
theorem d_Pa_readStudy_41 : decode (z_c m_Pa_readStudy) 41 = .ok (.ifCond .ne 19, 3) := by decide +kernel
theorem d_Pa_readStudy_44 : decode (z_c m_Pa_readStudy) 44 = .ok (.aload_n 0, 1) := by decide +kernel
theorem d_Pa_readStudy_45 : decode (z_c m_Pa_readStudy) 45 = .ok (.aload_n 1, 1) := by decide +kernel
theorem d_Pa_readStudy_46 : decode (z_c m_Pa_readStudy) 46 = .ok (.invokevirtual 52, 3) := by decide +kernel
theorem d_Pa_readStudy_49 : decode (z_c m_Pa_readStudy) 49 = .ok (.ifCond .ne 5, 3) := by decide +kernel
theorem d_Pa_readStudy_52 : decode (z_c m_Pa_readStudy) 52 = .ok (.iconst 0, 1) := by decide +kernel
theorem d_Pa_readStudy_53 : decode (z_c m_Pa_readStudy) 53 = .ok (.ireturn, 1) := by decide +kernel
theorem d_Pa_readStudy_54 : decode (z_c m_Pa_readStudy) 54 = .ok (.iinc 3 1, 3) := by decide +kernel
theorem d_Pa_readStudy_57 : decode (z_c m_Pa_readStudy) 57 = .ok (.goto (-28), 3) := by decide +kernel
theorem d_Pa_readStudy_60 : decode (z_c m_Pa_readStudy) 60 = .ok (.aload_n 1, 1) := by decide +kernel
theorem d_Pa_readStudy_61 : decode (z_c m_Pa_readStudy) 61 = .ok (.getfield 56, 3) := by decide +kernel
theorem d_Pa_readStudy_64 : decode (z_c m_Pa_readStudy) 64 = .ok (.aload_n 1, 1) := by decide +kernel
theorem d_Pa_readStudy_65 : decode (z_c m_Pa_readStudy) 65 = .ok (.getfield 60, 3) := by decide +kernel
theorem d_Pa_readStudy_68 : decode (z_c m_Pa_readStudy) 68 = .ok (.invokevirtual 64, 3) := by decide +kernel
theorem d_Pa_readStudy_71 : decode (z_c m_Pa_readStudy) 71 = .ok (.iconst 1, 1) := by decide +kernel
theorem d_Pa_readStudy_72 : decode (z_c m_Pa_readStudy) 72 = .ok (.ireturn, 1) := by decide +kernel
abbrev L_Pa_readStudy_29 (X : z_X) (N : Nat) (σ : z_G) (x2 x3 : Int) (p1 : Nat) (g : z_G) (Q : z_P) : Prop := z_U X 12 m_Pa_readStudy 29 [(0, (2, 9)), (1, (2, ((p1 : Nat) : Int))), (2, (0, x2)), (3, (0, x3))] [] N σ g Q
set_option maxRecDepth 8000 in
theorem b_Pa_readStudy_0 {X : z_X} {N : Nat} {σ g : z_G} {Q : z_P} {a2 : Int} {p1 : Nat} (hx : z_lay X N σ 0 z_SF z_RF) (hp1 : z_lay X N σ p1 z_SBd z_RBd) (h : z_O X 4 m_Bd_clear [(2, ((p1 : Nat) : Int))] N σ g (fun r0 g0 => (z_O X 3 m_Ta_start [(2, 10), (0, a2)] N σ (z_up (z_up (z_up g0 9 2 0) 9 3 0) 9 4 0) (fun r1 g1 => L_Pa_readStudy_29 X N σ a2 0 p1 g1 Q)))) : z_O X 12 m_Pa_readStudy [(2, 9), (2, ((p1 : Nat) : Int)), (0, a2)] N σ g Q := by
  refine z_Oenter mi_Pa_readStudy rfl (fun _ => ?_)
  show z_U X 12 m_Pa_readStudy 0 [(0, (2, 9)), (1, (2, ((p1 : Nat) : Int))), (2, (0, a2))] [] N σ g Q
  refine z_aload_n (i := 1) (c := p1) 1 d_Pa_readStudy_0 rfl rfl rfl ?_
  refine z_cV (c := p1) (as := []) (d' := 4) (st := []) d_Pa_readStudy_1 mi_Bd_clear ml_Pa_29 mv_Bd_clear se_Bd_clear rfl rfl rfl rfl (ks_Bd_0 hp1) rfl rfl (kl_Bd_0 hp1) rfl rfl (z_Omono h (fun r0 g0 _ h hro => ?_))
  show z_U X 12 m_Pa_readStudy 4 [(0, (2, 9)), (1, (2, ((p1 : Nat) : Int))), (2, (0, a2))] [] N σ g0 Q
  refine z_aload_n (i := 0) (c := 9) 0 d_Pa_readStudy_4 rfl rfl rfl ?_
  refine z_iconst (n := 0) d_Pa_readStudy_5 (by decide) ?_
  refine z_putz (c := 9) (kI := 2) d_Pa_readStudy_6 fd_Pa_oddsTold fl_Pa_34 pf_Pa_oddsTold rfl rfl rfl rfl (ks_F_9 hx) (kl_F_9 hx) (by decide) ?_
  refine z_aload_n (i := 0) (c := 9) 0 d_Pa_readStudy_9 rfl rfl rfl ?_
  refine z_iconst (n := 0) d_Pa_readStudy_10 (by decide) ?_
  refine z_putz (c := 9) (kI := 3) d_Pa_readStudy_11 fd_Pa_orderTold fl_Pa_38 pf_Pa_orderTold rfl rfl rfl rfl (ks_F_9 hx) (kl_F_9 hx) (by decide) ?_
  refine z_aload_n (i := 0) (c := 9) 0 d_Pa_readStudy_14 rfl rfl rfl ?_
  refine z_iconst (n := 0) d_Pa_readStudy_15 (by decide) ?_
  refine z_putz (c := 9) (kI := 4) d_Pa_readStudy_16 fd_Pa_hereTold fl_Pa_41 pf_Pa_hereTold rfl rfl rfl rfl (ks_F_9 hx) (kl_F_9 hx) (by decide) ?_
  refine z_aload_n (i := 0) (c := 9) 0 d_Pa_readStudy_19 rfl rfl rfl ?_
  refine z_getr (c := 9) (kI := 0) (r2 := 10) d_Pa_readStudy_20 fd_Pa_tape fl_Pa_12 rfl rfl rfl (ks_F_9 hx) (kl_F_9 hx) (kr_F_9_0 hx) ?_
  refine z_iload_n (i := 2) 2 d_Pa_readStudy_23 rfl rfl ?_
  refine z_cV (c := 10) (as := [(0, a2)]) (d' := 3) (st := []) d_Pa_readStudy_24 mi_Ta_start ml_Pa_44 mv_Ta_start se_Ta_start rfl rfl rfl rfl (ks_F_10 hx) rfl rfl (kl_F_10 hx) rfl rfl (z_Omono h (fun r1 g1 _ h hro => ?_))
  show z_U X 12 m_Pa_readStudy 27 [(0, (2, 9)), (1, (2, ((p1 : Nat) : Int))), (2, (0, a2))] [] N σ g1 Q
  refine z_iconst (n := 0) d_Pa_readStudy_27 (by decide) ?_
  refine z_istore_n (i := 3) (ls' := [(3, (0, 0)), (0, (2, 9)), (1, (2, ((p1 : Nat) : Int))), (2, (0, a2))]) d_Pa_readStudy_28 rfl rfl rfl ?_
  refine z_sub (ls' := [(0, (2, 9)), (1, (2, ((p1 : Nat) : Int))), (2, (0, a2)), (3, (0, 0))]) [1, 2, 3, 0] rfl ?_
  exact h
set_option maxRecDepth 8000 in
theorem b_Pa_readStudy_29 {X : z_X} {N : Nat} {σ g : z_G} {Q : z_P} {x2 x3 : Int} {p1 : Nat} (hx : z_lay X N σ 0 z_SF z_RF) (hp1 : z_lay X N σ p1 z_SBd z_RBd) (h : ((x2 ≤ x3) → (z_O X 3 m_Vi_startAt [(2, ((p1 + 6 : Nat) : Int)), (2, ((p1 + 1 : Nat) : Int))] N σ g (fun r0 g0 => Q 1 g0))) ∧ (¬ (x2 ≤ x3) → ((((g 10 4) = 0) → (z_O X 3 m_Vi_startAt [(2, ((p1 + 6 : Nat) : Int)), (2, ((p1 + 1 : Nat) : Int))] N σ g (fun r1 g1 => Q 1 g1))) ∧ (¬ ((g 10 4) = 0) → (z_O X 11 m_Pa_readPart [(2, 9), (2, ((p1 : Nat) : Int))] N σ g (fun r2 g2 => (r2 = 0 ∨ r2 = 1) → (((r2 = 0) → Q 0 g2) ∧ (¬ (r2 = 0) → ((-2147483648 ≤ (x3 + 1) ∧ (x3 + 1) ≤ 2147483647) ∧ L_Pa_readStudy_29 X N σ x2 (x3 + 1) p1 g2 Q))))))))) : L_Pa_readStudy_29 X N σ x2 x3 p1 g Q := by
  refine z_iload_n (i := 3) 3 d_Pa_readStudy_29 rfl rfl ?_
  refine z_iload_n (i := 2) 2 d_Pa_readStudy_30 rfl rfl ?_
  refine z_icmp_ge (tgt := 60) d_Pa_readStudy_31 (by decide) (fun c1 => ?_) (fun c1 => ?_)
  · have h := h.1 c1
    refine z_aload_n (i := 1) (c := p1) 1 d_Pa_readStudy_60 rfl rfl rfl ?_
    refine z_getr (c := p1) (kI := 4) (r2 := ((p1 + 6 : Nat) : Int)) d_Pa_readStudy_61 fd_Bd_visits fl_Pa_56 rfl rfl rfl (ks_Bd_0 hp1) (kl_Bd_0 hp1) (kr_Bd_0_4 hp1) ?_
    refine z_aload_n (i := 1) (c := p1) 1 d_Pa_readStudy_64 rfl rfl rfl ?_
    refine z_getr (c := p1) (kI := 2) (r2 := ((p1 + 1 : Nat) : Int)) d_Pa_readStudy_65 fd_Bd_walker fl_Pa_60 rfl rfl rfl (ks_Bd_0 hp1) (kl_Bd_0 hp1) (kr_Bd_0_2 hp1) ?_
    refine z_cV (c := (p1 + 6)) (as := [(2, ((p1 + 1 : Nat) : Int))]) (d' := 3) (st := []) d_Pa_readStudy_68 mi_Vi_startAt ml_Pa_64 mv_Vi_startAt se_Vi_startAt rfl rfl rfl rfl (ks_Bd_6 hp1) rfl rfl (kl_Bd_6 hp1) rfl rfl (z_Omono h (fun r0 g0 _ h hro => ?_))
    show z_U X 12 m_Pa_readStudy 71 [(0, (2, 9)), (1, (2, ((p1 : Nat) : Int))), (2, (0, x2)), (3, (0, x3))] [] N σ g0 Q
    refine z_iconst (n := 1) d_Pa_readStudy_71 (by decide) ?_
    exact z_zret d_Pa_readStudy_72 rfl (by decide) (by decide) (by decide) ⟨rfl, rfl, h⟩
  · have h := h.2 c1
    refine z_aload_n (i := 0) (c := 9) 0 d_Pa_readStudy_34 rfl rfl rfl ?_
    refine z_getr (c := 9) (kI := 0) (r2 := 10) d_Pa_readStudy_35 fd_Pa_tape fl_Pa_12 rfl rfl rfl (ks_F_9 hx) (kl_F_9 hx) (kr_F_9_0 hx) ?_
    refine z_cV (c := 10) (as := []) (d' := 1) (st := []) d_Pa_readStudy_38 mi_Ta_isEnded ml_Pa_48 mv_Ta_isEnded se_Ta_isEnded rfl rfl rfl rfl (ks_F_10 hx) rfl rfl (kl_F_10 hx) rfl rfl (b_Ta_isEnded_0 hx ?_)
    refine ⟨fun c2 => ?_, fun c2 => ?_⟩
    · have h := h.1 c2
      intro _
      show z_U X 12 m_Pa_readStudy 41 [(0, (2, 9)), (1, (2, ((p1 : Nat) : Int))), (2, (0, x2)), (3, (0, x3))] [(0, 1)] N σ g Q
      refine z_if_ne (tgt := 60) d_Pa_readStudy_41 (by decide) (fun _ => ?_) (fun c => absurd c (by decide))
      refine z_aload_n (i := 1) (c := p1) 1 d_Pa_readStudy_60 rfl rfl rfl ?_
      refine z_getr (c := p1) (kI := 4) (r2 := ((p1 + 6 : Nat) : Int)) d_Pa_readStudy_61 fd_Bd_visits fl_Pa_56 rfl rfl rfl (ks_Bd_0 hp1) (kl_Bd_0 hp1) (kr_Bd_0_4 hp1) ?_
      refine z_aload_n (i := 1) (c := p1) 1 d_Pa_readStudy_64 rfl rfl rfl ?_
      refine z_getr (c := p1) (kI := 2) (r2 := ((p1 + 1 : Nat) : Int)) d_Pa_readStudy_65 fd_Bd_walker fl_Pa_60 rfl rfl rfl (ks_Bd_0 hp1) (kl_Bd_0 hp1) (kr_Bd_0_2 hp1) ?_
      refine z_cV (c := (p1 + 6)) (as := [(2, ((p1 + 1 : Nat) : Int))]) (d' := 3) (st := []) d_Pa_readStudy_68 mi_Vi_startAt ml_Pa_64 mv_Vi_startAt se_Vi_startAt rfl rfl rfl rfl (ks_Bd_6 hp1) rfl rfl (kl_Bd_6 hp1) rfl rfl (z_Omono h (fun r1 g1 _ h hro => ?_))
      show z_U X 12 m_Pa_readStudy 71 [(0, (2, 9)), (1, (2, ((p1 : Nat) : Int))), (2, (0, x2)), (3, (0, x3))] [] N σ g1 Q
      refine z_iconst (n := 1) d_Pa_readStudy_71 (by decide) ?_
      exact z_zret d_Pa_readStudy_72 rfl (by decide) (by decide) (by decide) ⟨rfl, rfl, h⟩
    · have h := h.2 c2
      intro _
      show z_U X 12 m_Pa_readStudy 41 [(0, (2, 9)), (1, (2, ((p1 : Nat) : Int))), (2, (0, x2)), (3, (0, x3))] [(0, 0)] N σ g Q
      refine z_if_ne (tgt := 60) d_Pa_readStudy_41 (by decide) (fun c => absurd (by decide) c) (fun _ => ?_)
      refine z_aload_n (i := 0) (c := 9) 0 d_Pa_readStudy_44 rfl rfl rfl ?_
      refine z_aload_n (i := 1) (c := p1) 1 d_Pa_readStudy_45 rfl rfl rfl ?_
      refine z_cV (c := 9) (as := [(2, ((p1 : Nat) : Int))]) (d' := 11) (st := []) d_Pa_readStudy_46 mi_Pa_readPart ml_Pa_52 mv_Pa_readPart se_Pa_readPart rfl rfl rfl rfl (ks_F_9 hx) rfl rfl (kl_F_9 hx) rfl rfl (z_Omono h (fun r2 g2 _ h hro => ?_))
      have h := h (z_b01 hro)
      have hzr2 := z_b01 hro
      show z_U X 12 m_Pa_readStudy 49 [(0, (2, 9)), (1, (2, ((p1 : Nat) : Int))), (2, (0, x2)), (3, (0, x3))] [(0, r2)] N σ g2 Q
      refine z_if_ne (tgt := 54) d_Pa_readStudy_49 (by decide) (fun c3 => ?_) (fun c3 => ?_)
      · have h := h.2 c3
        obtain ⟨c4, h⟩ := h
        refine z_iinc (n := 1) (ls' := [(3, (0, x3 + 1)), (0, (2, 9)), (1, (2, ((p1 : Nat) : Int))), (2, (0, x2))]) 3 d_Pa_readStudy_54 rfl c4 rfl rfl ?_
        refine z_goto (tgt := 29) d_Pa_readStudy_57 (by decide) ?_
        refine z_sub (ls' := [(0, (2, 9)), (1, (2, ((p1 : Nat) : Int))), (2, (0, x2)), (3, (0, x3 + 1))]) [1, 2, 3, 0] rfl ?_
        exact h
      · have h := h.1 c3
        refine z_iconst (n := 0) d_Pa_readStudy_52 (by decide) ?_
        exact z_zret d_Pa_readStudy_53 rfl (by decide) (by decide) (by decide) ⟨rfl, rfl, h⟩
theorem d_Pa_readTours_0 : decode (z_c m_Pa_readTours) 0 = .ok (.aload_n 1, 1) := by decide +kernel
theorem d_Pa_readTours_1 : decode (z_c m_Pa_readTours) 1 = .ok (.invokevirtual 176, 3) := by decide +kernel
theorem d_Pa_readTours_4 : decode (z_c m_Pa_readTours) 4 = .ok (.aload_n 0, 1) := by decide +kernel
theorem d_Pa_readTours_5 : decode (z_c m_Pa_readTours) 5 = .ok (.iconst 0, 1) := by decide +kernel
theorem d_Pa_readTours_6 : decode (z_c m_Pa_readTours) 6 = .ok (.putfield 179, 3) := by decide +kernel
theorem d_Pa_readTours_9 : decode (z_c m_Pa_readTours) 9 = .ok (.aload_n 0, 1) := by decide +kernel
theorem d_Pa_readTours_10 : decode (z_c m_Pa_readTours) 10 = .ok (.getfield 12, 3) := by decide +kernel
theorem d_Pa_readTours_13 : decode (z_c m_Pa_readTours) 13 = .ok (.iload_n 2, 1) := by decide +kernel
theorem d_Pa_readTours_14 : decode (z_c m_Pa_readTours) 14 = .ok (.invokevirtual 44, 3) := by decide +kernel
theorem d_Pa_readTours_17 : decode (z_c m_Pa_readTours) 17 = .ok (.iconst 0, 1) := by decide +kernel
theorem d_Pa_readTours_18 : decode (z_c m_Pa_readTours) 18 = .ok (.istore_n 3, 1) := by decide +kernel
theorem d_Pa_readTours_19 : decode (z_c m_Pa_readTours) 19 = .ok (.iload_n 3, 1) := by decide +kernel
theorem d_Pa_readTours_20 : decode (z_c m_Pa_readTours) 20 = .ok (.iload_n 2, 1) := by decide +kernel
theorem d_Pa_readTours_21 : decode (z_c m_Pa_readTours) 21 = .ok (.if_icmp .ge 71, 3) := by decide +kernel
theorem d_Pa_readTours_24 : decode (z_c m_Pa_readTours) 24 = .ok (.aload_n 0, 1) := by decide +kernel
theorem d_Pa_readTours_25 : decode (z_c m_Pa_readTours) 25 = .ok (.getfield 12, 3) := by decide +kernel
theorem d_Pa_readTours_28 : decode (z_c m_Pa_readTours) 28 = .ok (.invokevirtual 48, 3) := by decide +kernel
theorem d_Pa_readTours_31 : decode (z_c m_Pa_readTours) 31 = .ok (.ifCond .ne 61, 3) := by decide +kernel
theorem d_Pa_readTours_34 : decode (z_c m_Pa_readTours) 34 = .ok (.aload_n 0, 1) := by decide +kernel
theorem d_Pa_readTours_35 : decode (z_c m_Pa_readTours) 35 = .ok (.getfield 179, 3) := by decide +kernel
theorem d_Pa_readTours_38 : decode (z_c m_Pa_readTours) 38 = .ok (.ifCond .le 19, 3) := by decide +kernel
theorem d_Pa_readTours_41 : decode (z_c m_Pa_readTours) 41 = .ok (.aload_n 0, 1) := by decide +kernel
theorem d_Pa_readTours_42 : decode (z_c m_Pa_readTours) 42 = .ok (.getfield 12, 3) := by decide +kernel
theorem d_Pa_readTours_45 : decode (z_c m_Pa_readTours) 45 = .ok (.ldc 182, 2) := by decide +kernel
theorem d_Pa_readTours_47 : decode (z_c m_Pa_readTours) 47 = .ok (.invokevirtual 72, 3) := by decide +kernel
theorem d_Pa_readTours_50 : decode (z_c m_Pa_readTours) 50 = .ok (.ifCond .eq 7, 3) := by decide +kernel
theorem d_Pa_readTours_53 : decode (z_c m_Pa_readTours) 53 = .ok (.iconst 1, 1) := by decide +kernel
theorem d_Pa_readTours_54 : decode (z_c m_Pa_readTours) 54 = .ok (.goto 4, 3) := by decide +kernel
theorem d_Pa_readTours_57 : decode (z_c m_Pa_readTours) 57 = .ok (.iconst 0, 1) := by decide +kernel
theorem d_Pa_readTours_58 : decode (z_c m_Pa_readTours) 58 = .ok (.istore 4, 2) := by decide +kernel
theorem d_Pa_readTours_60 : decode (z_c m_Pa_readTours) 60 = .ok (.iload 4, 2) := by decide +kernel
theorem d_Pa_readTours_62 : decode (z_c m_Pa_readTours) 62 = .ok (.ifCond .eq 14, 3) := by decide +kernel
theorem d_Pa_readTours_65 : decode (z_c m_Pa_readTours) 65 = .ok (.aload_n 0, 1) := by decide +kernel
theorem d_Pa_readTours_66 : decode (z_c m_Pa_readTours) 66 = .ok (.aload_n 1, 1) := by decide +kernel
theorem d_Pa_readTours_67 : decode (z_c m_Pa_readTours) 67 = .ok (.invokevirtual 184, 3) := by decide +kernel
theorem d_Pa_readTours_70 : decode (z_c m_Pa_readTours) 70 = .ok (.ifCond .eq 14, 3) := by decide +kernel
theorem d_Pa_readTours_73 : decode (z_c m_Pa_readTours) 73 = .ok (.goto 13, 3) := by decide +kernel
theorem d_Pa_readTours_76 : decode (z_c m_Pa_readTours) 76 = .ok (.aload_n 0, 1) := by decide +kernel
theorem d_Pa_readTours_77 : decode (z_c m_Pa_readTours) 77 = .ok (.aload_n 1, 1) := by decide +kernel
theorem d_Pa_readTours_78 : decode (z_c m_Pa_readTours) 78 = .ok (.invokevirtual 188, 3) := by decide +kernel
theorem d_Pa_readTours_81 : decode (z_c m_Pa_readTours) 81 = .ok (.ifCond .ne 5, 3) := by decide +kernel
theorem d_Pa_readTours_84 : decode (z_c m_Pa_readTours) 84 = .ok (.iconst 0, 1) := by decide +kernel
theorem d_Pa_readTours_85 : decode (z_c m_Pa_readTours) 85 = .ok (.ireturn, 1) := by decide +kernel
theorem d_Pa_readTours_86 : decode (z_c m_Pa_readTours) 86 = .ok (.iinc 3 1, 3) := by decide +kernel
theorem d_Pa_readTours_89 : decode (z_c m_Pa_readTours) 89 = .ok (.goto (-70), 3) := by decide +kernel
theorem d_Pa_readTours_92 : decode (z_c m_Pa_readTours) 92 = .ok (.aload_n 0, 1) := by decide +kernel
theorem d_Pa_readTours_93 : decode (z_c m_Pa_readTours) 93 = .ok (.getfield 179, 3) := by decide +kernel
theorem d_Pa_readTours_96 : decode (z_c m_Pa_readTours) 96 = .ok (.ifCond .le 11, 3) := by decide +kernel
theorem d_Pa_readTours_99 : decode (z_c m_Pa_readTours) 99 = .ok (.aload_n 0, 1) := by decide +kernel
theorem d_Pa_readTours_100 : decode (z_c m_Pa_readTours) 100 = .ok (.getfield 12, 3) := by decide +kernel
theorem d_Pa_readTours_103 : decode (z_c m_Pa_readTours) 103 = .ok (.invokevirtual 98, 3) := by decide +kernel
theorem d_Pa_readTours_106 : decode (z_c m_Pa_readTours) 106 = .ok (.ireturn, 1) := by decide +kernel
theorem d_Pa_readTours_107 : decode (z_c m_Pa_readTours) 107 = .ok (.aload_n 1, 1) := by decide +kernel
theorem d_Pa_readTours_108 : decode (z_c m_Pa_readTours) 108 = .ok (.iconst 1, 1) := by decide +kernel
theorem d_Pa_readTours_109 : decode (z_c m_Pa_readTours) 109 = .ok (.putfield 191, 3) := by decide +kernel
theorem d_Pa_readTours_112 : decode (z_c m_Pa_readTours) 112 = .ok (.iconst 1, 1) := by decide +kernel
theorem d_Pa_readTours_113 : decode (z_c m_Pa_readTours) 113 = .ok (.ireturn, 1) := by decide +kernel
abbrev L_Pa_readTours_19 (X : z_X) (N : Nat) (σ : z_G) (x2 x3 : Int) (p1 : Nat) (g : z_G) (Q : z_P) : Prop := z_U X 12 m_Pa_readTours 19 [(0, (2, 9)), (1, (2, ((p1 : Nat) : Int))), (2, (0, x2)), (3, (0, x3))] [] N σ g Q
set_option maxRecDepth 8000 in
theorem b_Pa_readTours_0 {X : z_X} {N : Nat} {σ g : z_G} {Q : z_P} {a2 : Int} {p1 : Nat} (hx : z_lay X N σ 0 z_SF z_RF) (hp1 : z_lay X N σ p1 z_SPg z_RPg) (h : z_O X 1 m_Pg_clear [(2, ((p1 : Nat) : Int))] N σ g (fun r0 g0 => (z_O X 3 m_Ta_start [(2, 10), (0, a2)] N σ (z_up g0 9 6 0) (fun r1 g1 => L_Pa_readTours_19 X N σ a2 0 p1 g1 Q)))) : z_O X 12 m_Pa_readTours [(2, 9), (2, ((p1 : Nat) : Int)), (0, a2)] N σ g Q := by
  refine z_Oenter mi_Pa_readTours rfl (fun _ => ?_)
  show z_U X 12 m_Pa_readTours 0 [(0, (2, 9)), (1, (2, ((p1 : Nat) : Int))), (2, (0, a2))] [] N σ g Q
  refine z_aload_n (i := 1) (c := p1) 1 d_Pa_readTours_0 rfl rfl rfl ?_
  refine z_cV (c := p1) (as := []) (d' := 1) (st := []) d_Pa_readTours_1 mi_Pg_clear ml_Pa_176 mv_Pg_clear se_Pg_clear rfl rfl rfl rfl (ks_Pg_0 hp1) rfl rfl (kl_Pg_0 hp1) rfl rfl (z_Omono h (fun r0 g0 _ h hro => ?_))
  show z_U X 12 m_Pa_readTours 4 [(0, (2, 9)), (1, (2, ((p1 : Nat) : Int))), (2, (0, a2))] [] N σ g0 Q
  refine z_aload_n (i := 0) (c := 9) 0 d_Pa_readTours_4 rfl rfl rfl ?_
  refine z_iconst (n := 0) d_Pa_readTours_5 (by decide) ?_
  refine z_puti (c := 9) (kI := 6) d_Pa_readTours_6 fd_Pa_open fl_Pa_179 pf_Pa_open rfl rfl rfl rfl (ks_F_9 hx) (kl_F_9 hx) ?_
  refine z_aload_n (i := 0) (c := 9) 0 d_Pa_readTours_9 rfl rfl rfl ?_
  refine z_getr (c := 9) (kI := 0) (r2 := 10) d_Pa_readTours_10 fd_Pa_tape fl_Pa_12 rfl rfl rfl (ks_F_9 hx) (kl_F_9 hx) (kr_F_9_0 hx) ?_
  refine z_iload_n (i := 2) 2 d_Pa_readTours_13 rfl rfl ?_
  refine z_cV (c := 10) (as := [(0, a2)]) (d' := 3) (st := []) d_Pa_readTours_14 mi_Ta_start ml_Pa_44 mv_Ta_start se_Ta_start rfl rfl rfl rfl (ks_F_10 hx) rfl rfl (kl_F_10 hx) rfl rfl (z_Omono h (fun r1 g1 _ h hro => ?_))
  show z_U X 12 m_Pa_readTours 17 [(0, (2, 9)), (1, (2, ((p1 : Nat) : Int))), (2, (0, a2))] [] N σ g1 Q
  refine z_iconst (n := 0) d_Pa_readTours_17 (by decide) ?_
  refine z_istore_n (i := 3) (ls' := [(3, (0, 0)), (0, (2, 9)), (1, (2, ((p1 : Nat) : Int))), (2, (0, a2))]) d_Pa_readTours_18 rfl rfl rfl ?_
  refine z_sub (ls' := [(0, (2, 9)), (1, (2, ((p1 : Nat) : Int))), (2, (0, a2)), (3, (0, 0))]) [1, 2, 3, 0] rfl ?_
  exact h
set_option maxRecDepth 8000 in
theorem b_Pa_readTours_19 {X : z_X} {N : Nat} {σ g : z_G} {Q : z_P} {x2 x3 : Int} {p1 : Nat} (hx : z_lay X N σ 0 z_SF z_RF) (hp1 : z_lay X N σ p1 z_SPg z_RPg) (h : ((x2 ≤ x3) → ((((g 9 6) ≤ 0) → Q 1 (z_up g p1 0 1)) ∧ (¬ ((g 9 6) ≤ 0) → ((((g 10 4) = 4) → Q 0 (z_up (z_up g 10 9 1) 10 10 (g 10 6))) ∧ (¬ ((g 10 4) = 4) → Q 0 (z_up (z_up g 10 9 2) 10 10 (g 10 6))))))) ∧ (¬ (x2 ≤ x3) → ((((g 10 4) = 0) → ((((g 9 6) ≤ 0) → Q 1 (z_up g p1 0 1)) ∧ (¬ ((g 9 6) ≤ 0) → ((((g 10 4) = 4) → Q 0 (z_up (z_up g 10 9 1) 10 10 (g 10 6))) ∧ (¬ ((g 10 4) = 4) → Q 0 (z_up (z_up g 10 9 2) 10 10 (g 10 6))))))) ∧ (¬ ((g 10 4) = 0) → ((((g 9 6) ≤ 0) → (z_O X 11 m_Pa_readStep [(2, 9), (2, ((p1 : Nat) : Int))] N σ g (fun r0 g0 => (r0 = 0 ∨ r0 = 1) → (((r0 = 0) → Q 0 g0) ∧ (¬ (r0 = 0) → ((-2147483648 ≤ (x3 + 1) ∧ (x3 + 1) ≤ 2147483647) ∧ L_Pa_readTours_19 X N σ x2 (x3 + 1) p1 g0 Q)))))) ∧ (¬ ((g 9 6) ≤ 0) → (z_O X 7 m_Ta_isWord [(2, 10), (4, 6)] N σ g (fun r1 g1 => (r1 = 0 ∨ r1 = 1) → (((r1 = 0) → (z_O X 11 m_Pa_readStep [(2, 9), (2, ((p1 : Nat) : Int))] N σ g1 (fun r2 g2 => (r2 = 0 ∨ r2 = 1) → (((r2 = 0) → Q 0 g2) ∧ (¬ (r2 = 0) → ((-2147483648 ≤ (x3 + 1) ∧ (x3 + 1) ≤ 2147483647) ∧ L_Pa_readTours_19 X N σ x2 (x3 + 1) p1 g2 Q)))))) ∧ (¬ (r1 = 0) → (z_O X 4 m_Pa_readEnd [(2, 9), (2, ((p1 : Nat) : Int))] N σ g1 (fun r3 g3 => (r3 = 0 ∨ r3 = 1) → (((r3 = 0) → Q 0 g3) ∧ (¬ (r3 = 0) → ((-2147483648 ≤ (x3 + 1) ∧ (x3 + 1) ≤ 2147483647) ∧ L_Pa_readTours_19 X N σ x2 (x3 + 1) p1 g3 Q))))))))))))))) : L_Pa_readTours_19 X N σ x2 x3 p1 g Q := by
  refine z_iload_n (i := 3) 3 d_Pa_readTours_19 rfl rfl ?_
  refine z_iload_n (i := 2) 2 d_Pa_readTours_20 rfl rfl ?_
  refine z_icmp_ge (tgt := 92) d_Pa_readTours_21 (by decide) (fun c1 => ?_) (fun c1 => ?_)
  · have h := h.1 c1
    refine z_aload_n (i := 0) (c := 9) 0 d_Pa_readTours_92 rfl rfl rfl ?_
    refine z_geti (c := 9) (kI := 6) d_Pa_readTours_93 fd_Pa_open fl_Pa_179 (Or.inl rfl) rfl rfl (ks_F_9 hx) (kl_F_9 hx) ?_
    refine z_if_le (tgt := 107) d_Pa_readTours_96 (by decide) (fun c2 => ?_) (fun c2 => ?_)
    · have h := h.1 c2
      refine z_aload_n (i := 1) (c := p1) 1 d_Pa_readTours_107 rfl rfl rfl ?_
      refine z_iconst (n := 1) d_Pa_readTours_108 (by decide) ?_
      refine z_putz (c := p1) (kI := 0) d_Pa_readTours_109 fd_Pg_given fl_Pa_191 pf_Pg_given rfl rfl rfl rfl (ks_Pg_0 hp1) (kl_Pg_0 hp1) (by decide) ?_
      refine z_iconst (n := 1) d_Pa_readTours_112 (by decide) ?_
      exact z_zret d_Pa_readTours_113 rfl (by decide) (by decide) (by decide) ⟨rfl, rfl, h⟩
    · have h := h.2 c2
      refine z_aload_n (i := 0) (c := 9) 0 d_Pa_readTours_99 rfl rfl rfl ?_
      refine z_getr (c := 9) (kI := 0) (r2 := 10) d_Pa_readTours_100 fd_Pa_tape fl_Pa_12 rfl rfl rfl (ks_F_9 hx) (kl_F_9 hx) (kr_F_9_0 hx) ?_
      refine z_cV (c := 10) (as := []) (d' := 2) (st := []) d_Pa_readTours_103 mi_Ta_failHere ml_Pa_98 mv_Ta_failHere se_Ta_failHere rfl rfl rfl rfl (ks_F_10 hx) rfl rfl (kl_F_10 hx) rfl rfl (b_Ta_failHere_0 hx ?_)
      refine ⟨fun c3 => ?_, fun c3 => ?_⟩
      · have h := h.1 c3
        intro _
        show z_U X 12 m_Pa_readTours 106 [(0, (2, 9)), (1, (2, ((p1 : Nat) : Int))), (2, (0, x2)), (3, (0, x3))] [(0, 0)] N σ (z_up (z_up g 10 9 1) 10 10 (g 10 6)) Q
        exact z_zret d_Pa_readTours_106 rfl (by decide) (by decide) (by decide) ⟨rfl, rfl, h⟩
      · have h := h.2 c3
        intro _
        show z_U X 12 m_Pa_readTours 106 [(0, (2, 9)), (1, (2, ((p1 : Nat) : Int))), (2, (0, x2)), (3, (0, x3))] [(0, 0)] N σ (z_up (z_up g 10 9 2) 10 10 (g 10 6)) Q
        exact z_zret d_Pa_readTours_106 rfl (by decide) (by decide) (by decide) ⟨rfl, rfl, h⟩
  · have h := h.2 c1
    refine z_aload_n (i := 0) (c := 9) 0 d_Pa_readTours_24 rfl rfl rfl ?_
    refine z_getr (c := 9) (kI := 0) (r2 := 10) d_Pa_readTours_25 fd_Pa_tape fl_Pa_12 rfl rfl rfl (ks_F_9 hx) (kl_F_9 hx) (kr_F_9_0 hx) ?_
    refine z_cV (c := 10) (as := []) (d' := 1) (st := []) d_Pa_readTours_28 mi_Ta_isEnded ml_Pa_48 mv_Ta_isEnded se_Ta_isEnded rfl rfl rfl rfl (ks_F_10 hx) rfl rfl (kl_F_10 hx) rfl rfl (b_Ta_isEnded_0 hx ?_)
    refine ⟨fun c4 => ?_, fun c4 => ?_⟩
    · have h := h.1 c4
      intro _
      show z_U X 12 m_Pa_readTours 31 [(0, (2, 9)), (1, (2, ((p1 : Nat) : Int))), (2, (0, x2)), (3, (0, x3))] [(0, 1)] N σ g Q
      refine z_if_ne (tgt := 92) d_Pa_readTours_31 (by decide) (fun _ => ?_) (fun c => absurd c (by decide))
      refine z_aload_n (i := 0) (c := 9) 0 d_Pa_readTours_92 rfl rfl rfl ?_
      refine z_geti (c := 9) (kI := 6) d_Pa_readTours_93 fd_Pa_open fl_Pa_179 (Or.inl rfl) rfl rfl (ks_F_9 hx) (kl_F_9 hx) ?_
      refine z_if_le (tgt := 107) d_Pa_readTours_96 (by decide) (fun c5 => ?_) (fun c5 => ?_)
      · have h := h.1 c5
        refine z_aload_n (i := 1) (c := p1) 1 d_Pa_readTours_107 rfl rfl rfl ?_
        refine z_iconst (n := 1) d_Pa_readTours_108 (by decide) ?_
        refine z_putz (c := p1) (kI := 0) d_Pa_readTours_109 fd_Pg_given fl_Pa_191 pf_Pg_given rfl rfl rfl rfl (ks_Pg_0 hp1) (kl_Pg_0 hp1) (by decide) ?_
        refine z_iconst (n := 1) d_Pa_readTours_112 (by decide) ?_
        exact z_zret d_Pa_readTours_113 rfl (by decide) (by decide) (by decide) ⟨rfl, rfl, h⟩
      · have h := h.2 c5
        refine z_aload_n (i := 0) (c := 9) 0 d_Pa_readTours_99 rfl rfl rfl ?_
        refine z_getr (c := 9) (kI := 0) (r2 := 10) d_Pa_readTours_100 fd_Pa_tape fl_Pa_12 rfl rfl rfl (ks_F_9 hx) (kl_F_9 hx) (kr_F_9_0 hx) ?_
        refine z_cV (c := 10) (as := []) (d' := 2) (st := []) d_Pa_readTours_103 mi_Ta_failHere ml_Pa_98 mv_Ta_failHere se_Ta_failHere rfl rfl rfl rfl (ks_F_10 hx) rfl rfl (kl_F_10 hx) rfl rfl (b_Ta_failHere_0 hx ?_)
        refine ⟨fun c6 => ?_, fun c6 => ?_⟩
        · have h := h.1 c6
          intro _
          show z_U X 12 m_Pa_readTours 106 [(0, (2, 9)), (1, (2, ((p1 : Nat) : Int))), (2, (0, x2)), (3, (0, x3))] [(0, 0)] N σ (z_up (z_up g 10 9 1) 10 10 (g 10 6)) Q
          exact z_zret d_Pa_readTours_106 rfl (by decide) (by decide) (by decide) ⟨rfl, rfl, h⟩
        · have h := h.2 c6
          intro _
          show z_U X 12 m_Pa_readTours 106 [(0, (2, 9)), (1, (2, ((p1 : Nat) : Int))), (2, (0, x2)), (3, (0, x3))] [(0, 0)] N σ (z_up (z_up g 10 9 2) 10 10 (g 10 6)) Q
          exact z_zret d_Pa_readTours_106 rfl (by decide) (by decide) (by decide) ⟨rfl, rfl, h⟩
    · have h := h.2 c4
      intro _
      show z_U X 12 m_Pa_readTours 31 [(0, (2, 9)), (1, (2, ((p1 : Nat) : Int))), (2, (0, x2)), (3, (0, x3))] [(0, 0)] N σ g Q
      refine z_if_ne (tgt := 92) d_Pa_readTours_31 (by decide) (fun c => absurd (by decide) c) (fun _ => ?_)
      refine z_aload_n (i := 0) (c := 9) 0 d_Pa_readTours_34 rfl rfl rfl ?_
      refine z_geti (c := 9) (kI := 6) d_Pa_readTours_35 fd_Pa_open fl_Pa_179 (Or.inl rfl) rfl rfl (ks_F_9 hx) (kl_F_9 hx) ?_
      refine z_if_le (tgt := 57) d_Pa_readTours_38 (by decide) (fun c7 => ?_) (fun c7 => ?_)
      · have h := h.1 c7
        refine z_iconst (n := 0) d_Pa_readTours_57 (by decide) ?_
        refine z_istore (ls' := [(4, (0, 0)), (0, (2, 9)), (1, (2, ((p1 : Nat) : Int))), (2, (0, x2)), (3, (0, x3))]) d_Pa_readTours_58 rfl rfl ?_
        refine z_iload 0 d_Pa_readTours_60 rfl ?_
        refine z_if_eq (tgt := 76) d_Pa_readTours_62 (by decide) (fun _ => ?_) (fun c => absurd (by decide) c)
        refine z_aload_n (i := 0) (c := 9) 1 d_Pa_readTours_76 rfl rfl rfl ?_
        refine z_aload_n (i := 1) (c := p1) 2 d_Pa_readTours_77 rfl rfl rfl ?_
        refine z_cV (c := 9) (as := [(2, ((p1 : Nat) : Int))]) (d' := 11) (st := []) d_Pa_readTours_78 mi_Pa_readStep ml_Pa_188 mv_Pa_readStep se_Pa_readStep rfl rfl rfl rfl (ks_F_9 hx) rfl rfl (kl_F_9 hx) rfl rfl (z_Omono h (fun r0 g0 _ h hro => ?_))
        have h := h (z_b01 hro)
        have hzr0 := z_b01 hro
        show z_U X 12 m_Pa_readTours 81 [(4, (0, 0)), (0, (2, 9)), (1, (2, ((p1 : Nat) : Int))), (2, (0, x2)), (3, (0, x3))] [(0, r0)] N σ g0 Q
        refine z_if_ne (tgt := 86) d_Pa_readTours_81 (by decide) (fun c8 => ?_) (fun c8 => ?_)
        · have h := h.2 c8
          obtain ⟨c9, h⟩ := h
          refine z_iinc (n := 1) (ls' := [(3, (0, x3 + 1)), (4, (0, 0)), (0, (2, 9)), (1, (2, ((p1 : Nat) : Int))), (2, (0, x2))]) 4 d_Pa_readTours_86 rfl c9 rfl rfl ?_
          refine z_goto (tgt := 19) d_Pa_readTours_89 (by decide) ?_
          refine z_sub (ls' := [(0, (2, 9)), (1, (2, ((p1 : Nat) : Int))), (2, (0, x2)), (3, (0, x3 + 1))]) [2, 3, 4, 0] rfl ?_
          exact h
        · have h := h.1 c8
          refine z_iconst (n := 0) d_Pa_readTours_84 (by decide) ?_
          exact z_zret d_Pa_readTours_85 rfl (by decide) (by decide) (by decide) ⟨rfl, rfl, h⟩
      · have h := h.2 c7
        refine z_aload_n (i := 0) (c := 9) 0 d_Pa_readTours_41 rfl rfl rfl ?_
        refine z_getr (c := 9) (kI := 0) (r2 := 10) d_Pa_readTours_42 fd_Pa_tape fl_Pa_12 rfl rfl rfl (ks_F_9 hx) (kl_F_9 hx) (kr_F_9_0 hx) ?_
        refine z_ldcs (q := ("FareyRank$Parser", 182, 6)) d_Pa_readTours_45 (List.mem_of_getElem? (i := 6) rfl) rfl rfl rfl ?_
        refine z_cV (c := 10) (as := [(4, 6)]) (d' := 7) (st := []) d_Pa_readTours_47 mi_Ta_isWord ml_Pa_72 mv_Ta_isWord se_Ta_isWord rfl rfl rfl rfl (ks_F_10 hx) rfl rfl (kl_F_10 hx) rfl rfl (z_Omono h (fun r1 g1 _ h hro => ?_))
        have h := h (z_b01 hro)
        have hzr1 := z_b01 hro
        show z_U X 12 m_Pa_readTours 50 [(0, (2, 9)), (1, (2, ((p1 : Nat) : Int))), (2, (0, x2)), (3, (0, x3))] [(0, r1)] N σ g1 Q
        refine z_if_eq (tgt := 57) d_Pa_readTours_50 (by decide) (fun c10 => ?_) (fun c10 => ?_)
        · have h := h.1 c10
          refine z_iconst (n := 0) d_Pa_readTours_57 (by decide) ?_
          refine z_istore (ls' := [(4, (0, 0)), (0, (2, 9)), (1, (2, ((p1 : Nat) : Int))), (2, (0, x2)), (3, (0, x3))]) d_Pa_readTours_58 rfl rfl ?_
          refine z_iload 0 d_Pa_readTours_60 rfl ?_
          refine z_if_eq (tgt := 76) d_Pa_readTours_62 (by decide) (fun _ => ?_) (fun c => absurd (by decide) c)
          refine z_aload_n (i := 0) (c := 9) 1 d_Pa_readTours_76 rfl rfl rfl ?_
          refine z_aload_n (i := 1) (c := p1) 2 d_Pa_readTours_77 rfl rfl rfl ?_
          refine z_cV (c := 9) (as := [(2, ((p1 : Nat) : Int))]) (d' := 11) (st := []) d_Pa_readTours_78 mi_Pa_readStep ml_Pa_188 mv_Pa_readStep se_Pa_readStep rfl rfl rfl rfl (ks_F_9 hx) rfl rfl (kl_F_9 hx) rfl rfl (z_Omono h (fun r2 g2 _ h hro => ?_))
          have h := h (z_b01 hro)
          have hzr2 := z_b01 hro
          show z_U X 12 m_Pa_readTours 81 [(4, (0, 0)), (0, (2, 9)), (1, (2, ((p1 : Nat) : Int))), (2, (0, x2)), (3, (0, x3))] [(0, r2)] N σ g2 Q
          refine z_if_ne (tgt := 86) d_Pa_readTours_81 (by decide) (fun c11 => ?_) (fun c11 => ?_)
          · have h := h.2 c11
            obtain ⟨c12, h⟩ := h
            refine z_iinc (n := 1) (ls' := [(3, (0, x3 + 1)), (4, (0, 0)), (0, (2, 9)), (1, (2, ((p1 : Nat) : Int))), (2, (0, x2))]) 4 d_Pa_readTours_86 rfl c12 rfl rfl ?_
            refine z_goto (tgt := 19) d_Pa_readTours_89 (by decide) ?_
            refine z_sub (ls' := [(0, (2, 9)), (1, (2, ((p1 : Nat) : Int))), (2, (0, x2)), (3, (0, x3 + 1))]) [2, 3, 4, 0] rfl ?_
            exact h
          · have h := h.1 c11
            refine z_iconst (n := 0) d_Pa_readTours_84 (by decide) ?_
            exact z_zret d_Pa_readTours_85 rfl (by decide) (by decide) (by decide) ⟨rfl, rfl, h⟩
        · have h := h.2 c10
          refine z_iconst (n := 1) d_Pa_readTours_53 (by decide) ?_
          refine z_goto (tgt := 58) d_Pa_readTours_54 (by decide) ?_
          refine z_istore (ls' := [(4, (0, 1)), (0, (2, 9)), (1, (2, ((p1 : Nat) : Int))), (2, (0, x2)), (3, (0, x3))]) d_Pa_readTours_58 rfl rfl ?_
          refine z_iload 0 d_Pa_readTours_60 rfl ?_
          refine z_if_eq (tgt := 76) d_Pa_readTours_62 (by decide) (fun c => absurd c (by decide)) (fun _ => ?_)
          refine z_aload_n (i := 0) (c := 9) 1 d_Pa_readTours_65 rfl rfl rfl ?_
          refine z_aload_n (i := 1) (c := p1) 2 d_Pa_readTours_66 rfl rfl rfl ?_
          refine z_cV (c := 9) (as := [(2, ((p1 : Nat) : Int))]) (d' := 4) (st := []) d_Pa_readTours_67 mi_Pa_readEnd ml_Pa_184 mv_Pa_readEnd se_Pa_readEnd rfl rfl rfl rfl (ks_F_9 hx) rfl rfl (kl_F_9 hx) rfl rfl (z_Omono h (fun r3 g3 _ h hro => ?_))
          have h := h (z_b01 hro)
          have hzr3 := z_b01 hro
          show z_U X 12 m_Pa_readTours 70 [(4, (0, 1)), (0, (2, 9)), (1, (2, ((p1 : Nat) : Int))), (2, (0, x2)), (3, (0, x3))] [(0, r3)] N σ g3 Q
          refine z_if_eq (tgt := 84) d_Pa_readTours_70 (by decide) (fun c13 => ?_) (fun c13 => ?_)
          · have h := h.1 c13
            refine z_iconst (n := 0) d_Pa_readTours_84 (by decide) ?_
            exact z_zret d_Pa_readTours_85 rfl (by decide) (by decide) (by decide) ⟨rfl, rfl, h⟩
          · have h := h.2 c13
            refine z_goto (tgt := 86) d_Pa_readTours_73 (by decide) ?_
            obtain ⟨c14, h⟩ := h
            refine z_iinc (n := 1) (ls' := [(3, (0, x3 + 1)), (4, (0, 1)), (0, (2, 9)), (1, (2, ((p1 : Nat) : Int))), (2, (0, x2))]) 4 d_Pa_readTours_86 rfl c14 rfl rfl ?_
            refine z_goto (tgt := 19) d_Pa_readTours_89 (by decide) ?_
            refine z_sub (ls' := [(0, (2, 9)), (1, (2, ((p1 : Nat) : Int))), (2, (0, x2)), (3, (0, x3 + 1))]) [2, 3, 4, 0] rfl ?_
            exact h
theorem d_F_study_0 : decode (z_c m_F_study) 0 = .ok (.iload_n 1, 1) := by decide +kernel
theorem d_F_study_1 : decode (z_c m_F_study) 1 = .ok (.ifCond .lt 17, 3) := by decide +kernel
theorem d_F_study_4 : decode (z_c m_F_study) 4 = .ok (.iload_n 1, 1) := by decide +kernel
theorem d_F_study_5 : decode (z_c m_F_study) 5 = .ok (.aload_n 0, 1) := by decide +kernel
theorem d_F_study_6 : decode (z_c m_F_study) 6 = .ok (.getfield 30, 3) := by decide +kernel
theorem d_F_study_9 : decode (z_c m_F_study) 9 = .ok (.getfield 143, 3) := by decide +kernel
theorem d_F_study_12 : decode (z_c m_F_study) 12 = .ok (.getfield 147, 3) := by decide +kernel
theorem d_F_study_15 : decode (z_c m_F_study) 15 = .ok (.if_icmp .le 9, 3) := by decide +kernel
theorem d_F_study_18 : decode (z_c m_F_study) 18 = .ok (.aload_n 0, 1) := by decide +kernel
theorem d_F_study_19 : decode (z_c m_F_study) 19 = .ok (.iconst 1, 1) := by decide +kernel
theorem d_F_study_20 : decode (z_c m_F_study) 20 = .ok (.invokevirtual 121, 3) := by decide +kernel
theorem d_F_study_23 : decode (z_c m_F_study) 23 = .ok (.ireturn, 1) := by decide +kernel
theorem d_F_study_24 : decode (z_c m_F_study) 24 = .ok (.aload_n 0, 1) := by decide +kernel
theorem d_F_study_25 : decode (z_c m_F_study) 25 = .ok (.getfield 30, 3) := by decide +kernel
theorem d_F_study_28 : decode (z_c m_F_study) 28 = .ok (.aload_n 0, 1) := by decide +kernel
theorem d_F_study_29 : decode (z_c m_F_study) 29 = .ok (.getfield 71, 3) := by decide +kernel
theorem d_F_study_32 : decode (z_c m_F_study) 32 = .ok (.iload_n 1, 1) := by decide +kernel
theorem d_F_study_33 : decode (z_c m_F_study) 33 = .ok (.invokevirtual 156, 3) := by decide +kernel
theorem d_F_study_36 : decode (z_c m_F_study) 36 = .ok (.istore_n 2, 1) := by decide +kernel
theorem d_F_study_37 : decode (z_c m_F_study) 37 = .ok (.aload_n 0, 1) := by decide +kernel
theorem d_F_study_38 : decode (z_c m_F_study) 38 = .ok (.invokevirtual 160, 3) := by decide +kernel
theorem d_F_study_41 : decode (z_c m_F_study) 41 = .ok (.iload_n 2, 1) := by decide +kernel
theorem d_F_study_42 : decode (z_c m_F_study) 42 = .ok (.ifCond .ne 10, 3) := by decide +kernel
theorem d_F_study_45 : decode (z_c m_F_study) 45 = .ok (.aload_n 0, 1) := by decide +kernel
theorem d_F_study_46 : decode (z_c m_F_study) 46 = .ok (.bipush 9, 2) := by decide +kernel
theorem d_F_study_48 : decode (z_c m_F_study) 48 = .ok (.invokevirtual 121, 3) := by decide +kernel
theorem d_F_study_51 : decode (z_c m_F_study) 51 = .ok (.ireturn, 1) := by decide +kernel
theorem d_F_study_52 : decode (z_c m_F_study) 52 = .ok (.aload_n 0, 1) := by decide +kernel
theorem d_F_study_53 : decode (z_c m_F_study) 53 = .ok (.getfield 67, 3) := by decide +kernel
theorem d_F_study_56 : decode (z_c m_F_study) 56 = .ok (.aload_n 0, 1) := by decide +kernel
theorem d_F_study_57 : decode (z_c m_F_study) 57 = .ok (.getfield 71, 3) := by decide +kernel
theorem d_F_study_60 : decode (z_c m_F_study) 60 = .ok (.invokevirtual 163, 3) := by decide +kernel
theorem d_F_study_63 : decode (z_c m_F_study) 63 = .ok (.aload_n 0, 1) := by decide +kernel
theorem d_F_study_64 : decode (z_c m_F_study) 64 = .ok (.aload_n 0, 1) := by decide +kernel
theorem d_F_study_65 : decode (z_c m_F_study) 65 = .ok (.getfield 67, 3) := by decide +kernel
theorem d_F_study_68 : decode (z_c m_F_study) 68 = .ok (.getfield 167, 3) := by decide +kernel
theorem d_F_study_71 : decode (z_c m_F_study) 71 = .ok (.getfield 171, 3) := by decide +kernel
theorem d_F_study_74 : decode (z_c m_F_study) 74 = .ok (.invokevirtual 176, 3) := by decide +kernel
theorem d_F_study_77 : decode (z_c m_F_study) 77 = .ok (.ireturn, 1) := by decide +kernel
set_option maxRecDepth 8000 in
theorem b_F_study_0 {X : z_X} {N : Nat} {σ g : z_G} {Q : z_P} {a1 : Int} (hx : z_lay X N σ 0 z_SF z_RF) (h : ((a1 < 0) → Q (-1) (z_up g 0 0 1)) ∧ (¬ (a1 < 0) → (((a1 ≤ (g 10 1)) → (z_O X 12 m_Pa_readStudy [(2, 9), (2, 37), (0, a1)] N σ g (fun r0 g0 => (r0 = 0 ∨ r0 = 1) → (z_O X 1 m_F_noteFault [(2, 0)] N σ g0 (fun r1 g1 => (((r0 = 0) → Q (-1) (z_up g1 0 0 9)) ∧ (¬ (r0 = 0) → (z_O X 2 m_Bd_copyFrom [(2, 23), (2, 37)] N σ g1 (fun r2 g2 => Q (g2 25 3) (z_up g2 0 0 0)))))))))) ∧ (¬ (a1 ≤ (g 10 1)) → Q (-1) (z_up g 0 0 1))))) : z_O X 13 m_F_study [(2, 0), (0, a1)] N σ g Q := by
  refine z_Oenter mi_F_study rfl (fun _ => ?_)
  show z_U X 13 m_F_study 0 [(0, (2, 0)), (1, (0, a1))] [] N σ g Q
  refine z_iload_n (i := 1) 1 d_F_study_0 rfl rfl ?_
  refine z_if_lt (tgt := 18) d_F_study_1 (by decide) (fun c1 => ?_) (fun c1 => ?_)
  · have h := h.1 c1
    refine z_aload_n (i := 0) (c := 0) 0 d_F_study_18 rfl rfl rfl ?_
    refine z_iconst (n := 1) d_F_study_19 (by decide) ?_
    refine z_cV (c := 0) (as := [(0, 1)]) (d' := 1) (st := []) d_F_study_20 mi_F_none ml_F_121 mv_F_none se_F_none rfl rfl rfl rfl (ks_F_0 hx) rfl rfl (kl_F_0 hx) rfl rfl (b_F_none_0 hx ?_)
    intro _
    show z_U X 13 m_F_study 23 [(0, (2, 0)), (1, (0, a1))] [(0, (-1))] N σ (z_up g 0 0 1) Q
    exact z_iret d_F_study_23 rfl (by decide) (by decide) ⟨rfl, rfl, h⟩
  · have h := h.2 c1
    refine z_iload_n (i := 1) 1 d_F_study_4 rfl rfl ?_
    refine z_aload_n (i := 0) (c := 0) 0 d_F_study_5 rfl rfl rfl ?_
    refine z_getr (c := 0) (kI := 4) (r2 := 9) d_F_study_6 fd_F_parser fl_F_30 rfl rfl rfl (ks_F_0 hx) (kl_F_0 hx) (kr_F_0_4 hx) ?_
    refine z_getr (c := 9) (kI := 0) (r2 := 10) d_F_study_9 fd_Pa_tape fl_F_143 rfl rfl rfl (ks_F_9 hx) (kl_F_9 hx) (kr_F_9_0 hx) ?_
    refine z_geti (c := 10) (kI := 1) d_F_study_12 fd_Ta_taped fl_F_147 (Or.inl rfl) rfl rfl (ks_F_10 hx) (kl_F_10 hx) ?_
    refine z_icmp_le (tgt := 24) d_F_study_15 (by decide) (fun c2 => ?_) (fun c2 => ?_)
    · have h := h.1 c2
      refine z_aload_n (i := 0) (c := 0) 0 d_F_study_24 rfl rfl rfl ?_
      refine z_getr (c := 0) (kI := 4) (r2 := 9) d_F_study_25 fd_F_parser fl_F_30 rfl rfl rfl (ks_F_0 hx) (kl_F_0 hx) (kr_F_0_4 hx) ?_
      refine z_aload_n (i := 0) (c := 0) 0 d_F_study_28 rfl rfl rfl ?_
      refine z_getr (c := 0) (kI := 12) (r2 := 37) d_F_study_29 fd_F_spare fl_F_71 rfl rfl rfl (ks_F_0 hx) (kl_F_0 hx) (kr_F_0_12 hx) ?_
      refine z_iload_n (i := 1) 1 d_F_study_32 rfl rfl ?_
      refine z_cV (c := 9) (as := [(2, 37), (0, a1)]) (d' := 12) (st := []) d_F_study_33 mi_Pa_readStudy ml_F_156 mv_Pa_readStudy se_Pa_readStudy rfl rfl rfl rfl (ks_F_9 hx) rfl rfl (kl_F_9 hx) rfl rfl (z_Omono h (fun r0 g0 _ h hro => ?_))
      have h := h (z_b01 hro)
      have hzr0 := z_b01 hro
      show z_U X 13 m_F_study 36 [(0, (2, 0)), (1, (0, a1))] [(0, r0)] N σ g0 Q
      refine z_istore_n (i := 2) (ls' := [(2, (0, r0)), (0, (2, 0)), (1, (0, a1))]) d_F_study_36 rfl rfl rfl ?_
      refine z_aload_n (i := 0) (c := 0) 1 d_F_study_37 rfl rfl rfl ?_
      refine z_cV (c := 0) (as := []) (d' := 1) (st := []) d_F_study_38 mi_F_noteFault ml_F_160 mv_F_noteFault se_F_noteFault rfl rfl rfl rfl (ks_F_0 hx) rfl rfl (kl_F_0 hx) rfl rfl (z_Omono h (fun r1 g1 _ h hro => ?_))
      show z_U X 13 m_F_study 41 [(2, (0, r0)), (0, (2, 0)), (1, (0, a1))] [] N σ g1 Q
      refine z_iload_n (i := 2) 0 d_F_study_41 rfl rfl ?_
      refine z_if_ne (tgt := 52) d_F_study_42 (by decide) (fun c3 => ?_) (fun c3 => ?_)
      · have h := h.2 c3
        refine z_aload_n (i := 0) (c := 0) 1 d_F_study_52 rfl rfl rfl ?_
        refine z_getr (c := 0) (kI := 11) (r2 := 23) d_F_study_53 fd_F_board fl_F_67 rfl rfl rfl (ks_F_0 hx) (kl_F_0 hx) (kr_F_0_11 hx) ?_
        refine z_aload_n (i := 0) (c := 0) 1 d_F_study_56 rfl rfl rfl ?_
        refine z_getr (c := 0) (kI := 12) (r2 := 37) d_F_study_57 fd_F_spare fl_F_71 rfl rfl rfl (ks_F_0 hx) (kl_F_0 hx) (kr_F_0_12 hx) ?_
        refine z_cV (c := 23) (as := [(2, 37)]) (d' := 2) (st := []) d_F_study_60 mi_Bd_copyFrom ml_F_163 mv_Bd_copyFrom se_Bd_copyFrom rfl rfl rfl rfl (ks_F_23 hx) rfl rfl (kl_F_23 hx) rfl rfl (z_Omono h (fun r2 g2 _ h hro => ?_))
        show z_U X 13 m_F_study 63 [(2, (0, r0)), (0, (2, 0)), (1, (0, a1))] [] N σ g2 Q
        refine z_aload_n (i := 0) (c := 0) 1 d_F_study_63 rfl rfl rfl ?_
        refine z_aload_n (i := 0) (c := 0) 1 d_F_study_64 rfl rfl rfl ?_
        refine z_getr (c := 0) (kI := 11) (r2 := 23) d_F_study_65 fd_F_board fl_F_67 rfl rfl rfl (ks_F_0 hx) (kl_F_0 hx) (kr_F_0_11 hx) ?_
        refine z_getr (c := 23) (kI := 3) (r2 := 25) d_F_study_68 fd_Bd_pins fl_F_167 rfl rfl rfl (ks_F_23 hx) (kl_F_23 hx) (kr_F_23_3 hx) ?_
        refine z_geti (c := 25) (kI := 3) d_F_study_71 fd_Pi_many fl_F_171 (Or.inl rfl) rfl rfl (ks_F_25 hx) (kl_F_25 hx) ?_
        refine z_cV (c := 0) (as := [(0, g2 25 3)]) (d' := 1) (st := []) d_F_study_74 mi_F_give ml_F_176 mv_F_give se_F_give rfl rfl rfl rfl (ks_F_0 hx) rfl rfl (kl_F_0 hx) rfl rfl (b_F_give_0 hx ?_)
        intro _
        show z_U X 13 m_F_study 77 [(2, (0, r0)), (0, (2, 0)), (1, (0, a1))] [(0, g2 25 3)] N σ (z_up g2 0 0 0) Q
        exact z_iret d_F_study_77 rfl (by decide) (by decide) ⟨rfl, rfl, h⟩
      · have h := h.1 c3
        refine z_aload_n (i := 0) (c := 0) 1 d_F_study_45 rfl rfl rfl ?_
        refine z_bipush (n := 9) d_F_study_46 (by decide) (by decide) ?_
        refine z_cV (c := 0) (as := [(0, 9)]) (d' := 1) (st := []) d_F_study_48 mi_F_none ml_F_121 mv_F_none se_F_none rfl rfl rfl rfl (ks_F_0 hx) rfl rfl (kl_F_0 hx) rfl rfl (b_F_none_0 hx ?_)
        intro _
        show z_U X 13 m_F_study 51 [(2, (0, r0)), (0, (2, 0)), (1, (0, a1))] [(0, (-1))] N σ (z_up g1 0 0 9) Q
        exact z_iret d_F_study_51 rfl (by decide) (by decide) ⟨rfl, rfl, h⟩
    · have h := h.2 c2
      refine z_aload_n (i := 0) (c := 0) 0 d_F_study_18 rfl rfl rfl ?_
      refine z_iconst (n := 1) d_F_study_19 (by decide) ?_
      refine z_cV (c := 0) (as := [(0, 1)]) (d' := 1) (st := []) d_F_study_20 mi_F_none ml_F_121 mv_F_none se_F_none rfl rfl rfl rfl (ks_F_0 hx) rfl rfl (kl_F_0 hx) rfl rfl (b_F_none_0 hx ?_)
      intro _
      show z_U X 13 m_F_study 23 [(0, (2, 0)), (1, (0, a1))] [(0, (-1))] N σ (z_up g 0 0 1) Q
      exact z_iret d_F_study_23 rfl (by decide) (by decide) ⟨rfl, rfl, h⟩
theorem d_F_tours_0 : decode (z_c m_F_tours) 0 = .ok (.iload_n 1, 1) := by decide +kernel
theorem d_F_tours_1 : decode (z_c m_F_tours) 1 = .ok (.ifCond .lt 24, 3) := by decide +kernel
theorem d_F_tours_4 : decode (z_c m_F_tours) 4 = .ok (.iload_n 1, 1) := by decide +kernel
theorem d_F_tours_5 : decode (z_c m_F_tours) 5 = .ok (.aload_n 0, 1) := by decide +kernel
theorem d_F_tours_6 : decode (z_c m_F_tours) 6 = .ok (.getfield 30, 3) := by decide +kernel
theorem d_F_tours_9 : decode (z_c m_F_tours) 9 = .ok (.getfield 143, 3) := by decide +kernel
theorem d_F_tours_12 : decode (z_c m_F_tours) 12 = .ok (.getfield 147, 3) := by decide +kernel
theorem d_F_tours_15 : decode (z_c m_F_tours) 15 = .ok (.if_icmp .gt 10, 3) := by decide +kernel
theorem d_F_tours_18 : decode (z_c m_F_tours) 18 = .ok (.iload_n 1, 1) := by decide +kernel
theorem d_F_tours_19 : decode (z_c m_F_tours) 19 = .ok (.sipush 300, 3) := by decide +kernel
theorem d_F_tours_22 : decode (z_c m_F_tours) 22 = .ok (.if_icmp .le 9, 3) := by decide +kernel
theorem d_F_tours_25 : decode (z_c m_F_tours) 25 = .ok (.aload_n 0, 1) := by decide +kernel
theorem d_F_tours_26 : decode (z_c m_F_tours) 26 = .ok (.iconst 1, 1) := by decide +kernel
theorem d_F_tours_27 : decode (z_c m_F_tours) 27 = .ok (.invokevirtual 121, 3) := by decide +kernel
theorem d_F_tours_30 : decode (z_c m_F_tours) 30 = .ok (.ireturn, 1) := by decide +kernel
theorem d_F_tours_31 : decode (z_c m_F_tours) 31 = .ok (.aload_n 0, 1) := by decide +kernel
theorem d_F_tours_32 : decode (z_c m_F_tours) 32 = .ok (.getfield 30, 3) := by decide +kernel
theorem d_F_tours_35 : decode (z_c m_F_tours) 35 = .ok (.aload_n 0, 1) := by decide +kernel
theorem d_F_tours_36 : decode (z_c m_F_tours) 36 = .ok (.getfield 71, 3) := by decide +kernel
theorem d_F_tours_39 : decode (z_c m_F_tours) 39 = .ok (.getfield 179, 3) := by decide +kernel
theorem d_F_tours_42 : decode (z_c m_F_tours) 42 = .ok (.iload_n 1, 1) := by decide +kernel
theorem d_F_tours_43 : decode (z_c m_F_tours) 43 = .ok (.invokevirtual 183, 3) := by decide +kernel
theorem d_F_tours_46 : decode (z_c m_F_tours) 46 = .ok (.istore_n 2, 1) := by decide +kernel
theorem d_F_tours_47 : decode (z_c m_F_tours) 47 = .ok (.aload_n 0, 1) := by decide +kernel
theorem d_F_tours_48 : decode (z_c m_F_tours) 48 = .ok (.invokevirtual 160, 3) := by decide +kernel
theorem d_F_tours_51 : decode (z_c m_F_tours) 51 = .ok (.iload_n 2, 1) := by decide +kernel
theorem d_F_tours_52 : decode (z_c m_F_tours) 52 = .ok (.ifCond .ne 10, 3) := by decide +kernel
theorem d_F_tours_55 : decode (z_c m_F_tours) 55 = .ok (.aload_n 0, 1) := by decide +kernel
theorem d_F_tours_56 : decode (z_c m_F_tours) 56 = .ok (.bipush 9, 2) := by decide +kernel
theorem d_F_tours_58 : decode (z_c m_F_tours) 58 = .ok (.invokevirtual 121, 3) := by decide +kernel
theorem d_F_tours_61 : decode (z_c m_F_tours) 61 = .ok (.ireturn, 1) := by decide +kernel
theorem d_F_tours_62 : decode (z_c m_F_tours) 62 = .ok (.aload_n 0, 1) := by decide +kernel
theorem d_F_tours_63 : decode (z_c m_F_tours) 63 = .ok (.getfield 67, 3) := by decide +kernel
theorem d_F_tours_66 : decode (z_c m_F_tours) 66 = .ok (.getfield 179, 3) := by decide +kernel
theorem d_F_tours_69 : decode (z_c m_F_tours) 69 = .ok (.aload_n 0, 1) := by decide +kernel
theorem d_F_tours_70 : decode (z_c m_F_tours) 70 = .ok (.getfield 71, 3) := by decide +kernel
theorem d_F_tours_73 : decode (z_c m_F_tours) 73 = .ok (.getfield 179, 3) := by decide +kernel
theorem d_F_tours_76 : decode (z_c m_F_tours) 76 = .ok (.invokevirtual 187, 3) := by decide +kernel
theorem d_F_tours_79 : decode (z_c m_F_tours) 79 = .ok (.aload_n 0, 1) := by decide +kernel
theorem d_F_tours_80 : decode (z_c m_F_tours) 80 = .ok (.aload_n 0, 1) := by decide +kernel
theorem d_F_tours_81 : decode (z_c m_F_tours) 81 = .ok (.getfield 67, 3) := by decide +kernel
theorem d_F_tours_84 : decode (z_c m_F_tours) 84 = .ok (.getfield 179, 3) := by decide +kernel
theorem d_F_tours_87 : decode (z_c m_F_tours) 87 = .ok (.getfield 192, 3) := by decide +kernel
theorem d_F_tours_90 : decode (z_c m_F_tours) 90 = .ok (.invokevirtual 176, 3) := by decide +kernel
theorem d_F_tours_93 : decode (z_c m_F_tours) 93 = .ok (.ireturn, 1) := by decide +kernel
set_option maxRecDepth 8000 in
theorem b_F_tours_0 {X : z_X} {N : Nat} {σ g : z_G} {Q : z_P} {a1 : Int} (hx : z_lay X N σ 0 z_SF z_RF) (h : ((a1 < 0) → Q (-1) (z_up g 0 0 1)) ∧ (¬ (a1 < 0) → ((((g 10 1) < a1) → Q (-1) (z_up g 0 0 1)) ∧ (¬ ((g 10 1) < a1) → (((a1 ≤ 300) → (z_O X 12 m_Pa_readTours [(2, 9), (2, 45), (0, a1)] N σ g (fun r0 g0 => (r0 = 0 ∨ r0 = 1) → (z_O X 1 m_F_noteFault [(2, 0)] N σ g0 (fun r1 g1 => (((r0 = 0) → Q (-1) (z_up g1 0 0 9)) ∧ (¬ (r0 = 0) → (z_O X 1 m_Pg_copyFrom [(2, 31), (2, 45)] N σ g1 (fun r2 g2 => Q (g2 31 1) (z_up g2 0 0 0)))))))))) ∧ (¬ (a1 ≤ 300) → Q (-1) (z_up g 0 0 1))))))) : z_O X 13 m_F_tours [(2, 0), (0, a1)] N σ g Q := by
  refine z_Oenter mi_F_tours rfl (fun _ => ?_)
  show z_U X 13 m_F_tours 0 [(0, (2, 0)), (1, (0, a1))] [] N σ g Q
  refine z_iload_n (i := 1) 1 d_F_tours_0 rfl rfl ?_
  refine z_if_lt (tgt := 25) d_F_tours_1 (by decide) (fun c1 => ?_) (fun c1 => ?_)
  · have h := h.1 c1
    refine z_aload_n (i := 0) (c := 0) 0 d_F_tours_25 rfl rfl rfl ?_
    refine z_iconst (n := 1) d_F_tours_26 (by decide) ?_
    refine z_cV (c := 0) (as := [(0, 1)]) (d' := 1) (st := []) d_F_tours_27 mi_F_none ml_F_121 mv_F_none se_F_none rfl rfl rfl rfl (ks_F_0 hx) rfl rfl (kl_F_0 hx) rfl rfl (b_F_none_0 hx ?_)
    intro _
    show z_U X 13 m_F_tours 30 [(0, (2, 0)), (1, (0, a1))] [(0, (-1))] N σ (z_up g 0 0 1) Q
    exact z_iret d_F_tours_30 rfl (by decide) (by decide) ⟨rfl, rfl, h⟩
  · have h := h.2 c1
    refine z_iload_n (i := 1) 1 d_F_tours_4 rfl rfl ?_
    refine z_aload_n (i := 0) (c := 0) 0 d_F_tours_5 rfl rfl rfl ?_
    refine z_getr (c := 0) (kI := 4) (r2 := 9) d_F_tours_6 fd_F_parser fl_F_30 rfl rfl rfl (ks_F_0 hx) (kl_F_0 hx) (kr_F_0_4 hx) ?_
    refine z_getr (c := 9) (kI := 0) (r2 := 10) d_F_tours_9 fd_Pa_tape fl_F_143 rfl rfl rfl (ks_F_9 hx) (kl_F_9 hx) (kr_F_9_0 hx) ?_
    refine z_geti (c := 10) (kI := 1) d_F_tours_12 fd_Ta_taped fl_F_147 (Or.inl rfl) rfl rfl (ks_F_10 hx) (kl_F_10 hx) ?_
    refine z_icmp_gt (tgt := 25) d_F_tours_15 (by decide) (fun c2 => ?_) (fun c2 => ?_)
    · have h := h.1 c2
      refine z_aload_n (i := 0) (c := 0) 0 d_F_tours_25 rfl rfl rfl ?_
      refine z_iconst (n := 1) d_F_tours_26 (by decide) ?_
      refine z_cV (c := 0) (as := [(0, 1)]) (d' := 1) (st := []) d_F_tours_27 mi_F_none ml_F_121 mv_F_none se_F_none rfl rfl rfl rfl (ks_F_0 hx) rfl rfl (kl_F_0 hx) rfl rfl (b_F_none_0 hx ?_)
      intro _
      show z_U X 13 m_F_tours 30 [(0, (2, 0)), (1, (0, a1))] [(0, (-1))] N σ (z_up g 0 0 1) Q
      exact z_iret d_F_tours_30 rfl (by decide) (by decide) ⟨rfl, rfl, h⟩
    · have h := h.2 c2
      refine z_iload_n (i := 1) 1 d_F_tours_18 rfl rfl ?_
      refine z_sipush (n := 300) d_F_tours_19 (by decide) (by decide) ?_
      refine z_icmp_le (tgt := 31) d_F_tours_22 (by decide) (fun c3 => ?_) (fun c3 => ?_)
      · have h := h.1 c3
        refine z_aload_n (i := 0) (c := 0) 0 d_F_tours_31 rfl rfl rfl ?_
        refine z_getr (c := 0) (kI := 4) (r2 := 9) d_F_tours_32 fd_F_parser fl_F_30 rfl rfl rfl (ks_F_0 hx) (kl_F_0 hx) (kr_F_0_4 hx) ?_
        refine z_aload_n (i := 0) (c := 0) 0 d_F_tours_35 rfl rfl rfl ?_
        refine z_getr (c := 0) (kI := 12) (r2 := 37) d_F_tours_36 fd_F_spare fl_F_71 rfl rfl rfl (ks_F_0 hx) (kl_F_0 hx) (kr_F_0_12 hx) ?_
        refine z_getr (c := 37) (kI := 5) (r2 := 45) d_F_tours_39 fd_Bd_program fl_F_179 rfl rfl rfl (ks_F_37 hx) (kl_F_37 hx) (kr_F_37_5 hx) ?_
        refine z_iload_n (i := 1) 1 d_F_tours_42 rfl rfl ?_
        refine z_cV (c := 9) (as := [(2, 45), (0, a1)]) (d' := 12) (st := []) d_F_tours_43 mi_Pa_readTours ml_F_183 mv_Pa_readTours se_Pa_readTours rfl rfl rfl rfl (ks_F_9 hx) rfl rfl (kl_F_9 hx) rfl rfl (z_Omono h (fun r0 g0 _ h hro => ?_))
        have h := h (z_b01 hro)
        have hzr0 := z_b01 hro
        show z_U X 13 m_F_tours 46 [(0, (2, 0)), (1, (0, a1))] [(0, r0)] N σ g0 Q
        refine z_istore_n (i := 2) (ls' := [(2, (0, r0)), (0, (2, 0)), (1, (0, a1))]) d_F_tours_46 rfl rfl rfl ?_
        refine z_aload_n (i := 0) (c := 0) 1 d_F_tours_47 rfl rfl rfl ?_
        refine z_cV (c := 0) (as := []) (d' := 1) (st := []) d_F_tours_48 mi_F_noteFault ml_F_160 mv_F_noteFault se_F_noteFault rfl rfl rfl rfl (ks_F_0 hx) rfl rfl (kl_F_0 hx) rfl rfl (z_Omono h (fun r1 g1 _ h hro => ?_))
        show z_U X 13 m_F_tours 51 [(2, (0, r0)), (0, (2, 0)), (1, (0, a1))] [] N σ g1 Q
        refine z_iload_n (i := 2) 0 d_F_tours_51 rfl rfl ?_
        refine z_if_ne (tgt := 62) d_F_tours_52 (by decide) (fun c4 => ?_) (fun c4 => ?_)
        · have h := h.2 c4
          refine z_aload_n (i := 0) (c := 0) 1 d_F_tours_62 rfl rfl rfl ?_
          refine z_getr (c := 0) (kI := 11) (r2 := 23) d_F_tours_63 fd_F_board fl_F_67 rfl rfl rfl (ks_F_0 hx) (kl_F_0 hx) (kr_F_0_11 hx) ?_
          refine z_getr (c := 23) (kI := 5) (r2 := 31) d_F_tours_66 fd_Bd_program fl_F_179 rfl rfl rfl (ks_F_23 hx) (kl_F_23 hx) (kr_F_23_5 hx) ?_
          refine z_aload_n (i := 0) (c := 0) 1 d_F_tours_69 rfl rfl rfl ?_
          refine z_getr (c := 0) (kI := 12) (r2 := 37) d_F_tours_70 fd_F_spare fl_F_71 rfl rfl rfl (ks_F_0 hx) (kl_F_0 hx) (kr_F_0_12 hx) ?_
          refine z_getr (c := 37) (kI := 5) (r2 := 45) d_F_tours_73 fd_Bd_program fl_F_179 rfl rfl rfl (ks_F_37 hx) (kl_F_37 hx) (kr_F_37_5 hx) ?_
          refine z_cV (c := 31) (as := [(2, 45)]) (d' := 1) (st := []) d_F_tours_76 mi_Pg_copyFrom ml_F_187 mv_Pg_copyFrom se_Pg_copyFrom rfl rfl rfl rfl (ks_F_31 hx) rfl rfl (kl_F_31 hx) rfl rfl (z_Omono h (fun r2 g2 _ h hro => ?_))
          show z_U X 13 m_F_tours 79 [(2, (0, r0)), (0, (2, 0)), (1, (0, a1))] [] N σ g2 Q
          refine z_aload_n (i := 0) (c := 0) 1 d_F_tours_79 rfl rfl rfl ?_
          refine z_aload_n (i := 0) (c := 0) 1 d_F_tours_80 rfl rfl rfl ?_
          refine z_getr (c := 0) (kI := 11) (r2 := 23) d_F_tours_81 fd_F_board fl_F_67 rfl rfl rfl (ks_F_0 hx) (kl_F_0 hx) (kr_F_0_11 hx) ?_
          refine z_getr (c := 23) (kI := 5) (r2 := 31) d_F_tours_84 fd_Bd_program fl_F_179 rfl rfl rfl (ks_F_23 hx) (kl_F_23 hx) (kr_F_23_5 hx) ?_
          refine z_geti (c := 31) (kI := 1) d_F_tours_87 fd_Pg_steps fl_F_192 (Or.inl rfl) rfl rfl (ks_F_31 hx) (kl_F_31 hx) ?_
          refine z_cV (c := 0) (as := [(0, g2 31 1)]) (d' := 1) (st := []) d_F_tours_90 mi_F_give ml_F_176 mv_F_give se_F_give rfl rfl rfl rfl (ks_F_0 hx) rfl rfl (kl_F_0 hx) rfl rfl (b_F_give_0 hx ?_)
          intro _
          show z_U X 13 m_F_tours 93 [(2, (0, r0)), (0, (2, 0)), (1, (0, a1))] [(0, g2 31 1)] N σ (z_up g2 0 0 0) Q
          exact z_iret d_F_tours_93 rfl (by decide) (by decide) ⟨rfl, rfl, h⟩
        · have h := h.1 c4
          refine z_aload_n (i := 0) (c := 0) 1 d_F_tours_55 rfl rfl rfl ?_
          refine z_bipush (n := 9) d_F_tours_56 (by decide) (by decide) ?_
          refine z_cV (c := 0) (as := [(0, 9)]) (d' := 1) (st := []) d_F_tours_58 mi_F_none ml_F_121 mv_F_none se_F_none rfl rfl rfl rfl (ks_F_0 hx) rfl rfl (kl_F_0 hx) rfl rfl (b_F_none_0 hx ?_)
          intro _
          show z_U X 13 m_F_tours 61 [(2, (0, r0)), (0, (2, 0)), (1, (0, a1))] [(0, (-1))] N σ (z_up g1 0 0 9) Q
          exact z_iret d_F_tours_61 rfl (by decide) (by decide) ⟨rfl, rfl, h⟩
      · have h := h.2 c3
        refine z_aload_n (i := 0) (c := 0) 0 d_F_tours_25 rfl rfl rfl ?_
        refine z_iconst (n := 1) d_F_tours_26 (by decide) ?_
        refine z_cV (c := 0) (as := [(0, 1)]) (d' := 1) (st := []) d_F_tours_27 mi_F_none ml_F_121 mv_F_none se_F_none rfl rfl rfl rfl (ks_F_0 hx) rfl rfl (kl_F_0 hx) rfl rfl (b_F_none_0 hx ?_)
        intro _
        show z_U X 13 m_F_tours 30 [(0, (2, 0)), (1, (0, a1))] [(0, (-1))] N σ (z_up g 0 0 1) Q
        exact z_iret d_F_tours_30 rfl (by decide) (by decide) ⟨rfl, rfl, h⟩
theorem d_F_playOut_0 : decode (z_c m_F_playOut) 0 = .ok (.iload_n 0, 1) := by decide +kernel
theorem d_F_playOut_1 : decode (z_c m_F_playOut) 1 = .ok (.iload_n 1, 1) := by decide +kernel
theorem d_F_playOut_2 : decode (z_c m_F_playOut) 2 = .ok (.iadd, 1) := by decide +kernel
theorem d_F_playOut_3 : decode (z_c m_F_playOut) 3 = .ok (.istore 4, 2) := by decide +kernel
theorem d_F_playOut_5 : decode (z_c m_F_playOut) 5 = .ok (.iload_n 2, 1) := by decide +kernel
theorem d_F_playOut_6 : decode (z_c m_F_playOut) 6 = .ok (.ifCond .gt 6, 3) := by decide +kernel
theorem d_F_playOut_9 : decode (z_c m_F_playOut) 9 = .ok (.iload 4, 2) := by decide +kernel
theorem d_F_playOut_11 : decode (z_c m_F_playOut) 11 = .ok (.ireturn, 1) := by decide +kernel
theorem d_F_playOut_12 : decode (z_c m_F_playOut) 12 = .ok (.iload_n 0, 1) := by decide +kernel
theorem d_F_playOut_13 : decode (z_c m_F_playOut) 13 = .ok (.iload 4, 2) := by decide +kernel
theorem d_F_playOut_15 : decode (z_c m_F_playOut) 15 = .ok (.iload_n 2, 1) := by decide +kernel
theorem d_F_playOut_16 : decode (z_c m_F_playOut) 16 = .ok (.iconst 1, 1) := by decide +kernel
theorem d_F_playOut_17 : decode (z_c m_F_playOut) 17 = .ok (.isub, 1) := by decide +kernel
theorem d_F_playOut_18 : decode (z_c m_F_playOut) 18 = .ok (.iload_n 3, 1) := by decide +kernel
theorem d_F_playOut_19 : decode (z_c m_F_playOut) 19 = .ok (.ifCond .ne 7, 3) := by decide +kernel
theorem d_F_playOut_22 : decode (z_c m_F_playOut) 22 = .ok (.iconst 1, 1) := by decide +kernel
theorem d_F_playOut_23 : decode (z_c m_F_playOut) 23 = .ok (.goto 4, 3) := by decide +kernel
theorem d_F_playOut_26 : decode (z_c m_F_playOut) 26 = .ok (.iconst 0, 1) := by decide +kernel
theorem d_F_playOut_27 : decode (z_c m_F_playOut) 27 = .ok (.invokestatic 398, 3) := by decide +kernel
theorem d_F_playOut_30 : decode (z_c m_F_playOut) 30 = .ok (.istore 5, 2) := by decide +kernel
theorem d_F_playOut_32 : decode (z_c m_F_playOut) 32 = .ok (.iload 4, 2) := by decide +kernel
theorem d_F_playOut_34 : decode (z_c m_F_playOut) 34 = .ok (.iload_n 1, 1) := by decide +kernel
theorem d_F_playOut_35 : decode (z_c m_F_playOut) 35 = .ok (.iload_n 2, 1) := by decide +kernel
theorem d_F_playOut_36 : decode (z_c m_F_playOut) 36 = .ok (.iconst 1, 1) := by decide +kernel
theorem d_F_playOut_37 : decode (z_c m_F_playOut) 37 = .ok (.isub, 1) := by decide +kernel
theorem d_F_playOut_38 : decode (z_c m_F_playOut) 38 = .ok (.iload_n 3, 1) := by decide +kernel
theorem d_F_playOut_39 : decode (z_c m_F_playOut) 39 = .ok (.ifCond .ne 7, 3) := by decide +kernel
theorem d_F_playOut_42 : decode (z_c m_F_playOut) 42 = .ok (.iconst 1, 1) := by decide +kernel
theorem d_F_playOut_43 : decode (z_c m_F_playOut) 43 = .ok (.goto 4, 3) := by decide +kernel
theorem d_F_playOut_46 : decode (z_c m_F_playOut) 46 = .ok (.iconst 0, 1) := by decide +kernel
theorem d_F_playOut_47 : decode (z_c m_F_playOut) 47 = .ok (.invokestatic 398, 3) := by decide +kernel
theorem d_F_playOut_50 : decode (z_c m_F_playOut) 50 = .ok (.istore 6, 2) := by decide +kernel
theorem d_F_playOut_52 : decode (z_c m_F_playOut) 52 = .ok (.iload_n 3, 1) := by decide +kernel
theorem d_F_playOut_53 : decode (z_c m_F_playOut) 53 = .ok (.ifCond .eq 13, 3) := by decide +kernel
theorem d_F_playOut_56 : decode (z_c m_F_playOut) 56 = .ok (.iload 5, 2) := by decide +kernel
theorem d_F_playOut_58 : decode (z_c m_F_playOut) 58 = .ok (.iload 6, 2) := by decide +kernel
theorem d_F_playOut_60 : decode (z_c m_F_playOut) 60 = .ok (.invokestatic 323, 3) := by decide +kernel
theorem d_F_playOut_63 : decode (z_c m_F_playOut) 63 = .ok (.goto 10, 3) := by decide +kernel
theorem d_F_playOut_66 : decode (z_c m_F_playOut) 66 = .ok (.iload 5, 2) := by decide +kernel
theorem d_F_playOut_68 : decode (z_c m_F_playOut) 68 = .ok (.iload 6, 2) := by decide +kernel
theorem d_F_playOut_70 : decode (z_c m_F_playOut) 70 = .ok (.invokestatic 402, 3) := by decide +kernel
theorem d_F_playOut_73 : decode (z_c m_F_playOut) 73 = .ok (.ireturn, 1) := by decide +kernel
set_option maxRecDepth 8000 in
theorem b_F_playOut_0 {X : z_X} {N : Nat} {σ g : z_G} {Q : z_P} {a0 a1 a2 a3 : Int} {d : Nat} (h : (-2147483648 ≤ (a0 + a1) ∧ (a0 + a1) ≤ 2147483647) ∧ (((0 < a2) → ((-2147483648 ≤ (a2 - 1) ∧ (a2 - 1) ≤ 2147483647) ∧ (((a3 = 0) → (z_O X d m_F_playOut [(0, a0), (0, a0 + a1), (0, a2 - 1), (0, 1)] N σ g (fun r2 g2 => (z_O X d m_F_playOut [(0, a0 + a1), (0, a1), (0, a2 - 1), (0, 1)] N σ g2 (fun r3 g3 => (((r3 < r2) → Q r3 g3) ∧ (¬ (r3 < r2) → Q r2 g3))))))) ∧ (¬ (a3 = 0) → (z_O X d m_F_playOut [(0, a0), (0, a0 + a1), (0, a2 - 1), (0, 0)] N σ g (fun r0 g0 => (z_O X d m_F_playOut [(0, a0 + a1), (0, a1), (0, a2 - 1), (0, 0)] N σ g0 (fun r1 g1 => (((r0 < r1) → Q r1 g1) ∧ (¬ (r0 < r1) → Q r0 g1)))))))))) ∧ (¬ (0 < a2) → Q (a0 + a1) g))) : z_O X (d + 1) m_F_playOut [(0, a0), (0, a1), (0, a2), (0, a3)] N σ g Q := by
  refine z_Oenter mi_F_playOut rfl (fun _ => ?_)
  show z_U X (d + 1) m_F_playOut 0 [(0, (0, a0)), (1, (0, a1)), (2, (0, a2)), (3, (0, a3))] [] N σ g Q
  refine z_iload_n (i := 0) 0 d_F_playOut_0 rfl rfl ?_
  refine z_iload_n (i := 1) 1 d_F_playOut_1 rfl rfl ?_
  obtain ⟨c1, h⟩ := h
  refine z_iadd d_F_playOut_2 c1 ?_
  refine z_istore (ls' := [(4, (0, a0 + a1)), (0, (0, a0)), (1, (0, a1)), (2, (0, a2)), (3, (0, a3))]) d_F_playOut_3 rfl rfl ?_
  refine z_iload_n (i := 2) 3 d_F_playOut_5 rfl rfl ?_
  refine z_if_gt (tgt := 12) d_F_playOut_6 (by decide) (fun c2 => ?_) (fun c2 => ?_)
  · have h := h.1 c2
    refine z_iload_n (i := 0) 1 d_F_playOut_12 rfl rfl ?_
    refine z_iload 0 d_F_playOut_13 rfl ?_
    refine z_iload_n (i := 2) 3 d_F_playOut_15 rfl rfl ?_
    refine z_iconst (n := 1) d_F_playOut_16 (by decide) ?_
    obtain ⟨c3, h⟩ := h
    refine z_isub d_F_playOut_17 c3 ?_
    refine z_iload_n (i := 3) 4 d_F_playOut_18 rfl rfl ?_
    refine z_if_ne (tgt := 26) d_F_playOut_19 (by decide) (fun c4 => ?_) (fun c4 => ?_)
    · have h := h.2 c4
      refine z_iconst (n := 0) d_F_playOut_26 (by decide) ?_
      refine z_cS (as := [(0, a0), (0, a0 + a1), (0, a2 - 1), (0, 0)]) (d' := d) (st := []) d_F_playOut_27 mi_F_playOut ml_F_398 ms_F_playOut rfl rfl rfl rfl (Nat.le_of_ble_eq_true (Nat.ble_self_eq_true _) |> fun q => Nat.ble_eq_true_of_le q) (z_Omono h (fun r0 g0 _ h hro => ?_))
      show z_U X (d + 1) m_F_playOut 30 [(4, (0, a0 + a1)), (0, (0, a0)), (1, (0, a1)), (2, (0, a2)), (3, (0, a3))] [(0, r0)] N σ g0 Q
      refine z_istore (ls' := [(5, (0, r0)), (4, (0, a0 + a1)), (0, (0, a0)), (1, (0, a1)), (2, (0, a2)), (3, (0, a3))]) d_F_playOut_30 rfl rfl ?_
      refine z_iload 1 d_F_playOut_32 rfl ?_
      refine z_iload_n (i := 1) 3 d_F_playOut_34 rfl rfl ?_
      refine z_iload_n (i := 2) 4 d_F_playOut_35 rfl rfl ?_
      refine z_iconst (n := 1) d_F_playOut_36 (by decide) ?_
      refine z_isub d_F_playOut_37 c3 ?_
      refine z_iload_n (i := 3) 5 d_F_playOut_38 rfl rfl ?_
      refine z_if_ne (tgt := 46) d_F_playOut_39 (by decide) (fun _ => ?_) (fun c => absurd c c4)
      refine z_iconst (n := 0) d_F_playOut_46 (by decide) ?_
      refine z_cS (as := [(0, a0 + a1), (0, a1), (0, a2 - 1), (0, 0)]) (d' := d) (st := []) d_F_playOut_47 mi_F_playOut ml_F_398 ms_F_playOut rfl rfl rfl rfl (Nat.le_of_ble_eq_true (Nat.ble_self_eq_true _) |> fun q => Nat.ble_eq_true_of_le q) (z_Omono h (fun r1 g1 _ h hro => ?_))
      show z_U X (d + 1) m_F_playOut 50 [(5, (0, r0)), (4, (0, a0 + a1)), (0, (0, a0)), (1, (0, a1)), (2, (0, a2)), (3, (0, a3))] [(0, r1)] N σ g1 Q
      refine z_istore (ls' := [(6, (0, r1)), (5, (0, r0)), (4, (0, a0 + a1)), (0, (0, a0)), (1, (0, a1)), (2, (0, a2)), (3, (0, a3))]) d_F_playOut_50 rfl rfl ?_
      refine z_iload_n (i := 3) 6 d_F_playOut_52 rfl rfl ?_
      refine z_if_eq (tgt := 66) d_F_playOut_53 (by decide) (fun c => absurd c c4) (fun _ => ?_)
      refine z_iload 1 d_F_playOut_56 rfl ?_
      refine z_iload 0 d_F_playOut_58 rfl ?_
      refine z_mmax d_F_playOut_60 kmm_max_F_323 kms_max kmi kmc_max (by omega) (by show 0 + 13 ≤ 64 * (d + 1); omega) (fun c5 => ?_) (fun c5 => ?_)
      · have h := h.1 c5
        refine z_goto (tgt := 73) d_F_playOut_63 (by decide) ?_
        exact z_iret d_F_playOut_73 rfl (by decide) (by decide) ⟨rfl, rfl, h⟩
      · have h := h.2 c5
        refine z_goto (tgt := 73) d_F_playOut_63 (by decide) ?_
        exact z_iret d_F_playOut_73 rfl (by decide) (by decide) ⟨rfl, rfl, h⟩
    · have h := h.1 c4
      refine z_iconst (n := 1) d_F_playOut_22 (by decide) ?_
      refine z_goto (tgt := 27) d_F_playOut_23 (by decide) ?_
      refine z_cS (as := [(0, a0), (0, a0 + a1), (0, a2 - 1), (0, 1)]) (d' := d) (st := []) d_F_playOut_27 mi_F_playOut ml_F_398 ms_F_playOut rfl rfl rfl rfl (Nat.le_of_ble_eq_true (Nat.ble_self_eq_true _) |> fun q => Nat.ble_eq_true_of_le q) (z_Omono h (fun r2 g2 _ h hro => ?_))
      show z_U X (d + 1) m_F_playOut 30 [(4, (0, a0 + a1)), (0, (0, a0)), (1, (0, a1)), (2, (0, a2)), (3, (0, a3))] [(0, r2)] N σ g2 Q
      refine z_istore (ls' := [(5, (0, r2)), (4, (0, a0 + a1)), (0, (0, a0)), (1, (0, a1)), (2, (0, a2)), (3, (0, a3))]) d_F_playOut_30 rfl rfl ?_
      refine z_iload 1 d_F_playOut_32 rfl ?_
      refine z_iload_n (i := 1) 3 d_F_playOut_34 rfl rfl ?_
      refine z_iload_n (i := 2) 4 d_F_playOut_35 rfl rfl ?_
      refine z_iconst (n := 1) d_F_playOut_36 (by decide) ?_
      refine z_isub d_F_playOut_37 c3 ?_
      refine z_iload_n (i := 3) 5 d_F_playOut_38 rfl rfl ?_
      refine z_if_ne (tgt := 46) d_F_playOut_39 (by decide) (fun c => absurd c4 c) (fun _ => ?_)
      refine z_iconst (n := 1) d_F_playOut_42 (by decide) ?_
      refine z_goto (tgt := 47) d_F_playOut_43 (by decide) ?_
      refine z_cS (as := [(0, a0 + a1), (0, a1), (0, a2 - 1), (0, 1)]) (d' := d) (st := []) d_F_playOut_47 mi_F_playOut ml_F_398 ms_F_playOut rfl rfl rfl rfl (Nat.le_of_ble_eq_true (Nat.ble_self_eq_true _) |> fun q => Nat.ble_eq_true_of_le q) (z_Omono h (fun r3 g3 _ h hro => ?_))
      show z_U X (d + 1) m_F_playOut 50 [(5, (0, r2)), (4, (0, a0 + a1)), (0, (0, a0)), (1, (0, a1)), (2, (0, a2)), (3, (0, a3))] [(0, r3)] N σ g3 Q
      refine z_istore (ls' := [(6, (0, r3)), (5, (0, r2)), (4, (0, a0 + a1)), (0, (0, a0)), (1, (0, a1)), (2, (0, a2)), (3, (0, a3))]) d_F_playOut_50 rfl rfl ?_
      refine z_iload_n (i := 3) 6 d_F_playOut_52 rfl rfl ?_
      refine z_if_eq (tgt := 66) d_F_playOut_53 (by decide) (fun _ => ?_) (fun c => absurd c4 c)
      refine z_iload 1 d_F_playOut_66 rfl ?_
      refine z_iload 0 d_F_playOut_68 rfl ?_
      refine z_mmin d_F_playOut_70 kmm_min_F_402 kms_min kmi kmc_min (by omega) (by show 0 + 13 ≤ 64 * (d + 1); omega) (fun c6 => ?_) (fun c6 => ?_)
      · have h := h.1 c6
        exact z_iret d_F_playOut_73 rfl (by decide) (by decide) ⟨rfl, rfl, h⟩
      · have h := h.2 c6
        exact z_iret d_F_playOut_73 rfl (by decide) (by decide) ⟨rfl, rfl, h⟩
  · have h := h.2 c2
    refine z_iload 0 d_F_playOut_9 rfl ?_
    exact z_iret d_F_playOut_11 rfl (by decide) (by decide) ⟨rfl, rfl, h⟩
theorem d_F_game_0 : decode (z_c m_F_game) 0 = .ok (.iload_n 3, 1) := by decide +kernel
theorem d_F_game_1 : decode (z_c m_F_game) 1 = .ok (.ifCond .lt 9, 3) := by decide +kernel
theorem d_F_game_4 : decode (z_c m_F_game) 4 = .ok (.iload_n 3, 1) := by decide +kernel
theorem d_F_game_5 : decode (z_c m_F_game) 5 = .ok (.bipush 10, 2) := by decide +kernel
theorem d_F_game_7 : decode (z_c m_F_game) 7 = .ok (.if_icmp .le 9, 3) := by decide +kernel
theorem d_F_game_10 : decode (z_c m_F_game) 10 = .ok (.aload_n 0, 1) := by decide +kernel
theorem d_F_game_11 : decode (z_c m_F_game) 11 = .ok (.iconst 1, 1) := by decide +kernel
theorem d_F_game_12 : decode (z_c m_F_game) 12 = .ok (.invokevirtual 121, 3) := by decide +kernel
theorem d_F_game_15 : decode (z_c m_F_game) 15 = .ok (.ireturn, 1) := by decide +kernel
theorem d_F_game_16 : decode (z_c m_F_game) 16 = .ok (.aload_n 0, 1) := by decide +kernel
theorem d_F_game_17 : decode (z_c m_F_game) 17 = .ok (.iload_n 1, 1) := by decide +kernel
theorem d_F_game_18 : decode (z_c m_F_game) 18 = .ok (.iload_n 2, 1) := by decide +kernel
theorem d_F_game_19 : decode (z_c m_F_game) 19 = .ok (.invokevirtual 294, 3) := by decide +kernel
theorem d_F_game_22 : decode (z_c m_F_game) 22 = .ok (.istore 4, 2) := by decide +kernel
theorem d_F_game_24 : decode (z_c m_F_game) 24 = .ok (.iload 4, 2) := by decide +kernel
theorem d_F_game_26 : decode (z_c m_F_game) 26 = .ok (.ifCond .eq 10, 3) := by decide +kernel
theorem d_F_game_29 : decode (z_c m_F_game) 29 = .ok (.aload_n 0, 1) := by decide +kernel
theorem d_F_game_30 : decode (z_c m_F_game) 30 = .ok (.iload 4, 2) := by decide +kernel
theorem d_F_game_32 : decode (z_c m_F_game) 32 = .ok (.invokevirtual 121, 3) := by decide +kernel
theorem d_F_game_35 : decode (z_c m_F_game) 35 = .ok (.ireturn, 1) := by decide +kernel
theorem d_F_game_36 : decode (z_c m_F_game) 36 = .ok (.aload_n 0, 1) := by decide +kernel
theorem d_F_game_37 : decode (z_c m_F_game) 37 = .ok (.getfield 60, 3) := by decide +kernel
theorem d_F_game_40 : decode (z_c m_F_game) 40 = .ok (.aload_n 0, 1) := by decide +kernel
theorem d_F_game_41 : decode (z_c m_F_game) 41 = .ok (.getfield 50, 3) := by decide +kernel
theorem d_F_game_44 : decode (z_c m_F_game) 44 = .ok (.invokevirtual 303, 3) := by decide +kernel
theorem d_F_game_47 : decode (z_c m_F_game) 47 = .ok (.aload_n 0, 1) := by decide +kernel
theorem d_F_game_48 : decode (z_c m_F_game) 48 = .ok (.aload_n 0, 1) := by decide +kernel
theorem d_F_game_49 : decode (z_c m_F_game) 49 = .ok (.getfield 60, 3) := by decide +kernel
theorem d_F_game_52 : decode (z_c m_F_game) 52 = .ok (.getfield 396, 3) := by decide +kernel
theorem d_F_game_55 : decode (z_c m_F_game) 55 = .ok (.aload_n 0, 1) := by decide +kernel
theorem d_F_game_56 : decode (z_c m_F_game) 56 = .ok (.getfield 60, 3) := by decide +kernel
theorem d_F_game_59 : decode (z_c m_F_game) 59 = .ok (.getfield 397, 3) := by decide +kernel
theorem d_F_game_62 : decode (z_c m_F_game) 62 = .ok (.iload_n 3, 1) := by decide +kernel
theorem d_F_game_63 : decode (z_c m_F_game) 63 = .ok (.iconst 1, 1) := by decide +kernel
theorem d_F_game_64 : decode (z_c m_F_game) 64 = .ok (.invokestatic 398, 3) := by decide +kernel
theorem d_F_game_67 : decode (z_c m_F_game) 67 = .ok (.invokevirtual 176, 3) := by decide +kernel
theorem d_F_game_70 : decode (z_c m_F_game) 70 = .ok (.ireturn, 1) := by decide +kernel
set_option maxRecDepth 8000 in
theorem b_F_game_0 {X : z_X} {N : Nat} {σ g : z_G} {Q : z_P} {a1 a2 a3 : Int} (hx : z_lay X N σ 0 z_SF z_RF) (h : ((a3 < 0) → Q (-1) (z_up g 0 0 1)) ∧ (¬ (a3 < 0) → (((a3 ≤ 10) → (z_O X 4 m_F_whyNotOfTree [(2, 0), (0, a1), (0, a2)] N σ g (fun r0 g0 => (((r0 = 0) → (z_O X 2 m_Sp_standOn [(2, 22), (2, 18)] N σ g0 (fun r1 g1 => (z_O X 14 m_F_playOut [(0, g1 22 1), (0, g1 22 3), (0, a3), (0, 1)] N σ g1 (fun r2 g2 => Q r2 (z_up g2 0 0 0)))))) ∧ (¬ (r0 = 0) → Q (-1) (z_up g0 0 0 r0)))))) ∧ (¬ (a3 ≤ 10) → Q (-1) (z_up g 0 0 1))))) : z_O X 15 m_F_game [(2, 0), (0, a1), (0, a2), (0, a3)] N σ g Q := by
  refine z_Oenter mi_F_game rfl (fun _ => ?_)
  show z_U X 15 m_F_game 0 [(0, (2, 0)), (1, (0, a1)), (2, (0, a2)), (3, (0, a3))] [] N σ g Q
  refine z_iload_n (i := 3) 3 d_F_game_0 rfl rfl ?_
  refine z_if_lt (tgt := 10) d_F_game_1 (by decide) (fun c1 => ?_) (fun c1 => ?_)
  · have h := h.1 c1
    refine z_aload_n (i := 0) (c := 0) 0 d_F_game_10 rfl rfl rfl ?_
    refine z_iconst (n := 1) d_F_game_11 (by decide) ?_
    refine z_cV (c := 0) (as := [(0, 1)]) (d' := 1) (st := []) d_F_game_12 mi_F_none ml_F_121 mv_F_none se_F_none rfl rfl rfl rfl (ks_F_0 hx) rfl rfl (kl_F_0 hx) rfl rfl (b_F_none_0 hx ?_)
    intro _
    show z_U X 15 m_F_game 15 [(0, (2, 0)), (1, (0, a1)), (2, (0, a2)), (3, (0, a3))] [(0, (-1))] N σ (z_up g 0 0 1) Q
    exact z_iret d_F_game_15 rfl (by decide) (by decide) ⟨rfl, rfl, h⟩
  · have h := h.2 c1
    refine z_iload_n (i := 3) 3 d_F_game_4 rfl rfl ?_
    refine z_bipush (n := 10) d_F_game_5 (by decide) (by decide) ?_
    refine z_icmp_le (tgt := 16) d_F_game_7 (by decide) (fun c2 => ?_) (fun c2 => ?_)
    · have h := h.1 c2
      refine z_aload_n (i := 0) (c := 0) 0 d_F_game_16 rfl rfl rfl ?_
      refine z_iload_n (i := 1) 1 d_F_game_17 rfl rfl ?_
      refine z_iload_n (i := 2) 2 d_F_game_18 rfl rfl ?_
      refine z_cV (c := 0) (as := [(0, a1), (0, a2)]) (d' := 4) (st := []) d_F_game_19 mi_F_whyNotOfTree ml_F_294 mv_F_whyNotOfTree se_F_whyNotOfTree rfl rfl rfl rfl (ks_F_0 hx) rfl rfl (kl_F_0 hx) rfl rfl (z_Omono h (fun r0 g0 _ h hro => ?_))
      show z_U X 15 m_F_game 22 [(0, (2, 0)), (1, (0, a1)), (2, (0, a2)), (3, (0, a3))] [(0, r0)] N σ g0 Q
      refine z_istore (ls' := [(4, (0, r0)), (0, (2, 0)), (1, (0, a1)), (2, (0, a2)), (3, (0, a3))]) d_F_game_22 rfl rfl ?_
      refine z_iload 0 d_F_game_24 rfl ?_
      refine z_if_eq (tgt := 36) d_F_game_26 (by decide) (fun c3 => ?_) (fun c3 => ?_)
      · have h := h.1 c3
        refine z_aload_n (i := 0) (c := 0) 1 d_F_game_36 rfl rfl rfl ?_
        refine z_getr (c := 0) (kI := 10) (r2 := 22) d_F_game_37 fd_F_spot fl_F_60 rfl rfl rfl (ks_F_0 hx) (kl_F_0 hx) (kr_F_0_10 hx) ?_
        refine z_aload_n (i := 0) (c := 0) 1 d_F_game_40 rfl rfl rfl ?_
        refine z_getr (c := 0) (kI := 8) (r2 := 18) d_F_game_41 fd_F_chain fl_F_50 rfl rfl rfl (ks_F_0 hx) (kl_F_0 hx) (kr_F_0_8 hx) ?_
        refine z_cV (c := 22) (as := [(2, 18)]) (d' := 2) (st := []) d_F_game_44 mi_Sp_standOn ml_F_303 mv_Sp_standOn se_Sp_standOn rfl rfl rfl rfl (ks_F_22 hx) rfl rfl (kl_F_22 hx) rfl rfl (z_Omono h (fun r1 g1 _ h hro => ?_))
        show z_U X 15 m_F_game 47 [(4, (0, r0)), (0, (2, 0)), (1, (0, a1)), (2, (0, a2)), (3, (0, a3))] [] N σ g1 Q
        refine z_aload_n (i := 0) (c := 0) 1 d_F_game_47 rfl rfl rfl ?_
        refine z_aload_n (i := 0) (c := 0) 1 d_F_game_48 rfl rfl rfl ?_
        refine z_getr (c := 0) (kI := 10) (r2 := 22) d_F_game_49 fd_F_spot fl_F_60 rfl rfl rfl (ks_F_0 hx) (kl_F_0 hx) (kr_F_0_10 hx) ?_
        refine z_geti (c := 22) (kI := 1) d_F_game_52 fd_Sp_lowBottom fl_F_396 (Or.inl rfl) rfl rfl (ks_F_22 hx) (kl_F_22 hx) ?_
        refine z_aload_n (i := 0) (c := 0) 1 d_F_game_55 rfl rfl rfl ?_
        refine z_getr (c := 0) (kI := 10) (r2 := 22) d_F_game_56 fd_F_spot fl_F_60 rfl rfl rfl (ks_F_0 hx) (kl_F_0 hx) (kr_F_0_10 hx) ?_
        refine z_geti (c := 22) (kI := 3) d_F_game_59 fd_Sp_highBottom fl_F_397 (Or.inl rfl) rfl rfl (ks_F_22 hx) (kl_F_22 hx) ?_
        refine z_iload_n (i := 3) 4 d_F_game_62 rfl rfl ?_
        refine z_iconst (n := 1) d_F_game_63 (by decide) ?_
        refine z_cS (as := [(0, g1 22 1), (0, g1 22 3), (0, a3), (0, 1)]) (d' := 14) (st := [(2, 0)]) d_F_game_64 mi_F_playOut ml_F_398 ms_F_playOut rfl rfl rfl rfl rfl (z_Omono h (fun r2 g2 _ h hro => ?_))
        show z_U X 15 m_F_game 67 [(4, (0, r0)), (0, (2, 0)), (1, (0, a1)), (2, (0, a2)), (3, (0, a3))] [(0, r2), (2, 0)] N σ g2 Q
        refine z_cV (c := 0) (as := [(0, r2)]) (d' := 1) (st := []) d_F_game_67 mi_F_give ml_F_176 mv_F_give se_F_give rfl rfl rfl rfl (ks_F_0 hx) rfl rfl (kl_F_0 hx) rfl rfl (b_F_give_0 hx ?_)
        intro _
        show z_U X 15 m_F_game 70 [(4, (0, r0)), (0, (2, 0)), (1, (0, a1)), (2, (0, a2)), (3, (0, a3))] [(0, r2)] N σ (z_up g2 0 0 0) Q
        exact z_iret d_F_game_70 rfl (by decide) (by decide) ⟨rfl, rfl, h⟩
      · have h := h.2 c3
        refine z_aload_n (i := 0) (c := 0) 1 d_F_game_29 rfl rfl rfl ?_
        refine z_iload 0 d_F_game_30 rfl ?_
        refine z_cV (c := 0) (as := [(0, r0)]) (d' := 1) (st := []) d_F_game_32 mi_F_none ml_F_121 mv_F_none se_F_none rfl rfl rfl rfl (ks_F_0 hx) rfl rfl (kl_F_0 hx) rfl rfl (b_F_none_0 hx ?_)
        intro _
        show z_U X 15 m_F_game 35 [(4, (0, r0)), (0, (2, 0)), (1, (0, a1)), (2, (0, a2)), (3, (0, a3))] [(0, (-1))] N σ (z_up g0 0 0 r0) Q
        exact z_iret d_F_game_35 rfl (by decide) (by decide) ⟨rfl, rfl, h⟩
    · have h := h.2 c2
      refine z_aload_n (i := 0) (c := 0) 0 d_F_game_10 rfl rfl rfl ?_
      refine z_iconst (n := 1) d_F_game_11 (by decide) ?_
      refine z_cV (c := 0) (as := [(0, 1)]) (d' := 1) (st := []) d_F_game_12 mi_F_none ml_F_121 mv_F_none se_F_none rfl rfl rfl rfl (ks_F_0 hx) rfl rfl (kl_F_0 hx) rfl rfl (b_F_none_0 hx ?_)
      intro _
      show z_U X 15 m_F_game 15 [(0, (2, 0)), (1, (0, a1)), (2, (0, a2)), (3, (0, a3))] [(0, (-1))] N σ (z_up g 0 0 1) Q
      exact z_iret d_F_game_15 rfl (by decide) (by decide) ⟨rfl, rfl, h⟩
theorem d_F_moveOf_0 : decode (z_c m_F_moveOf) 0 = .ok (.iload_n 3, 1) := by decide +kernel
theorem d_F_moveOf_1 : decode (z_c m_F_moveOf) 1 = .ok (.iconst 1, 1) := by decide +kernel
theorem d_F_moveOf_2 : decode (z_c m_F_moveOf) 2 = .ok (.if_icmp .lt 9, 3) := by decide +kernel
theorem d_F_moveOf_5 : decode (z_c m_F_moveOf) 5 = .ok (.iload_n 3, 1) := by decide +kernel
theorem d_F_moveOf_6 : decode (z_c m_F_moveOf) 6 = .ok (.bipush 10, 2) := by decide +kernel
theorem d_F_moveOf_8 : decode (z_c m_F_moveOf) 8 = .ok (.if_icmp .le 9, 3) := by decide +kernel
theorem d_F_moveOf_11 : decode (z_c m_F_moveOf) 11 = .ok (.aload_n 0, 1) := by decide +kernel
theorem d_F_moveOf_12 : decode (z_c m_F_moveOf) 12 = .ok (.iconst 1, 1) := by decide +kernel
theorem d_F_moveOf_13 : decode (z_c m_F_moveOf) 13 = .ok (.invokevirtual 121, 3) := by decide +kernel
theorem d_F_moveOf_16 : decode (z_c m_F_moveOf) 16 = .ok (.ireturn, 1) := by decide +kernel
theorem d_F_moveOf_17 : decode (z_c m_F_moveOf) 17 = .ok (.aload_n 0, 1) := by decide +kernel
theorem d_F_moveOf_18 : decode (z_c m_F_moveOf) 18 = .ok (.iload_n 1, 1) := by decide +kernel
theorem d_F_moveOf_19 : decode (z_c m_F_moveOf) 19 = .ok (.iload_n 2, 1) := by decide +kernel
theorem d_F_moveOf_20 : decode (z_c m_F_moveOf) 20 = .ok (.invokevirtual 294, 3) := by decide +kernel
theorem d_F_moveOf_23 : decode (z_c m_F_moveOf) 23 = .ok (.istore 4, 2) := by decide +kernel
theorem d_F_moveOf_25 : decode (z_c m_F_moveOf) 25 = .ok (.iload 4, 2) := by decide +kernel
theorem d_F_moveOf_27 : decode (z_c m_F_moveOf) 27 = .ok (.ifCond .eq 10, 3) := by decide +kernel
theorem d_F_moveOf_30 : decode (z_c m_F_moveOf) 30 = .ok (.aload_n 0, 1) := by decide +kernel
theorem d_F_moveOf_31 : decode (z_c m_F_moveOf) 31 = .ok (.iload 4, 2) := by decide +kernel
theorem d_F_moveOf_33 : decode (z_c m_F_moveOf) 33 = .ok (.invokevirtual 121, 3) := by decide +kernel
theorem d_F_moveOf_36 : decode (z_c m_F_moveOf) 36 = .ok (.ireturn, 1) := by decide +kernel
theorem d_F_moveOf_37 : decode (z_c m_F_moveOf) 37 = .ok (.aload_n 0, 1) := by decide +kernel
theorem d_F_moveOf_38 : decode (z_c m_F_moveOf) 38 = .ok (.getfield 60, 3) := by decide +kernel
theorem d_F_moveOf_41 : decode (z_c m_F_moveOf) 41 = .ok (.aload_n 0, 1) := by decide +kernel
theorem d_F_moveOf_42 : decode (z_c m_F_moveOf) 42 = .ok (.getfield 50, 3) := by decide +kernel
theorem d_F_moveOf_45 : decode (z_c m_F_moveOf) 45 = .ok (.invokevirtual 303, 3) := by decide +kernel
theorem d_F_moveOf_48 : decode (z_c m_F_moveOf) 48 = .ok (.aload_n 0, 1) := by decide +kernel
theorem d_F_moveOf_49 : decode (z_c m_F_moveOf) 49 = .ok (.getfield 60, 3) := by decide +kernel
theorem d_F_moveOf_52 : decode (z_c m_F_moveOf) 52 = .ok (.invokevirtual 285, 3) := by decide +kernel
theorem d_F_moveOf_55 : decode (z_c m_F_moveOf) 55 = .ok (.istore 5, 2) := by decide +kernel
theorem d_F_moveOf_57 : decode (z_c m_F_moveOf) 57 = .ok (.aload_n 0, 1) := by decide +kernel
theorem d_F_moveOf_58 : decode (z_c m_F_moveOf) 58 = .ok (.getfield 60, 3) := by decide +kernel
theorem d_F_moveOf_61 : decode (z_c m_F_moveOf) 61 = .ok (.getfield 396, 3) := by decide +kernel
theorem d_F_moveOf_64 : decode (z_c m_F_moveOf) 64 = .ok (.iload 5, 2) := by decide +kernel
theorem d_F_moveOf_66 : decode (z_c m_F_moveOf) 66 = .ok (.iload_n 3, 1) := by decide +kernel
theorem d_F_moveOf_67 : decode (z_c m_F_moveOf) 67 = .ok (.iconst 1, 1) := by decide +kernel
theorem d_F_moveOf_68 : decode (z_c m_F_moveOf) 68 = .ok (.isub, 1) := by decide +kernel
theorem d_F_moveOf_69 : decode (z_c m_F_moveOf) 69 = .ok (.iconst 0, 1) := by decide +kernel
theorem d_F_moveOf_70 : decode (z_c m_F_moveOf) 70 = .ok (.invokestatic 398, 3) := by decide +kernel
theorem d_F_moveOf_73 : decode (z_c m_F_moveOf) 73 = .ok (.istore 6, 2) := by decide +kernel
theorem d_F_moveOf_75 : decode (z_c m_F_moveOf) 75 = .ok (.iload 5, 2) := by decide +kernel
theorem d_F_moveOf_77 : decode (z_c m_F_moveOf) 77 = .ok (.aload_n 0, 1) := by decide +kernel
theorem d_F_moveOf_78 : decode (z_c m_F_moveOf) 78 = .ok (.getfield 60, 3) := by decide +kernel
theorem d_F_moveOf_81 : decode (z_c m_F_moveOf) 81 = .ok (.getfield 397, 3) := by decide +kernel
theorem d_F_moveOf_84 : decode (z_c m_F_moveOf) 84 = .ok (.iload_n 3, 1) := by decide +kernel
theorem d_F_moveOf_85 : decode (z_c m_F_moveOf) 85 = .ok (.iconst 1, 1) := by decide +kernel
theorem d_F_moveOf_86 : decode (z_c m_F_moveOf) 86 = .ok (.isub, 1) := by decide +kernel
theorem d_F_moveOf_87 : decode (z_c m_F_moveOf) 87 = .ok (.iconst 0, 1) := by decide +kernel
theorem d_F_moveOf_88 : decode (z_c m_F_moveOf) 88 = .ok (.invokestatic 398, 3) := by decide +kernel
theorem d_F_moveOf_91 : decode (z_c m_F_moveOf) 91 = .ok (.istore 7, 2) := by decide +kernel
theorem d_F_moveOf_93 : decode (z_c m_F_moveOf) 93 = .ok (.aload_n 0, 1) := by decide +kernel
theorem d_F_moveOf_94 : decode (z_c m_F_moveOf) 94 = .ok (.iload 6, 2) := by decide +kernel
theorem d_F_moveOf_96 : decode (z_c m_F_moveOf) 96 = .ok (.iload 7, 2) := by decide +kernel
theorem d_F_moveOf_98 : decode (z_c m_F_moveOf) 98 = .ok (.if_icmp .lt 7, 3) := by decide +kernel
theorem d_F_moveOf_101 : decode (z_c m_F_moveOf) 101 = .ok (.iconst 0, 1) := by decide +kernel
theorem d_F_moveOf_102 : decode (z_c m_F_moveOf) 102 = .ok (.goto 4, 3) := by decide +kernel
theorem d_F_moveOf_105 : decode (z_c m_F_moveOf) 105 = .ok (.iconst 1, 1) := by decide +kernel
theorem d_F_moveOf_106 : decode (z_c m_F_moveOf) 106 = .ok (.invokevirtual 176, 3) := by decide +kernel
theorem d_F_moveOf_109 : decode (z_c m_F_moveOf) 109 = .ok (.ireturn, 1) := by decide +kernel
set_option maxRecDepth 8000 in
theorem b_F_moveOf_0 {X : z_X} {N : Nat} {σ g : z_G} {Q : z_P} {a1 a2 a3 : Int} (hx : z_lay X N σ 0 z_SF z_RF) (h : ((a3 < 1) → Q (-1) (z_up g 0 0 1)) ∧ (¬ (a3 < 1) → (((a3 ≤ 10) → (z_O X 4 m_F_whyNotOfTree [(2, 0), (0, a1), (0, a2)] N σ g (fun r0 g0 => (((r0 = 0) → (z_O X 2 m_Sp_standOn [(2, 22), (2, 18)] N σ g0 (fun r1 g1 => ((-2147483648 ≤ ((g1 22 1) + (g1 22 3)) ∧ ((g1 22 1) + (g1 22 3)) ≤ 2147483647) ∧ ((-2147483648 ≤ (a3 - 1) ∧ (a3 - 1) ≤ 2147483647) ∧ (z_O X 14 m_F_playOut [(0, g1 22 1), (0, (g1 22 1) + (g1 22 3)), (0, a3 - 1), (0, 0)] N σ g1 (fun r2 g2 => (z_O X 14 m_F_playOut [(0, (g1 22 1) + (g1 22 3)), (0, g2 22 3), (0, a3 - 1), (0, 0)] N σ g2 (fun r3 g3 => (((r2 < r3) → Q 1 (z_up g3 0 0 0)) ∧ (¬ (r2 < r3) → Q 0 (z_up g3 0 0 0)))))))))))) ∧ (¬ (r0 = 0) → Q (-1) (z_up g0 0 0 r0)))))) ∧ (¬ (a3 ≤ 10) → Q (-1) (z_up g 0 0 1))))) : z_O X 15 m_F_moveOf [(2, 0), (0, a1), (0, a2), (0, a3)] N σ g Q := by
  refine z_Oenter mi_F_moveOf rfl (fun _ => ?_)
  show z_U X 15 m_F_moveOf 0 [(0, (2, 0)), (1, (0, a1)), (2, (0, a2)), (3, (0, a3))] [] N σ g Q
  refine z_iload_n (i := 3) 3 d_F_moveOf_0 rfl rfl ?_
  refine z_iconst (n := 1) d_F_moveOf_1 (by decide) ?_
  refine z_icmp_lt (tgt := 11) d_F_moveOf_2 (by decide) (fun c1 => ?_) (fun c1 => ?_)
  · have h := h.1 c1
    refine z_aload_n (i := 0) (c := 0) 0 d_F_moveOf_11 rfl rfl rfl ?_
    refine z_iconst (n := 1) d_F_moveOf_12 (by decide) ?_
    refine z_cV (c := 0) (as := [(0, 1)]) (d' := 1) (st := []) d_F_moveOf_13 mi_F_none ml_F_121 mv_F_none se_F_none rfl rfl rfl rfl (ks_F_0 hx) rfl rfl (kl_F_0 hx) rfl rfl (b_F_none_0 hx ?_)
    intro _
    show z_U X 15 m_F_moveOf 16 [(0, (2, 0)), (1, (0, a1)), (2, (0, a2)), (3, (0, a3))] [(0, (-1))] N σ (z_up g 0 0 1) Q
    exact z_iret d_F_moveOf_16 rfl (by decide) (by decide) ⟨rfl, rfl, h⟩
  · have h := h.2 c1
    refine z_iload_n (i := 3) 3 d_F_moveOf_5 rfl rfl ?_
    refine z_bipush (n := 10) d_F_moveOf_6 (by decide) (by decide) ?_
    refine z_icmp_le (tgt := 17) d_F_moveOf_8 (by decide) (fun c2 => ?_) (fun c2 => ?_)
    · have h := h.1 c2
      refine z_aload_n (i := 0) (c := 0) 0 d_F_moveOf_17 rfl rfl rfl ?_
      refine z_iload_n (i := 1) 1 d_F_moveOf_18 rfl rfl ?_
      refine z_iload_n (i := 2) 2 d_F_moveOf_19 rfl rfl ?_
      refine z_cV (c := 0) (as := [(0, a1), (0, a2)]) (d' := 4) (st := []) d_F_moveOf_20 mi_F_whyNotOfTree ml_F_294 mv_F_whyNotOfTree se_F_whyNotOfTree rfl rfl rfl rfl (ks_F_0 hx) rfl rfl (kl_F_0 hx) rfl rfl (z_Omono h (fun r0 g0 _ h hro => ?_))
      show z_U X 15 m_F_moveOf 23 [(0, (2, 0)), (1, (0, a1)), (2, (0, a2)), (3, (0, a3))] [(0, r0)] N σ g0 Q
      refine z_istore (ls' := [(4, (0, r0)), (0, (2, 0)), (1, (0, a1)), (2, (0, a2)), (3, (0, a3))]) d_F_moveOf_23 rfl rfl ?_
      refine z_iload 0 d_F_moveOf_25 rfl ?_
      refine z_if_eq (tgt := 37) d_F_moveOf_27 (by decide) (fun c3 => ?_) (fun c3 => ?_)
      · have h := h.1 c3
        refine z_aload_n (i := 0) (c := 0) 1 d_F_moveOf_37 rfl rfl rfl ?_
        refine z_getr (c := 0) (kI := 10) (r2 := 22) d_F_moveOf_38 fd_F_spot fl_F_60 rfl rfl rfl (ks_F_0 hx) (kl_F_0 hx) (kr_F_0_10 hx) ?_
        refine z_aload_n (i := 0) (c := 0) 1 d_F_moveOf_41 rfl rfl rfl ?_
        refine z_getr (c := 0) (kI := 8) (r2 := 18) d_F_moveOf_42 fd_F_chain fl_F_50 rfl rfl rfl (ks_F_0 hx) (kl_F_0 hx) (kr_F_0_8 hx) ?_
        refine z_cV (c := 22) (as := [(2, 18)]) (d' := 2) (st := []) d_F_moveOf_45 mi_Sp_standOn ml_F_303 mv_Sp_standOn se_Sp_standOn rfl rfl rfl rfl (ks_F_22 hx) rfl rfl (kl_F_22 hx) rfl rfl (z_Omono h (fun r1 g1 _ h hro => ?_))
        show z_U X 15 m_F_moveOf 48 [(4, (0, r0)), (0, (2, 0)), (1, (0, a1)), (2, (0, a2)), (3, (0, a3))] [] N σ g1 Q
        refine z_aload_n (i := 0) (c := 0) 1 d_F_moveOf_48 rfl rfl rfl ?_
        refine z_getr (c := 0) (kI := 10) (r2 := 22) d_F_moveOf_49 fd_F_spot fl_F_60 rfl rfl rfl (ks_F_0 hx) (kl_F_0 hx) (kr_F_0_10 hx) ?_
        refine z_cV (c := 22) (as := []) (d' := 1) (st := []) d_F_moveOf_52 mi_Sp_ownBottom ml_F_285 mv_Sp_ownBottom se_Sp_ownBottom rfl rfl rfl rfl (ks_F_22 hx) rfl rfl (kl_F_22 hx) rfl rfl (b_Sp_ownBottom_0 (ky_F_22 hx) ?_)
        obtain ⟨c4, h⟩ := h
        refine ⟨c4, ?_⟩
        intro _
        show z_U X 15 m_F_moveOf 55 [(4, (0, r0)), (0, (2, 0)), (1, (0, a1)), (2, (0, a2)), (3, (0, a3))] [(0, (g1 22 1) + (g1 22 3))] N σ g1 Q
        refine z_istore (ls' := [(5, (0, (g1 22 1) + (g1 22 3))), (4, (0, r0)), (0, (2, 0)), (1, (0, a1)), (2, (0, a2)), (3, (0, a3))]) d_F_moveOf_55 rfl rfl ?_
        refine z_aload_n (i := 0) (c := 0) 2 d_F_moveOf_57 rfl rfl rfl ?_
        refine z_getr (c := 0) (kI := 10) (r2 := 22) d_F_moveOf_58 fd_F_spot fl_F_60 rfl rfl rfl (ks_F_0 hx) (kl_F_0 hx) (kr_F_0_10 hx) ?_
        refine z_geti (c := 22) (kI := 1) d_F_moveOf_61 fd_Sp_lowBottom fl_F_396 (Or.inl rfl) rfl rfl (ks_F_22 hx) (kl_F_22 hx) ?_
        refine z_iload 0 d_F_moveOf_64 rfl ?_
        refine z_iload_n (i := 3) 5 d_F_moveOf_66 rfl rfl ?_
        refine z_iconst (n := 1) d_F_moveOf_67 (by decide) ?_
        obtain ⟨c5, h⟩ := h
        refine z_isub d_F_moveOf_68 c5 ?_
        refine z_iconst (n := 0) d_F_moveOf_69 (by decide) ?_
        refine z_cS (as := [(0, g1 22 1), (0, (g1 22 1) + (g1 22 3)), (0, a3 - 1), (0, 0)]) (d' := 14) (st := []) d_F_moveOf_70 mi_F_playOut ml_F_398 ms_F_playOut rfl rfl rfl rfl rfl (z_Omono h (fun r2 g2 _ h hro => ?_))
        show z_U X 15 m_F_moveOf 73 [(5, (0, (g1 22 1) + (g1 22 3))), (4, (0, r0)), (0, (2, 0)), (1, (0, a1)), (2, (0, a2)), (3, (0, a3))] [(0, r2)] N σ g2 Q
        refine z_istore (ls' := [(6, (0, r2)), (5, (0, (g1 22 1) + (g1 22 3))), (4, (0, r0)), (0, (2, 0)), (1, (0, a1)), (2, (0, a2)), (3, (0, a3))]) d_F_moveOf_73 rfl rfl ?_
        refine z_iload 1 d_F_moveOf_75 rfl ?_
        refine z_aload_n (i := 0) (c := 0) 3 d_F_moveOf_77 rfl rfl rfl ?_
        refine z_getr (c := 0) (kI := 10) (r2 := 22) d_F_moveOf_78 fd_F_spot fl_F_60 rfl rfl rfl (ks_F_0 hx) (kl_F_0 hx) (kr_F_0_10 hx) ?_
        refine z_geti (c := 22) (kI := 3) d_F_moveOf_81 fd_Sp_highBottom fl_F_397 (Or.inl rfl) rfl rfl (ks_F_22 hx) (kl_F_22 hx) ?_
        refine z_iload_n (i := 3) 6 d_F_moveOf_84 rfl rfl ?_
        refine z_iconst (n := 1) d_F_moveOf_85 (by decide) ?_
        refine z_isub d_F_moveOf_86 c5 ?_
        refine z_iconst (n := 0) d_F_moveOf_87 (by decide) ?_
        refine z_cS (as := [(0, (g1 22 1) + (g1 22 3)), (0, g2 22 3), (0, a3 - 1), (0, 0)]) (d' := 14) (st := []) d_F_moveOf_88 mi_F_playOut ml_F_398 ms_F_playOut rfl rfl rfl rfl rfl (z_Omono h (fun r3 g3 _ h hro => ?_))
        show z_U X 15 m_F_moveOf 91 [(6, (0, r2)), (5, (0, (g1 22 1) + (g1 22 3))), (4, (0, r0)), (0, (2, 0)), (1, (0, a1)), (2, (0, a2)), (3, (0, a3))] [(0, r3)] N σ g3 Q
        refine z_istore (ls' := [(7, (0, r3)), (6, (0, r2)), (5, (0, (g1 22 1) + (g1 22 3))), (4, (0, r0)), (0, (2, 0)), (1, (0, a1)), (2, (0, a2)), (3, (0, a3))]) d_F_moveOf_91 rfl rfl ?_
        refine z_aload_n (i := 0) (c := 0) 4 d_F_moveOf_93 rfl rfl rfl ?_
        refine z_iload 1 d_F_moveOf_94 rfl ?_
        refine z_iload 0 d_F_moveOf_96 rfl ?_
        refine z_icmp_lt (tgt := 105) d_F_moveOf_98 (by decide) (fun c6 => ?_) (fun c6 => ?_)
        · have h := h.1 c6
          refine z_iconst (n := 1) d_F_moveOf_105 (by decide) ?_
          refine z_cV (c := 0) (as := [(0, 1)]) (d' := 1) (st := []) d_F_moveOf_106 mi_F_give ml_F_176 mv_F_give se_F_give rfl rfl rfl rfl (ks_F_0 hx) rfl rfl (kl_F_0 hx) rfl rfl (b_F_give_0 hx ?_)
          intro _
          show z_U X 15 m_F_moveOf 109 [(7, (0, r3)), (6, (0, r2)), (5, (0, (g1 22 1) + (g1 22 3))), (4, (0, r0)), (0, (2, 0)), (1, (0, a1)), (2, (0, a2)), (3, (0, a3))] [(0, 1)] N σ (z_up g3 0 0 0) Q
          exact z_iret d_F_moveOf_109 rfl (by decide) (by decide) ⟨rfl, rfl, h⟩
        · have h := h.2 c6
          refine z_iconst (n := 0) d_F_moveOf_101 (by decide) ?_
          refine z_goto (tgt := 106) d_F_moveOf_102 (by decide) ?_
          refine z_cV (c := 0) (as := [(0, 0)]) (d' := 1) (st := []) d_F_moveOf_106 mi_F_give ml_F_176 mv_F_give se_F_give rfl rfl rfl rfl (ks_F_0 hx) rfl rfl (kl_F_0 hx) rfl rfl (b_F_give_0 hx ?_)
          intro _
          show z_U X 15 m_F_moveOf 109 [(7, (0, r3)), (6, (0, r2)), (5, (0, (g1 22 1) + (g1 22 3))), (4, (0, r0)), (0, (2, 0)), (1, (0, a1)), (2, (0, a2)), (3, (0, a3))] [(0, 0)] N σ (z_up g3 0 0 0) Q
          exact z_iret d_F_moveOf_109 rfl (by decide) (by decide) ⟨rfl, rfl, h⟩
      · have h := h.2 c3
        refine z_aload_n (i := 0) (c := 0) 1 d_F_moveOf_30 rfl rfl rfl ?_
        refine z_iload 0 d_F_moveOf_31 rfl ?_
        refine z_cV (c := 0) (as := [(0, r0)]) (d' := 1) (st := []) d_F_moveOf_33 mi_F_none ml_F_121 mv_F_none se_F_none rfl rfl rfl rfl (ks_F_0 hx) rfl rfl (kl_F_0 hx) rfl rfl (b_F_none_0 hx ?_)
        intro _
        show z_U X 15 m_F_moveOf 36 [(4, (0, r0)), (0, (2, 0)), (1, (0, a1)), (2, (0, a2)), (3, (0, a3))] [(0, (-1))] N σ (z_up g0 0 0 r0) Q
        exact z_iret d_F_moveOf_36 rfl (by decide) (by decide) ⟨rfl, rfl, h⟩
    · have h := h.2 c2
      refine z_aload_n (i := 0) (c := 0) 0 d_F_moveOf_11 rfl rfl rfl ?_
      refine z_iconst (n := 1) d_F_moveOf_12 (by decide) ?_
      refine z_cV (c := 0) (as := [(0, 1)]) (d' := 1) (st := []) d_F_moveOf_13 mi_F_none ml_F_121 mv_F_none se_F_none rfl rfl rfl rfl (ks_F_0 hx) rfl rfl (kl_F_0 hx) rfl rfl (b_F_none_0 hx ?_)
      intro _
      show z_U X 15 m_F_moveOf 16 [(0, (2, 0)), (1, (0, a1)), (2, (0, a2)), (3, (0, a3))] [(0, (-1))] N σ (z_up g 0 0 1) Q
      exact z_iret d_F_moveOf_16 rfl (by decide) (by decide) ⟨rfl, rfl, h⟩

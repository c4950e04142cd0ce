/-! ## constructors: FareyRank, the reference (printed by gen_ctor4.py) -/
theorem d_F_init_0 : decode (z_c m_F_init) 0 = .ok (.aload_n 0, 1) := by decide +kernel
theorem d_F_init_1 : decode (z_c m_F_init) 1 = .ok (.invokespecial 1, 3) := by decide +kernel
theorem d_F_init_4 : decode (z_c m_F_init) 4 = .ok (.aload_n 0, 1) := by decide +kernel
theorem d_F_init_5 : decode (z_c m_F_init) 5 = .ok (.iconst 0, 1) := by decide +kernel
theorem d_F_init_6 : decode (z_c m_F_init) 6 = .ok (.putfield 7, 3) := by decide +kernel
theorem d_F_init_9 : decode (z_c m_F_init) 9 = .ok (.aload_n 0, 1) := by decide +kernel
theorem d_F_init_10 : decode (z_c m_F_init) 10 = .ok (.lconst 0, 1) := by decide +kernel
theorem d_F_init_11 : decode (z_c m_F_init) 11 = .ok (.putfield 13, 3) := by decide +kernel
theorem d_F_init_14 : decode (z_c m_F_init) 14 = .ok (.aload_n 0, 1) := by decide +kernel
theorem d_F_init_15 : decode (z_c m_F_init) 15 = .ok (.lconst 1, 1) := by decide +kernel
theorem d_F_init_16 : decode (z_c m_F_init) 16 = .ok (.putfield 17, 3) := by decide +kernel
theorem d_F_init_19 : decode (z_c m_F_init) 19 = .ok (.aload_n 0, 1) := by decide +kernel
theorem d_F_init_20 : decode (z_c m_F_init) 20 = .ok (.new 20, 3) := by decide +kernel
theorem d_F_init_23 : decode (z_c m_F_init) 23 = .ok (.dup, 1) := by decide +kernel
theorem d_F_init_24 : decode (z_c m_F_init) 24 = .ok (.invokespecial 22, 3) := by decide +kernel
theorem d_F_init_27 : decode (z_c m_F_init) 27 = .ok (.putfield 23, 3) := by decide +kernel
theorem d_F_init_30 : decode (z_c m_F_init) 30 = .ok (.aload_n 0, 1) := by decide +kernel
theorem d_F_init_31 : decode (z_c m_F_init) 31 = .ok (.new 27, 3) := by decide +kernel
theorem d_F_init_34 : decode (z_c m_F_init) 34 = .ok (.dup, 1) := by decide +kernel
theorem d_F_init_35 : decode (z_c m_F_init) 35 = .ok (.invokespecial 29, 3) := by decide +kernel
theorem d_F_init_38 : decode (z_c m_F_init) 38 = .ok (.putfield 30, 3) := by decide +kernel
theorem d_F_init_41 : decode (z_c m_F_init) 41 = .ok (.aload_n 0, 1) := by decide +kernel
theorem d_F_init_42 : decode (z_c m_F_init) 42 = .ok (.iconst (-1), 1) := by decide +kernel
theorem d_F_init_43 : decode (z_c m_F_init) 43 = .ok (.putfield 34, 3) := by decide +kernel
theorem d_F_init_46 : decode (z_c m_F_init) 46 = .ok (.aload_n 0, 1) := by decide +kernel
theorem d_F_init_47 : decode (z_c m_F_init) 47 = .ok (.iconst (-1), 1) := by decide +kernel
theorem d_F_init_48 : decode (z_c m_F_init) 48 = .ok (.putfield 37, 3) := by decide +kernel
theorem d_F_init_51 : decode (z_c m_F_init) 51 = .ok (.aload_n 0, 1) := by decide +kernel
theorem d_F_init_52 : decode (z_c m_F_init) 52 = .ok (.new 40, 3) := by decide +kernel
theorem d_F_init_55 : decode (z_c m_F_init) 55 = .ok (.dup, 1) := by decide +kernel
theorem d_F_init_56 : decode (z_c m_F_init) 56 = .ok (.invokespecial 42, 3) := by decide +kernel
theorem d_F_init_59 : decode (z_c m_F_init) 59 = .ok (.putfield 43, 3) := by decide +kernel
theorem d_F_init_62 : decode (z_c m_F_init) 62 = .ok (.aload_n 0, 1) := by decide +kernel
theorem d_F_init_63 : decode (z_c m_F_init) 63 = .ok (.new 47, 3) := by decide +kernel
theorem d_F_init_66 : decode (z_c m_F_init) 66 = .ok (.dup, 1) := by decide +kernel
theorem d_F_init_67 : decode (z_c m_F_init) 67 = .ok (.invokespecial 49, 3) := by decide +kernel
theorem d_F_init_70 : decode (z_c m_F_init) 70 = .ok (.putfield 50, 3) := by decide +kernel
theorem d_F_init_73 : decode (z_c m_F_init) 73 = .ok (.aload_n 0, 1) := by decide +kernel
theorem d_F_init_74 : decode (z_c m_F_init) 74 = .ok (.new 47, 3) := by decide +kernel
theorem d_F_init_77 : decode (z_c m_F_init) 77 = .ok (.dup, 1) := by decide +kernel
theorem d_F_init_78 : decode (z_c m_F_init) 78 = .ok (.invokespecial 49, 3) := by decide +kernel
theorem d_F_init_81 : decode (z_c m_F_init) 81 = .ok (.putfield 54, 3) := by decide +kernel
theorem d_F_init_84 : decode (z_c m_F_init) 84 = .ok (.aload_n 0, 1) := by decide +kernel
theorem d_F_init_85 : decode (z_c m_F_init) 85 = .ok (.new 57, 3) := by decide +kernel
theorem d_F_init_88 : decode (z_c m_F_init) 88 = .ok (.dup, 1) := by decide +kernel
theorem d_F_init_89 : decode (z_c m_F_init) 89 = .ok (.invokespecial 59, 3) := by decide +kernel
theorem d_F_init_92 : decode (z_c m_F_init) 92 = .ok (.putfield 60, 3) := by decide +kernel
theorem d_F_init_95 : decode (z_c m_F_init) 95 = .ok (.aload_n 0, 1) := by decide +kernel
theorem d_F_init_96 : decode (z_c m_F_init) 96 = .ok (.new 64, 3) := by decide +kernel
theorem d_F_init_99 : decode (z_c m_F_init) 99 = .ok (.dup, 1) := by decide +kernel
theorem d_F_init_100 : decode (z_c m_F_init) 100 = .ok (.invokespecial 66, 3) := by decide +kernel
theorem d_F_init_103 : decode (z_c m_F_init) 103 = .ok (.putfield 67, 3) := by decide +kernel
theorem d_F_init_106 : decode (z_c m_F_init) 106 = .ok (.aload_n 0, 1) := by decide +kernel
theorem d_F_init_107 : decode (z_c m_F_init) 107 = .ok (.new 64, 3) := by decide +kernel
theorem d_F_init_110 : decode (z_c m_F_init) 110 = .ok (.dup, 1) := by decide +kernel
theorem d_F_init_111 : decode (z_c m_F_init) 111 = .ok (.invokespecial 66, 3) := by decide +kernel
theorem d_F_init_114 : decode (z_c m_F_init) 114 = .ok (.putfield 71, 3) := by decide +kernel
theorem d_F_init_117 : decode (z_c m_F_init) 117 = .ok (.aload_n 0, 1) := by decide +kernel
theorem d_F_init_118 : decode (z_c m_F_init) 118 = .ok (.iconst 3, 1) := by decide +kernel
theorem d_F_init_119 : decode (z_c m_F_init) 119 = .ok (.anewarray 64, 3) := by decide +kernel
theorem d_F_init_122 : decode (z_c m_F_init) 122 = .ok (.putfield 74, 3) := by decide +kernel
theorem d_F_init_125 : decode (z_c m_F_init) 125 = .ok (.iconst 0, 1) := by decide +kernel
theorem d_F_init_126 : decode (z_c m_F_init) 126 = .ok (.istore_n 1, 1) := by decide +kernel
theorem d_F_init_127 : decode (z_c m_F_init) 127 = .ok (.iload_n 1, 1) := by decide +kernel
theorem d_F_init_128 : decode (z_c m_F_init) 128 = .ok (.iconst 3, 1) := by decide +kernel
theorem d_F_init_129 : decode (z_c m_F_init) 129 = .ok (.if_icmp .ge 22, 3) := by decide +kernel
theorem d_F_init_132 : decode (z_c m_F_init) 132 = .ok (.aload_n 0, 1) := by decide +kernel
theorem d_F_init_133 : decode (z_c m_F_init) 133 = .ok (.getfield 74, 3) := by decide +kernel
theorem d_F_init_136 : decode (z_c m_F_init) 136 = .ok (.iload_n 1, 1) := by decide +kernel
theorem d_F_init_137 : decode (z_c m_F_init) 137 = .ok (.new 64, 3) := by decide +kernel
theorem d_F_init_140 : decode (z_c m_F_init) 140 = .ok (.dup, 1) := by decide +kernel
theorem d_F_init_141 : decode (z_c m_F_init) 141 = .ok (.invokespecial 66, 3) := by decide +kernel
theorem d_F_init_144 : decode (z_c m_F_init) 144 = .ok (.aastore, 1) := by decide +kernel
theorem d_F_init_145 : decode (z_c m_F_init) 145 = .ok (.iinc 1 1, 3) := by decide +kernel
theorem d_F_init_148 : decode (z_c m_F_init) 148 = .ok (.goto (-21), 3) := by decide +kernel
theorem d_F_init_151 : decode (z_c m_F_init) 151 = .ok (.aload_n 0, 1) := by decide +kernel
theorem d_F_init_152 : decode (z_c m_F_init) 152 = .ok (.iconst 0, 1) := by decide +kernel
theorem d_F_init_153 : decode (z_c m_F_init) 153 = .ok (.putfield 78, 3) := by decide +kernel
theorem d_F_init_156 : decode (z_c m_F_init) 156 = .ok (.aload_n 0, 1) := by decide +kernel
theorem d_F_init_157 : decode (z_c m_F_init) 157 = .ok (.new 81, 3) := by decide +kernel
theorem d_F_init_160 : decode (z_c m_F_init) 160 = .ok (.dup, 1) := by decide +kernel
theorem d_F_init_161 : decode (z_c m_F_init) 161 = .ok (.invokespecial 83, 3) := by decide +kernel
theorem d_F_init_164 : decode (z_c m_F_init) 164 = .ok (.putfield 84, 3) := by decide +kernel
theorem d_F_init_167 : decode (z_c m_F_init) 167 = .ok (.aload_n 0, 1) := by decide +kernel
theorem d_F_init_168 : decode (z_c m_F_init) 168 = .ok (.new 81, 3) := by decide +kernel
theorem d_F_init_171 : decode (z_c m_F_init) 171 = .ok (.dup, 1) := by decide +kernel
theorem d_F_init_172 : decode (z_c m_F_init) 172 = .ok (.invokespecial 83, 3) := by decide +kernel
theorem d_F_init_175 : decode (z_c m_F_init) 175 = .ok (.putfield 88, 3) := by decide +kernel
theorem d_F_init_178 : decode (z_c m_F_init) 178 = .ok (.aload_n 0, 1) := by decide +kernel
theorem d_F_init_179 : decode (z_c m_F_init) 179 = .ok (.iconst 0, 1) := by decide +kernel
theorem d_F_init_180 : decode (z_c m_F_init) 180 = .ok (.putfield 91, 3) := by decide +kernel
theorem d_F_init_183 : decode (z_c m_F_init) 183 = .ok (.return_, 1) := by decide +kernel
def kS_F : z_G := (z_up (kS_Wk 96 (z_nw (z_up (kS_Wk 94 (z_nw (z_up (kS_Bd 80 (z_nw (z_up (kS_Bd 66 (z_nw (z_up (kS_Bd 52 (z_nw (z_up (z_nw (z_up (kS_Bd 37 (z_nw (z_up (kS_Bd 23 (z_nw (z_up (z_nw (z_up (kS_Ch 20 (z_nw (z_up (kS_Ch 18 (z_nw (z_up (kS_Rw 15 (z_nw (z_up (kS_Pa 9 (z_nw (z_up (kS_Tr 1 (z_nw (z_nw (fun _ _ => -1) 0 (fun _ => -1)) 1 (fun _ => -1))) 0 3 1) 9 (fun _ => -1))) 0 4 9) 15 (fun _ => -1))) 0 7 15) 18 (fun _ => -1))) 0 8 18) 20 (fun _ => -1))) 0 9 20) 22 (fun _ => -1)) 0 10 22) 23 (fun _ => -1))) 0 11 23) 37 (fun _ => -1))) 0 12 37) 51 (fun _ => -1)) 0 13 51) 52 (fun _ => -1))) 51 0 52) 66 (fun _ => -1))) 51 1 66) 80 (fun _ => -1))) 51 2 80) 94 (fun _ => -1))) 0 15 94) 96 (fun _ => -1))) 0 16 96)
set_option maxRecDepth 100000 in
theorem kr_F : ∀ q ∈ z_RF, kS_F q.1 q.2.1 = (q.2.2 : Int) := by decide +kernel
def kZ : z_G := z_nw (fun _ _ => 0) 0 (fun _ => 0)
def kM1 : z_G := z_nw (fun _ _ => -1) 0 (fun _ => -1)
/-- what the class holds when it has been made -/
def kF0 (g : z_G) : Prop := g 0 0 = 0 ∧ g 0 1 = 0 ∧ g 0 2 = 1 ∧ g 0 5 = (-1) ∧ g 0 6 = (-1) ∧ g 0 14 = 0 ∧ g 0 17 = 0 ∧ g 7 0 = 0 ∧ g 7 1 = 0 ∧ g 7 2 = 0 ∧ g 7 3 = 0 ∧ g 8 0 = (-1) ∧ g 8 1 = (-1) ∧ g 8 2 = (-1) ∧ g 8 3 = (-1) ∧ g 10 1 = 0 ∧ g 23 0 = 5 ∧ g 23 1 = 4 ∧ g 24 0 = 0 ∧ g 24 1 = 1 ∧ g 24 2 = 1 ∧ g 24 3 = 1 ∧ g 24 4 = 0 ∧ g 25 3 = 0 ∧ g 31 0 = 0 ∧ (∃ κ, eX κ 0 (g 30) (g 29 1) 10002) ∧ ∀ d : Nat, d ≤ 200 → g 16 d = n_muT.getD d 0 ∧ g 17 d = n_MmT.getD d 0
theorem s_F_init {X : z_X} {Q : z_Q} (ht : z_tl X = 0) (hs0 : z_sh X 0 = (0, 11)) (hs1 : z_sh X 1 = (0, 8)) (hs2 : z_sh X 2 = (5, 4)) (hs3 : z_sh X 3 = (2, 60)) (hs4 : z_sh X 4 = (2, 60)) (hs5 : z_sh X 5 = (2, 60)) (hs6 : z_sh X 6 = (2, 60)) (hs7 : z_sh X 7 = (1, 4)) (hs8 : z_sh X 8 = (1, 4)) (hs9 : z_sh X 9 = (0, 2)) (hs10 : z_sh X 10 = (0, 7)) (hs11 : z_sh X 11 = (3, 900)) (hs12 : z_sh X 12 = (0, 1)) (hs13 : z_sh X 13 = (1, 32)) (hs14 : z_sh X 14 = (1, 3)) (hs15 : z_sh X 15 = (0, 5)) (hs16 : z_sh X 16 = (1, 201)) (hs17 : z_sh X 17 = (1, 201)) (hs18 : z_sh X 18 = (0, 1)) (hs19 : z_sh X 19 = (1, 32)) (hs20 : z_sh X 20 = (0, 1)) (hs21 : z_sh X 21 = (1, 32)) (hs22 : z_sh X 22 = (0, 6)) (hs23 : z_sh X 23 = (0, 0)) (hs24 : z_sh X 24 = (0, 6)) (hs25 : z_sh X 25 = (0, 3)) (hs26 : z_sh X 26 = (1, 12)) (hs27 : z_sh X 27 = (1, 12)) (hs28 : z_sh X 28 = (1, 12)) (hs29 : z_sh X 29 = (0, 9)) (hs30 : z_sh X 30 = (1, 200)) (hs31 : z_sh X 31 = (0, 4)) (hs32 : z_sh X 32 = (1, 60)) (hs33 : z_sh X 33 = (1, 60)) (hs34 : z_sh X 34 = (1, 60)) (hs35 : z_sh X 35 = (1, 60)) (hs36 : z_sh X 36 = (1, 60)) (hs37 : z_sh X 37 = (0, 0)) (hs38 : z_sh X 38 = (0, 6)) (hs39 : z_sh X 39 = (0, 3)) (hs40 : z_sh X 40 = (1, 12)) (hs41 : z_sh X 41 = (1, 12)) (hs42 : z_sh X 42 = (1, 12)) (hs43 : z_sh X 43 = (0, 9)) (hs44 : z_sh X 44 = (1, 200)) (hs45 : z_sh X 45 = (0, 4)) (hs46 : z_sh X 46 = (1, 60)) (hs47 : z_sh X 47 = (1, 60)) (hs48 : z_sh X 48 = (1, 60)) (hs49 : z_sh X 49 = (1, 60)) (hs50 : z_sh X 50 = (1, 60)) (hs51 : z_sh X 51 = (6, 3)) (hs52 : z_sh X 52 = (0, 0)) (hs53 : z_sh X 53 = (0, 6)) (hs54 : z_sh X 54 = (0, 3)) (hs55 : z_sh X 55 = (1, 12)) (hs56 : z_sh X 56 = (1, 12)) (hs57 : z_sh X 57 = (1, 12)) (hs58 : z_sh X 58 = (0, 9)) (hs59 : z_sh X 59 = (1, 200)) (hs60 : z_sh X 60 = (0, 4)) (hs61 : z_sh X 61 = (1, 60)) (hs62 : z_sh X 62 = (1, 60)) (hs63 : z_sh X 63 = (1, 60)) (hs64 : z_sh X 64 = (1, 60)) (hs65 : z_sh X 65 = (1, 60)) (hs66 : z_sh X 66 = (0, 0)) (hs67 : z_sh X 67 = (0, 6)) (hs68 : z_sh X 68 = (0, 3)) (hs69 : z_sh X 69 = (1, 12)) (hs70 : z_sh X 70 = (1, 12)) (hs71 : z_sh X 71 = (1, 12)) (hs72 : z_sh X 72 = (0, 9)) (hs73 : z_sh X 73 = (1, 200)) (hs74 : z_sh X 74 = (0, 4)) (hs75 : z_sh X 75 = (1, 60)) (hs76 : z_sh X 76 = (1, 60)) (hs77 : z_sh X 77 = (1, 60)) (hs78 : z_sh X 78 = (1, 60)) (hs79 : z_sh X 79 = (1, 60)) (hs80 : z_sh X 80 = (0, 0)) (hs81 : z_sh X 81 = (0, 6)) (hs82 : z_sh X 82 = (0, 3)) (hs83 : z_sh X 83 = (1, 12)) (hs84 : z_sh X 84 = (1, 12)) (hs85 : z_sh X 85 = (1, 12)) (hs86 : z_sh X 86 = (0, 9)) (hs87 : z_sh X 87 = (1, 200)) (hs88 : z_sh X 88 = (0, 4)) (hs89 : z_sh X 89 = (1, 60)) (hs90 : z_sh X 90 = (1, 60)) (hs91 : z_sh X 91 = (1, 60)) (hs92 : z_sh X 92 = (1, 60)) (hs93 : z_sh X 93 = (1, 60)) (hs94 : z_sh X 94 = (0, 10)) (hs95 : z_sh X 95 = (1, 60)) (hs96 : z_sh X 96 = (0, 10)) (hs97 : z_sh X 97 = (1, 60)) (h : ∀ g, kF0 g → Q 0 98 kS_F g) : z_C X 8 97 4653 m_F_init [(2, 0)] 1 kM1 kZ Q := by
  refine z_enter mi_F_init (Nat.le_of_ble_eq_true rfl) (fun _ => ?_)
  show z_V X 8 97 4653 m_F_init 0 [(0, (2, 0))] [] 0 0 1 kM1 kZ Q
  refine z_aload_n (i := 0) (c := 0) 0 d_F_init_0 rfl rfl rfl ?_
  refine z_obin (c := 0) d_F_init_1 w_ol_F w_oi w_oc rfl (by decide) rfl ?_
  refine z_aload_n (i := 0) (c := 0) 0 d_F_init_4 rfl rfl rfl ?_
  refine z_iconst (n := 0) d_F_init_5 (by decide) ?_
  refine z_puti (c := 0) (kI := 0) d_F_init_6 fd_F_latestStatus fl_F_7 pf_F_latestStatus rfl rfl rfl rfl hs0 (by decide) ?_
  refine z_aload_n (i := 0) (c := 0) 0 d_F_init_9 rfl rfl rfl ?_
  refine z_lconst (v := 0) d_F_init_10 (by decide) (by decide) ?_
  refine z_putl (c := 0) (kI := 1) d_F_init_11 fd_F_toldTop fl_F_13 pf_F_toldTop rfl rfl rfl rfl hs0 (by decide) ?_
  refine z_aload_n (i := 0) (c := 0) 0 d_F_init_14 rfl rfl rfl ?_
  refine z_lconst (v := 1) d_F_init_15 (by decide) (by decide) ?_
  refine z_putl (c := 0) (kI := 2) d_F_init_16 fd_F_toldBottom fl_F_17 pf_F_toldBottom rfl rfl rfl rfl hs0 (by decide) ?_
  refine z_aload_n (i := 0) (c := 0) 0 d_F_init_19 rfl rfl rfl ?_
  refine z_new (ci := 8) (ty := tyX8) d_F_init_20 rfl rfl z_ly8 z_ty8 z_df8 w_cl_F_20 w_in_Tr w_it_Tr hs1 ht (by decide) (by decide) ?_
  refine z_dup d_F_init_23 rfl ?_
  refine z_callI (c := 1) (as := []) (d' := 3) (mc' := 7) (ms' := 252) (st := [(2, 1), (2, 0)]) d_F_init_24 mi_Tr_init ml_F_22 mv_Tr_init rfl rfl rfl (by decide) rfl rfl (Nat.le_of_ble_eq_true rfl) (by decide) (by decide) (by decide) ?_
  refine s_Tr_init (o := 1) ht hs1 hs2 hs3 hs4 hs5 hs6 hs7 hs8 ?_
  show z_V X 8 97 4653 m_F_init 27 [(0, (2, 0))] [(2, 1), (2, 0)] 8 255 (9) _ _ Q
  refine z_putr (c := 0) (c2 := 1) (kI := 3) (ty := .object "FareyRank$Trays") d_F_init_27 fd_F_trays fl_F_23 (by decide +kernel) (Or.inl ⟨_, rfl⟩) rfl rfl rfl rfl rfl rfl hs0 (by decide) ?_
  refine z_aload_n (i := 0) (c := 0) 0 d_F_init_30 rfl rfl rfl ?_
  refine z_new (ci := 2) (ty := tyX2) d_F_init_31 rfl rfl z_ly2 z_ty2 z_df2 w_cl_F_27 w_in_Pa w_it_Pa hs9 ht (by decide) (by decide) ?_
  refine z_dup d_F_init_34 rfl ?_
  refine z_callIN (c := 9) (as := []) (d' := 5) (mc' := 5) (ms' := 953) (st := [(2, 9), (2, 0)]) d_F_init_35 mi_Pa_init nl_F_29 mv_Pa_init rfl rfl rfl (by decide) rfl rfl (Nat.le_of_ble_eq_true rfl) (by decide) (by decide) (by decide) ?_
  refine s_Pa_init (o := 9) ht hs9 hs10 hs11 hs12 hs13 hs14 ?_
  show z_V X 8 97 4653 m_F_init 38 [(0, (2, 0))] [(2, 9), (2, 0)] 14 1218 (15) _ _ Q
  refine z_putr (c := 0) (c2 := 9) (kI := 4) (ty := .object "FareyRank$Parser") d_F_init_38 fd_F_parser fl_F_30 (by decide +kernel) (Or.inl ⟨_, rfl⟩) rfl rfl rfl rfl rfl rfl hs0 (by decide) ?_
  refine z_aload_n (i := 0) (c := 0) 0 d_F_init_41 rfl rfl rfl ?_
  refine z_iconst (n := (-1)) d_F_init_42 (by decide) ?_
  refine z_puti (c := 0) (kI := 5) d_F_init_43 fd_F_faultKind fl_F_34 pf_F_faultKind rfl rfl rfl rfl hs0 (by decide) ?_
  refine z_aload_n (i := 0) (c := 0) 0 d_F_init_46 rfl rfl rfl ?_
  refine z_iconst (n := (-1)) d_F_init_47 (by decide) ?_
  refine z_puti (c := 0) (kI := 6) d_F_init_48 fd_F_faultPlace fl_F_37 pf_F_faultPlace rfl rfl rfl rfl hs0 (by decide) ?_
  refine z_aload_n (i := 0) (c := 0) 0 d_F_init_51 rfl rfl rfl ?_
  refine z_new (ci := 5) (ty := tyX5) d_F_init_52 rfl rfl z_ly5 z_ty5 z_df5 w_cl_F_40 w_in_Rw w_it_Rw hs15 ht (by decide) (by decide) ?_
  refine z_dup d_F_init_55 rfl ?_
  refine z_callI (c := 15) (as := []) (d' := 3) (mc' := 2) (ms' := 402) (st := [(2, 15), (2, 0)]) d_F_init_56 mi_Rw_init ml_F_42 mv_Rw_init rfl rfl rfl (by decide) rfl rfl (Nat.le_of_ble_eq_true rfl) (by decide) (by decide) (by decide) ?_
  refine s_Rw_init (o := 15) ht hs15 hs16 hs17 ?_
  intro g1 q1_f q1_t
  show z_V X 8 97 4653 m_F_init 59 [(0, (2, 0))] [(2, 15), (2, 0)] 17 1626 (18) _ g1 Q
  refine z_putr (c := 0) (c2 := 15) (kI := 7) (ty := .object "FareyRank$Row") d_F_init_59 fd_F_row fl_F_43 (by decide +kernel) (Or.inl ⟨_, rfl⟩) rfl rfl rfl rfl rfl rfl hs0 (by decide) ?_
  refine z_aload_n (i := 0) (c := 0) 0 d_F_init_62 rfl rfl rfl ?_
  refine z_new (ci := 1) (ty := tyX1) d_F_init_63 rfl rfl z_ly1 z_ty1 z_df1 w_cl_F_47 w_in_Ch w_it_Ch hs18 ht (by decide) (by decide) ?_
  refine z_dup d_F_init_66 rfl ?_
  refine z_callIN (c := 18) (as := []) (d' := 3) (mc' := 1) (ms' := 32) (st := [(2, 18), (2, 0)]) d_F_init_67 mi_Ch_init nl_F_49 mv_Ch_init rfl rfl rfl (by decide) rfl rfl (Nat.le_of_ble_eq_true rfl) (by decide) (by decide) (by decide) ?_
  refine s_Ch_init (o := 18) ht hs18 hs19 ?_
  show z_V X 8 97 4653 m_F_init 70 [(0, (2, 0))] [(2, 18), (2, 0)] 19 1665 (20) _ _ Q
  refine z_putr (c := 0) (c2 := 18) (kI := 8) (ty := .object "FareyRank$Chain") d_F_init_70 fd_F_chain fl_F_50 (by decide +kernel) (Or.inl ⟨_, rfl⟩) rfl rfl rfl rfl rfl rfl hs0 (by decide) ?_
  refine z_aload_n (i := 0) (c := 0) 0 d_F_init_73 rfl rfl rfl ?_
  refine z_new (ci := 1) (ty := tyX1) d_F_init_74 rfl rfl z_ly1 z_ty1 z_df1 w_cl_F_47 w_in_Ch w_it_Ch hs20 ht (by decide) (by decide) ?_
  refine z_dup d_F_init_77 rfl ?_
  refine z_callIN (c := 20) (as := []) (d' := 3) (mc' := 1) (ms' := 32) (st := [(2, 20), (2, 0)]) d_F_init_78 mi_Ch_init nl_F_49 mv_Ch_init rfl rfl rfl (by decide) rfl rfl (Nat.le_of_ble_eq_true rfl) (by decide) (by decide) (by decide) ?_
  refine s_Ch_init (o := 20) ht hs20 hs21 ?_
  show z_V X 8 97 4653 m_F_init 81 [(0, (2, 0))] [(2, 20), (2, 0)] 21 1704 (22) _ _ Q
  refine z_putr (c := 0) (c2 := 20) (kI := 9) (ty := .object "FareyRank$Chain") d_F_init_81 fd_F_otherChain fl_F_54 (by decide +kernel) (Or.inl ⟨_, rfl⟩) rfl rfl rfl rfl rfl rfl hs0 (by decide) ?_
  refine z_aload_n (i := 0) (c := 0) 0 d_F_init_84 rfl rfl rfl ?_
  refine z_new (ci := 6) (ty := tyX6) d_F_init_85 rfl rfl z_ly6 z_ty6 z_df6 w_cl_F_57 w_in_Sp w_it_Sp hs22 ht (by decide) (by decide) ?_
  refine z_dup d_F_init_88 rfl ?_
  refine z_callI (c := 22) (as := []) (d' := 3) (mc' := 0) (ms' := 0) (st := [(2, 22), (2, 0)]) d_F_init_89 mi_Sp_init ml_F_59 mv_Sp_init rfl rfl rfl (by decide) rfl rfl (Nat.le_of_ble_eq_true rfl) (by decide) (by decide) (by decide) ?_
  refine s_Sp_init (o := 22) ht hs22 ?_
  show z_V X 8 97 4653 m_F_init 92 [(0, (2, 0))] [(2, 22), (2, 0)] 22 1709 (23) _ _ Q
  refine z_putr (c := 0) (c2 := 22) (kI := 10) (ty := .object "FareyRank$Spot") d_F_init_92 fd_F_spot fl_F_60 (by decide +kernel) (Or.inl ⟨_, rfl⟩) rfl rfl rfl rfl rfl rfl hs0 (by decide) ?_
  refine z_aload_n (i := 0) (c := 0) 0 d_F_init_95 rfl rfl rfl ?_
  refine z_new (ci := 0) (ty := tyX0) d_F_init_96 rfl rfl z_ly0 z_ty0 z_df0 w_cl_F_64 w_in_Bd w_it_Bd hs23 ht (by decide) (by decide) ?_
  refine z_dup d_F_init_99 rfl ?_
  refine z_callI (c := 23) (as := []) (d' := 6) (mc' := 13) (ms' := 555) (st := [(2, 23), (2, 0)]) d_F_init_100 mi_Bd_init ml_F_66 mv_Bd_init rfl rfl rfl (by decide) rfl rfl (Nat.le_of_ble_eq_true rfl) (by decide) (by decide) (by decide) ?_
  refine s_Bd_init (o := 23) ht hs23 hs24 hs25 hs26 hs27 hs28 hs29 hs30 hs31 hs32 hs33 hs34 hs35 hs36 ?_
  intro g2 q2_f q2_a q2_b q2_c q2_d q2_e q2_v q2_p q2_m q2_o q2_x
  show z_V X 8 97 4653 m_F_init 103 [(0, (2, 0))] [(2, 23), (2, 0)] 36 2270 (37) _ g2 Q
  refine z_putr (c := 0) (c2 := 23) (kI := 11) (ty := .object "FareyRank$Board") d_F_init_103 fd_F_board fl_F_67 (by decide +kernel) (Or.inl ⟨_, rfl⟩) rfl rfl rfl rfl rfl rfl hs0 (by decide) ?_
  refine z_aload_n (i := 0) (c := 0) 0 d_F_init_106 rfl rfl rfl ?_
  refine z_new (ci := 0) (ty := tyX0) d_F_init_107 rfl rfl z_ly0 z_ty0 z_df0 w_cl_F_64 w_in_Bd w_it_Bd hs37 ht (by decide) (by decide) ?_
  refine z_dup d_F_init_110 rfl ?_
  refine z_callI (c := 37) (as := []) (d' := 6) (mc' := 13) (ms' := 555) (st := [(2, 37), (2, 0)]) d_F_init_111 mi_Bd_init ml_F_66 mv_Bd_init rfl rfl rfl (by decide) rfl rfl (Nat.le_of_ble_eq_true rfl) (by decide) (by decide) (by decide) ?_
  refine s_Bd_init (o := 37) ht hs37 hs38 hs39 hs40 hs41 hs42 hs43 hs44 hs45 hs46 hs47 hs48 hs49 hs50 ?_
  intro g3 q3_f q3_a q3_b q3_c q3_d q3_e q3_v q3_p q3_m q3_o q3_x
  show z_V X 8 97 4653 m_F_init 114 [(0, (2, 0))] [(2, 37), (2, 0)] 50 2831 (51) _ g3 Q
  refine z_putr (c := 0) (c2 := 37) (kI := 12) (ty := .object "FareyRank$Board") d_F_init_114 fd_F_spare fl_F_71 (by decide +kernel) (Or.inl ⟨_, rfl⟩) rfl rfl rfl rfl rfl rfl hs0 (by decide) ?_
  refine z_aload_n (i := 0) (c := 0) 0 d_F_init_117 rfl rfl rfl ?_
  refine z_iconst (n := 3) d_F_init_118 (by decide) ?_
  refine z_anew (n := 3) d_F_init_119 w_cl_F_64 rfl rfl hs51 ht (by decide) (by decide) ?_
  refine z_putr (c := 0) (c2 := 51) (kI := 13) (ty := .array (.object "FareyRank$Board")) d_F_init_122 fd_F_marks fl_F_74 (by decide +kernel) (Or.inr ⟨_, rfl⟩) rfl rfl rfl rfl rfl rfl hs0 (by decide) ?_
  refine z_iconst (n := 0) d_F_init_125 (by decide) ?_
  refine z_istore_n (i := 1) (ls' := [(1, (0, 0)), (0, (2, 0))]) d_F_init_126 rfl rfl rfl ?_
  refine z_iload_n (i := 1) 0 d_F_init_127 rfl rfl ?_
  refine z_iconst (n := 3) d_F_init_128 (by decide) ?_
  refine z_icmp_ge (tgt := 151) d_F_init_129 (by decide) (fun c => absurd c (by decide)) (fun _ => ?_)
  refine z_aload_n (i := 0) (c := 0) 1 d_F_init_132 rfl rfl rfl ?_
  refine z_getr (c := 0) (kI := 13) (r2 := 51) d_F_init_133 fd_F_marks fl_F_74 rfl rfl rfl hs0 (by decide) (by exact z_u1) ?_
  refine z_iload_n (i := 1) 0 d_F_init_136 rfl rfl ?_
  refine z_new (ci := 0) (ty := tyX0) d_F_init_137 rfl rfl z_ly0 z_ty0 z_df0 w_cl_F_64 w_in_Bd w_it_Bd hs52 ht (by decide) (by decide) ?_
  refine z_dup d_F_init_140 rfl ?_
  refine z_callI (c := 52) (as := []) (d' := 6) (mc' := 13) (ms' := 555) (st := [(2, 52), (0, 0), (2, 51)]) d_F_init_141 mi_Bd_init ml_F_66 mv_Bd_init rfl rfl rfl (by decide) rfl rfl (Nat.le_of_ble_eq_true rfl) (by decide) (by decide) (by decide) ?_
  refine s_Bd_init (o := 52) ht hs52 hs53 hs54 hs55 hs56 hs57 hs58 hs59 hs60 hs61 hs62 hs63 hs64 hs65 ?_
  intro g4 q4_f q4_a q4_b q4_c q4_d q4_e q4_v q4_p q4_m q4_o q4_x
  show z_V X 8 97 4653 m_F_init 144 [(1, (0, 0)), (0, (2, 0))] [(2, 52), (0, 0), (2, 51)] 65 3395 (66) _ g4 Q
  refine z_aast (c := 51) (c2 := 52) (m := 3) d_F_init_144 rfl rfl hs51 (by decide) hs52 (by decide) rfl (by decide) (by decide) ?_
  refine z_iinc (n := 1) (ls' := [(1, (0, 1)), (0, (2, 0))]) 0 d_F_init_145 rfl (by decide) rfl rfl ?_
  refine z_goto (tgt := 127) d_F_init_148 (by decide) ?_
  refine z_iload_n (i := 1) 0 d_F_init_127 rfl rfl ?_
  refine z_iconst (n := 3) d_F_init_128 (by decide) ?_
  refine z_icmp_ge (tgt := 151) d_F_init_129 (by decide) (fun c => absurd c (by decide)) (fun _ => ?_)
  refine z_aload_n (i := 0) (c := 0) 1 d_F_init_132 rfl rfl rfl ?_
  refine z_getr (c := 0) (kI := 13) (r2 := 51) d_F_init_133 fd_F_marks fl_F_74 rfl rfl rfl hs0 (by decide) (by rw [z_u2 (by omega), kS_Bd2 (by omega), z_nw2 (by omega)]; exact z_u1) ?_
  refine z_iload_n (i := 1) 0 d_F_init_136 rfl rfl ?_
  refine z_new (ci := 0) (ty := tyX0) d_F_init_137 rfl rfl z_ly0 z_ty0 z_df0 w_cl_F_64 w_in_Bd w_it_Bd hs66 ht (by decide) (by decide) ?_
  refine z_dup d_F_init_140 rfl ?_
  refine z_callI (c := 66) (as := []) (d' := 6) (mc' := 13) (ms' := 555) (st := [(2, 66), (0, 1), (2, 51)]) d_F_init_141 mi_Bd_init ml_F_66 mv_Bd_init rfl rfl rfl (by decide) rfl rfl (Nat.le_of_ble_eq_true rfl) (by decide) (by decide) (by decide) ?_
  refine s_Bd_init (o := 66) ht hs66 hs67 hs68 hs69 hs70 hs71 hs72 hs73 hs74 hs75 hs76 hs77 hs78 hs79 ?_
  intro g5 q5_f q5_a q5_b q5_c q5_d q5_e q5_v q5_p q5_m q5_o q5_x
  show z_V X 8 97 4653 m_F_init 144 [(1, (0, 1)), (0, (2, 0))] [(2, 66), (0, 1), (2, 51)] 79 3956 (80) _ g5 Q
  refine z_aast (c := 51) (c2 := 66) (m := 3) d_F_init_144 rfl rfl hs51 (by decide) hs66 (by decide) rfl (by decide) (by decide) ?_
  refine z_iinc (n := 1) (ls' := [(1, (0, 2)), (0, (2, 0))]) 0 d_F_init_145 rfl (by decide) rfl rfl ?_
  refine z_goto (tgt := 127) d_F_init_148 (by decide) ?_
  refine z_iload_n (i := 1) 0 d_F_init_127 rfl rfl ?_
  refine z_iconst (n := 3) d_F_init_128 (by decide) ?_
  refine z_icmp_ge (tgt := 151) d_F_init_129 (by decide) (fun c => absurd c (by decide)) (fun _ => ?_)
  refine z_aload_n (i := 0) (c := 0) 1 d_F_init_132 rfl rfl rfl ?_
  refine z_getr (c := 0) (kI := 13) (r2 := 51) d_F_init_133 fd_F_marks fl_F_74 rfl rfl rfl hs0 (by decide) (by rw [z_u2 (by omega), kS_Bd2 (by omega), z_nw2 (by omega)]; rw [z_u2 (by omega), kS_Bd2 (by omega), z_nw2 (by omega)]; exact z_u1) ?_
  refine z_iload_n (i := 1) 0 d_F_init_136 rfl rfl ?_
  refine z_new (ci := 0) (ty := tyX0) d_F_init_137 rfl rfl z_ly0 z_ty0 z_df0 w_cl_F_64 w_in_Bd w_it_Bd hs80 ht (by decide) (by decide) ?_
  refine z_dup d_F_init_140 rfl ?_
  refine z_callI (c := 80) (as := []) (d' := 6) (mc' := 13) (ms' := 555) (st := [(2, 80), (0, 2), (2, 51)]) d_F_init_141 mi_Bd_init ml_F_66 mv_Bd_init rfl rfl rfl (by decide) rfl rfl (Nat.le_of_ble_eq_true rfl) (by decide) (by decide) (by decide) ?_
  refine s_Bd_init (o := 80) ht hs80 hs81 hs82 hs83 hs84 hs85 hs86 hs87 hs88 hs89 hs90 hs91 hs92 hs93 ?_
  intro g6 q6_f q6_a q6_b q6_c q6_d q6_e q6_v q6_p q6_m q6_o q6_x
  show z_V X 8 97 4653 m_F_init 144 [(1, (0, 2)), (0, (2, 0))] [(2, 80), (0, 2), (2, 51)] 93 4517 (94) _ g6 Q
  refine z_aast (c := 51) (c2 := 80) (m := 3) d_F_init_144 rfl rfl hs51 (by decide) hs80 (by decide) rfl (by decide) (by decide) ?_
  refine z_iinc (n := 1) (ls' := [(1, (0, 3)), (0, (2, 0))]) 0 d_F_init_145 rfl (by decide) rfl rfl ?_
  refine z_goto (tgt := 127) d_F_init_148 (by decide) ?_
  refine z_iload_n (i := 1) 0 d_F_init_127 rfl rfl ?_
  refine z_iconst (n := 3) d_F_init_128 (by decide) ?_
  refine z_icmp_ge (tgt := 151) d_F_init_129 (by decide) (fun _ => ?_) (fun c => absurd (by decide) c)
  refine z_aload_n (i := 0) (c := 0) 1 d_F_init_151 rfl rfl rfl ?_
  refine z_iconst (n := 0) d_F_init_152 (by decide) ?_
  refine z_puti (c := 0) (kI := 14) d_F_init_153 fd_F_marked fl_F_78 pf_F_marked rfl rfl rfl rfl hs0 (by decide) ?_
  refine z_aload_n (i := 0) (c := 0) 1 d_F_init_156 rfl rfl rfl ?_
  refine z_new (ci := 10) (ty := tyX10) d_F_init_157 rfl rfl z_ly10 z_ty10 z_df10 w_cl_F_81 w_in_Wk w_it_Wk hs94 ht (by decide) (by decide) ?_
  refine z_dup d_F_init_160 rfl ?_
  refine z_callIN (c := 94) (as := []) (d' := 3) (mc' := 1) (ms' := 60) (st := [(2, 94), (2, 0)]) d_F_init_161 mi_Wk_init nl_F_83 mv_Wk_init rfl rfl rfl (by decide) rfl rfl (Nat.le_of_ble_eq_true rfl) (by decide) (by decide) (by decide) ?_
  refine s_Wk_init (o := 94) ht hs94 hs95 ?_
  show z_V X 8 97 4653 m_F_init 164 [(1, (0, 3)), (0, (2, 0))] [(2, 94), (2, 0)] 95 4585 (96) _ _ Q
  refine z_putr (c := 0) (c2 := 94) (kI := 15) (ty := .object "FareyRank$Walk") d_F_init_164 fd_F_walk fl_F_84 (by decide +kernel) (Or.inl ⟨_, rfl⟩) rfl rfl rfl rfl rfl rfl hs0 (by decide) ?_
  refine z_aload_n (i := 0) (c := 0) 1 d_F_init_167 rfl rfl rfl ?_
  refine z_new (ci := 10) (ty := tyX10) d_F_init_168 rfl rfl z_ly10 z_ty10 z_df10 w_cl_F_81 w_in_Wk w_it_Wk hs96 ht (by decide) (by decide) ?_
  refine z_dup d_F_init_171 rfl ?_
  refine z_callIN (c := 96) (as := []) (d' := 3) (mc' := 1) (ms' := 60) (st := [(2, 96), (2, 0)]) d_F_init_172 mi_Wk_init nl_F_83 mv_Wk_init rfl rfl rfl (by decide) rfl rfl (Nat.le_of_ble_eq_true rfl) (by decide) (by decide) (by decide) ?_
  refine s_Wk_init (o := 96) ht hs96 hs97 ?_
  show z_V X 8 97 4653 m_F_init 175 [(1, (0, 3)), (0, (2, 0))] [(2, 96), (2, 0)] 97 4653 (98) _ _ Q
  refine z_putr (c := 0) (c2 := 96) (kI := 16) (ty := .object "FareyRank$Walk") d_F_init_175 fd_F_trial fl_F_88 (by decide +kernel) (Or.inl ⟨_, rfl⟩) rfl rfl rfl rfl rfl rfl hs0 (by decide) ?_
  refine z_aload_n (i := 0) (c := 0) 1 d_F_init_178 rfl rfl rfl ?_
  refine z_iconst (n := 0) d_F_init_179 (by decide) ?_
  refine z_putz (c := 0) (kI := 17) d_F_init_180 fd_F_everLived fl_F_91 pf_F_everLived rfl rfl rfl rfl hs0 (by decide) (Or.inl rfl) ?_
  refine z_vret d_F_init_183 rfl (by decide) (by decide) (h _ ?_)
  have fr : ∀ (g : z_G) (c : Nat) (i : Int), c < 94 → ¬ (c = 0 ∧ (i = 14 ∨ i = 17)) → z_up (kG_Wk 96 (z_nw (kG_Wk 94 (z_nw (z_up g 0 14 0) 94 (fun _ => 0))) 96 (fun _ => 0))) 0 17 0 c i = g c i := fun g c i h1 h2 => by
    unfold kG_Wk
    rw [z_u2 (by omega), z_nw2 (by omega), z_nw2 (by omega), z_nw2 (by omega), z_nw2 (by omega), z_u2 (by omega)]
  have b6 : ∀ c i, c < 52 → g6 c i = z_nw g3 51 (fun _ => 0) c i := fun c i hc => by
    rw [q6_f c i (by omega), z_nw2 (by omega), q5_f c i (by omega), z_nw2 (by omega), q4_f c i (by omega), z_nw2 (by omega)]
  have b3 : ∀ c i, c < 37 → g6 c i = g2 c i := fun c i hc => by
    rw [b6 c i (by omega), z_nw2 (by omega), q3_f c i (by omega), z_nw2 (by omega)]
  have b2 : ∀ c i, c < 18 → g6 c i = g1 c i := fun c i hc => by
    rw [b3 c i (by omega), q2_f c i (by omega), z_nw2 (by omega)]; unfold kG_Sp kG_Ch
    rw [z_u2 (by omega), z_u2 (by omega), z_u2 (by omega), z_u2 (by omega), z_u2 (by omega), z_nw2 (by omega), z_u2 (by omega), z_u2 (by omega), z_u2 (by omega), z_u2 (by omega), z_nw2 (by omega), z_nw2 (by omega), z_u2 (by omega), z_u2 (by omega), z_u2 (by omega), z_u2 (by omega), z_nw2 (by omega), z_nw2 (by omega)]
  refine ⟨?_, ?_, ?_, ?_, ?_, ?_, ?_, ?_, ?_, ?_, ?_, ?_, ?_, ?_, ?_, ?_, ?_, ?_, ?_, ?_, ?_, ?_, ?_, ?_, ?_, ?_, fun d hd => ?_⟩
  · rw [fr _ _ _ (by omega) (by omega), b2 _ _ (by omega), q1_f _ _ (by omega)]; simp [z_up, z_nw, kG_Pa, kG_Ta, kG_Ch, kG_Tr, z_m0, kZ]
  · rw [fr _ _ _ (by omega) (by omega), b2 _ _ (by omega), q1_f _ _ (by omega)]; simp [z_up, z_nw, kG_Pa, kG_Ta, kG_Ch, kG_Tr, z_m0, kZ]
  · rw [fr _ _ _ (by omega) (by omega), b2 _ _ (by omega), q1_f _ _ (by omega)]; simp [z_up, z_nw, kG_Pa, kG_Ta, kG_Ch, kG_Tr, z_m0, kZ]
  · rw [fr _ _ _ (by omega) (by omega), b2 _ _ (by omega), q1_f _ _ (by omega)]; simp [z_up, z_nw, kG_Pa, kG_Ta, kG_Ch, kG_Tr, z_m0, kZ]
  · rw [fr _ _ _ (by omega) (by omega), b2 _ _ (by omega), q1_f _ _ (by omega)]; simp [z_up, z_nw, kG_Pa, kG_Ta, kG_Ch, kG_Tr, z_m0, kZ]
  · rw [z_u2 (by omega)]; unfold kG_Wk; rw [z_nw2 (by omega), z_nw2 (by omega), z_nw2 (by omega), z_nw2 (by omega)]; exact z_u1
  · exact z_u1
  · rw [fr _ _ _ (by omega) (by omega), b2 _ _ (by omega), q1_f _ _ (by omega)]; simp [z_up, z_nw, kG_Pa, kG_Ta, kG_Ch, kG_Tr, z_m0, kZ]
  · rw [fr _ _ _ (by omega) (by omega), b2 _ _ (by omega), q1_f _ _ (by omega)]; simp [z_up, z_nw, kG_Pa, kG_Ta, kG_Ch, kG_Tr, z_m0, kZ]
  · rw [fr _ _ _ (by omega) (by omega), b2 _ _ (by omega), q1_f _ _ (by omega)]; simp [z_up, z_nw, kG_Pa, kG_Ta, kG_Ch, kG_Tr, z_m0, kZ]
  · rw [fr _ _ _ (by omega) (by omega), b2 _ _ (by omega), q1_f _ _ (by omega)]; simp [z_up, z_nw, kG_Pa, kG_Ta, kG_Ch, kG_Tr, z_m0, kZ]
  · rw [fr _ _ _ (by omega) (by omega), b2 _ _ (by omega), q1_f _ _ (by omega)]; simp [z_up, z_nw, kG_Pa, kG_Ta, kG_Ch, kG_Tr, z_m0, kZ]
  · rw [fr _ _ _ (by omega) (by omega), b2 _ _ (by omega), q1_f _ _ (by omega)]; simp [z_up, z_nw, kG_Pa, kG_Ta, kG_Ch, kG_Tr, z_m0, kZ]
  · rw [fr _ _ _ (by omega) (by omega), b2 _ _ (by omega), q1_f _ _ (by omega)]; simp [z_up, z_nw, kG_Pa, kG_Ta, kG_Ch, kG_Tr, z_m0, kZ]
  · rw [fr _ _ _ (by omega) (by omega), b2 _ _ (by omega), q1_f _ _ (by omega)]; simp [z_up, z_nw, kG_Pa, kG_Ta, kG_Ch, kG_Tr, z_m0, kZ]
  · rw [fr _ _ _ (by omega) (by omega), b2 _ _ (by omega), q1_f _ _ (by omega)]; simp [z_up, z_nw, kG_Pa, kG_Ta, kG_Ch, kG_Tr, z_m0, kZ]
  · rw [fr _ _ _ (by omega) (by omega), b3 _ _ (by omega)]; exact q2_a
  · rw [fr _ _ _ (by omega) (by omega), b3 _ _ (by omega)]; exact q2_b
  · rw [fr _ _ _ (by omega) (by omega), b3 _ _ (by omega)]; exact q2_c
  · rw [fr _ _ _ (by omega) (by omega), b3 _ _ (by omega)]; exact q2_d
  · rw [fr _ _ _ (by omega) (by omega), b3 _ _ (by omega)]; exact q2_e
  · rw [fr _ _ _ (by omega) (by omega), b3 _ _ (by omega)]; exact q2_v
  · rw [fr _ _ _ (by omega) (by omega), b3 _ _ (by omega)]; exact q2_p
  · rw [fr _ _ _ (by omega) (by omega), b3 _ _ (by omega)]; exact q2_m
  · rw [fr _ _ _ (by omega) (by omega), b3 _ _ (by omega)]; exact q2_o
  · obtain ⟨κ, hκ⟩ := q2_x
    refine ⟨κ, ?_⟩
    have e30 : z_up (kG_Wk 96 (z_nw (kG_Wk 94 (z_nw (z_up g6 0 14 0) 94 (fun _ => 0))) 96 (fun _ => 0))) 0 17 0 30 = g2 30 := funext fun i => by rw [fr _ _ _ (by omega) (by omega), b3 _ _ (by omega)]
    rw [e30, fr _ _ _ (by omega) (by omega), b3 _ _ (by omega)]
    exact hκ
  · rw [fr _ _ _ (by omega) (by omega), fr _ _ _ (by omega) (by omega), b2 _ _ (by omega), b2 _ _ (by omega)]
    exact q1_t d hd

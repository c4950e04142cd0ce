/-! ## constructors: words, walks (printed by gen_ctor.py) -/
theorem w_oi : Cond.instanceMethod Lib.objectInit ∈ z_tb := z_in1 (List.mem_of_getElem? (i := 26) rfl) rfl
theorem w_oc : Cond.code Lib.objectInit ⟨#[0xb1]⟩ 1 none ∈ z_tb := z_in1 (List.mem_of_getElem? (i := 27) rfl) rfl
theorem w_it_Law : Cond.initialized "FareyRankLaw" ∈ z_tb := z_in1 (List.mem_of_getElem? (i := 0) rfl) rfl
theorem w_it_F : Cond.initialized "FareyRank" ∈ z_tb := z_in1 (List.mem_of_getElem? (i := 1) rfl) rfl
theorem w_it_Tr : Cond.initialized "FareyRank$Trays" ∈ z_tb := z_in1 (List.mem_of_getElem? (i := 2) rfl) rfl
theorem w_it_Pa : Cond.initialized "FareyRank$Parser" ∈ z_tb := z_in1 (List.mem_of_getElem? (i := 3) rfl) rfl
theorem w_it_Ta : Cond.initialized "FareyRank$Tape" ∈ z_tb := z_in1 (List.mem_of_getElem? (i := 4) rfl) rfl
theorem w_it_Ch : Cond.initialized "FareyRank$Chain" ∈ z_tb := z_in1 (List.mem_of_getElem? (i := 5) rfl) rfl
theorem w_it_Rw : Cond.initialized "FareyRank$Row" ∈ z_tb := z_in1 (List.mem_of_getElem? (i := 6) rfl) rfl
theorem w_it_Sp : Cond.initialized "FareyRank$Spot" ∈ z_tb := z_in1 (List.mem_of_getElem? (i := 7) rfl) rfl
theorem w_it_Bd : Cond.initialized "FareyRank$Board" ∈ z_tb := z_in1 (List.mem_of_getElem? (i := 8) rfl) rfl
theorem w_it_Pi : Cond.initialized "FareyRank$Pins" ∈ z_tb := z_in1 (List.mem_of_getElem? (i := 9) rfl) rfl
theorem w_it_Vi : Cond.initialized "FareyRank$Visits" ∈ z_tb := z_in1 (List.mem_of_getElem? (i := 10) rfl) rfl
theorem w_it_Pg : Cond.initialized "FareyRank$Program" ∈ z_tb := z_in1 (List.mem_of_getElem? (i := 11) rfl) rfl
theorem w_it_Wk : Cond.initialized "FareyRank$Walk" ∈ z_tb := z_in1 (List.mem_of_getElem? (i := 12) rfl) rfl
theorem w_it_M : Cond.initialized "FareyRankModel" ∈ z_tb := z_in1 (List.mem_of_getElem? (i := 13) rfl) rfl
theorem w_it_St : Cond.initialized "java/lang/String" ∈ z_tb := z_in1 (List.mem_of_getElem? (i := 16) rfl) rfl
theorem w_cl_Law_7 : Cond.classLink "FareyRankLaw" 7 "FareyRank" ∈ z_tb := z_in1 (List.mem_of_getElem? (i := 20) rfl) rfl
theorem w_in_F : Cond.instantiable "FareyRank" 18 ∈ z_tb := z_in1 (List.mem_of_getElem? (i := 21) rfl) rfl
theorem w_ol_F : Cond.methodLink "FareyRank" 1 Lib.objectInit ∈ z_tb := z_in1 (List.mem_of_getElem? (i := 25) rfl) rfl
theorem w_cl_F_20 : Cond.classLink "FareyRank" 20 "FareyRank$Trays" ∈ z_tb := z_in1 (List.mem_of_getElem? (i := 28) rfl) rfl
theorem w_in_Tr : Cond.instantiable "FareyRank$Trays" 3 ∈ z_tb := z_in1 (List.mem_of_getElem? (i := 29) rfl) rfl
theorem w_ol_Tr : Cond.methodLink "FareyRank$Trays" 1 Lib.objectInit ∈ z_tb := z_in1 (List.mem_of_getElem? (i := 33) rfl) rfl
theorem w_cl_Tr_9 : Cond.classLink "FareyRank$Trays" 9 "[[J" ∈ z_tb := z_in1 (List.mem_of_getElem? (i := 34) rfl) rfl
theorem w_ac_long : Cond.arrayClass (newarray.typeOf .long) ∈ z_tb := z_in1 (List.mem_of_getElem? (i := 46) rfl) rfl
theorem w_ac_int : Cond.arrayClass (newarray.typeOf .int) ∈ z_tb := z_in1 (List.mem_of_getElem? (i := 47) rfl) rfl
theorem w_cl_F_27 : Cond.classLink "FareyRank" 27 "FareyRank$Parser" ∈ z_tb := z_in1 (List.mem_of_getElem? (i := 48) rfl) rfl
theorem w_in_Pa : Cond.instantiable "FareyRank$Parser" 10 ∈ z_tb := z_in1 (List.mem_of_getElem? (i := 49) rfl) rfl
theorem w_ol_Pa : Cond.methodLink "FareyRank$Parser" 3 Lib.objectInit ∈ z_tb := z_in1 (List.mem_of_getElem? (i := 53) rfl) rfl
theorem w_cl_Pa_9 : Cond.classLink "FareyRank$Parser" 9 "FareyRank$Tape" ∈ z_tb := z_in1 (List.mem_of_getElem? (i := 54) rfl) rfl
theorem w_in_Ta : Cond.instantiable "FareyRank$Tape" 11 ∈ z_tb := z_in1 (List.mem_of_getElem? (i := 55) rfl) rfl
theorem w_ol_Ta : Cond.methodLink "FareyRank$Tape" 3 Lib.objectInit ∈ z_tb := z_in1 (List.mem_of_getElem? (i := 59) rfl) rfl
theorem w_ac_char : Cond.arrayClass (newarray.typeOf .char) ∈ z_tb := z_in1 (List.mem_of_getElem? (i := 100) rfl) rfl
theorem w_cl_Pa_18 : Cond.classLink "FareyRank$Parser" 18 "FareyRank$Chain" ∈ z_tb := z_in1 (List.mem_of_getElem? (i := 101) rfl) rfl
theorem w_in_Ch : Cond.instantiable "FareyRank$Chain" 7 ∈ z_tb := z_in1 (List.mem_of_getElem? (i := 102) rfl) rfl
theorem w_ol_Ch : Cond.methodLink "FareyRank$Chain" 3 Lib.objectInit ∈ z_tb := z_in1 (List.mem_of_getElem? (i := 106) rfl) rfl
theorem w_cl_F_40 : Cond.classLink "FareyRank" 40 "FareyRank$Row" ∈ z_tb := z_in1 (List.mem_of_getElem? (i := 170) rfl) rfl
theorem w_in_Rw : Cond.instantiable "FareyRank$Row" 6 ∈ z_tb := z_in1 (List.mem_of_getElem? (i := 171) rfl) rfl
theorem w_ol_Rw : Cond.methodLink "FareyRank$Row" 3 Lib.objectInit ∈ z_tb := z_in1 (List.mem_of_getElem? (i := 175) rfl) rfl
theorem w_cl_F_47 : Cond.classLink "FareyRank" 47 "FareyRank$Chain" ∈ z_tb := z_in1 (List.mem_of_getElem? (i := 199) rfl) rfl
theorem w_cl_F_57 : Cond.classLink "FareyRank" 57 "FareyRank$Spot" ∈ z_tb := z_in1 (List.mem_of_getElem? (i := 201) rfl) rfl
theorem w_in_Sp : Cond.instantiable "FareyRank$Spot" 5 ∈ z_tb := z_in1 (List.mem_of_getElem? (i := 202) rfl) rfl
theorem w_ol_Sp : Cond.methodLink "FareyRank$Spot" 3 Lib.objectInit ∈ z_tb := z_in1 (List.mem_of_getElem? (i := 206) rfl) rfl
theorem w_cl_F_64 : Cond.classLink "FareyRank" 64 "FareyRank$Board" ∈ z_tb := z_in1 (List.mem_of_getElem? (i := 231) rfl) rfl
theorem w_in_Bd : Cond.instantiable "FareyRank$Board" 6 ∈ z_tb := z_in1 (List.mem_of_getElem? (i := 232) rfl) rfl
theorem w_ol_Bd : Cond.methodLink "FareyRank$Board" 3 Lib.objectInit ∈ z_tb := z_in1 (List.mem_of_getElem? (i := 236) rfl) rfl
theorem w_cl_Bd_9 : Cond.classLink "FareyRank$Board" 9 "FareyRank$Spot" ∈ z_tb := z_in1 (List.mem_of_getElem? (i := 237) rfl) rfl
theorem w_cl_Bd_18 : Cond.classLink "FareyRank$Board" 18 "FareyRank$Pins" ∈ z_tb := z_in1 (List.mem_of_getElem? (i := 239) rfl) rfl
theorem w_in_Pi : Cond.instantiable "FareyRank$Pins" 4 ∈ z_tb := z_in2 (List.mem_of_getElem? (i := 0) rfl) rfl
theorem w_ol_Pi : Cond.methodLink "FareyRank$Pins" 3 Lib.objectInit ∈ z_tb := z_in2 (List.mem_of_getElem? (i := 4) rfl) rfl
theorem w_cl_Bd_25 : Cond.classLink "FareyRank$Board" 25 "FareyRank$Visits" ∈ z_tb := z_in2 (List.mem_of_getElem? (i := 24) rfl) rfl
theorem w_in_Vi : Cond.instantiable "FareyRank$Visits" 2 ∈ z_tb := z_in2 (List.mem_of_getElem? (i := 25) rfl) rfl
theorem w_ol_Vi : Cond.methodLink "FareyRank$Visits" 3 Lib.objectInit ∈ z_tb := z_in2 (List.mem_of_getElem? (i := 29) rfl) rfl
theorem w_cl_Bd_32 : Cond.classLink "FareyRank$Board" 32 "FareyRank$Program" ∈ z_tb := z_in2 (List.mem_of_getElem? (i := 38) rfl) rfl
theorem w_in_Pg : Cond.instantiable "FareyRank$Program" 8 ∈ z_tb := z_in2 (List.mem_of_getElem? (i := 39) rfl) rfl
theorem w_ol_Pg : Cond.methodLink "FareyRank$Program" 3 Lib.objectInit ∈ z_tb := z_in2 (List.mem_of_getElem? (i := 43) rfl) rfl
theorem w_cl_F_81 : Cond.classLink "FareyRank" 81 "FareyRank$Walk" ∈ z_tb := z_in2 (List.mem_of_getElem? (i := 148) rfl) rfl
theorem w_in_Wk : Cond.instantiable "FareyRank$Walk" 8 ∈ z_tb := z_in2 (List.mem_of_getElem? (i := 149) rfl) rfl
theorem w_ol_Wk : Cond.methodLink "FareyRank$Walk" 3 Lib.objectInit ∈ z_tb := z_in2 (List.mem_of_getElem? (i := 153) rfl) rfl
theorem w_ac_byte : Cond.arrayClass (newarray.typeOf .byte) ∈ z_tb := z_in4 (List.mem_of_getElem? (i := 62) rfl) rfl
theorem w_cl_Law_10 : Cond.classLink "FareyRankLaw" 10 "FareyRankModel" ∈ z_tb := z_in6 (List.mem_of_getElem? (i := 102) rfl) rfl
theorem w_in_M : Cond.instantiable "FareyRankModel" 42 ∈ z_tb := z_in6 (List.mem_of_getElem? (i := 103) rfl) rfl
theorem w_ol_M : Cond.methodLink "FareyRankModel" 1 Lib.objectInit ∈ z_tb := z_in6 (List.mem_of_getElem? (i := 107) rfl) rfl
theorem z_df0 : ∀ k, k < 6 → (match z_fk 0 k with | 1 => Value.long 0 | 2 => .null | _ => .int 0) = defaultValue (tyX0 k)
  | 0, _ => rfl
  | 1, _ => rfl
  | 2, _ => rfl
  | 3, _ => rfl
  | 4, _ => rfl
  | 5, _ => rfl
  | (n + 6), h => absurd h (by omega)
theorem z_df1 : ∀ k, k < 7 → (match z_fk 1 k with | 1 => Value.long 0 | 2 => .null | _ => .int 0) = defaultValue (tyX1 k)
  | 0, _ => rfl
  | 1, _ => rfl
  | 2, _ => rfl
  | 3, _ => rfl
  | 4, _ => rfl
  | 5, _ => rfl
  | 6, _ => rfl
  | (n + 7), h => absurd h (by omega)
theorem z_df2 : ∀ k, k < 10 → (match z_fk 2 k with | 1 => Value.long 0 | 2 => .null | _ => .int 0) = defaultValue (tyX2 k)
  | 0, _ => rfl
  | 1, _ => rfl
  | 2, _ => rfl
  | 3, _ => rfl
  | 4, _ => rfl
  | 5, _ => rfl
  | 6, _ => rfl
  | 7, _ => rfl
  | 8, _ => rfl
  | 9, _ => rfl
  | (n + 10), h => absurd h (by omega)
theorem z_df3 : ∀ k, k < 4 → (match z_fk 3 k with | 1 => Value.long 0 | 2 => .null | _ => .int 0) = defaultValue (tyX3 k)
  | 0, _ => rfl
  | 1, _ => rfl
  | 2, _ => rfl
  | 3, _ => rfl
  | (n + 4), h => absurd h (by omega)
theorem z_df4 : ∀ k, k < 8 → (match z_fk 4 k with | 1 => Value.long 0 | 2 => .null | _ => .int 0) = defaultValue (tyX4 k)
  | 0, _ => rfl
  | 1, _ => rfl
  | 2, _ => rfl
  | 3, _ => rfl
  | 4, _ => rfl
  | 5, _ => rfl
  | 6, _ => rfl
  | 7, _ => rfl
  | (n + 8), h => absurd h (by omega)
theorem z_df5 : ∀ k, k < 6 → (match z_fk 5 k with | 1 => Value.long 0 | 2 => .null | _ => .int 0) = defaultValue (tyX5 k)
  | 0, _ => rfl
  | 1, _ => rfl
  | 2, _ => rfl
  | 3, _ => rfl
  | 4, _ => rfl
  | 5, _ => rfl
  | (n + 6), h => absurd h (by omega)
theorem z_df6 : ∀ k, k < 5 → (match z_fk 6 k with | 1 => Value.long 0 | 2 => .null | _ => .int 0) = defaultValue (tyX6 k)
  | 0, _ => rfl
  | 1, _ => rfl
  | 2, _ => rfl
  | 3, _ => rfl
  | 4, _ => rfl
  | (n + 5), h => absurd h (by omega)
theorem z_df7 : ∀ k, k < 11 → (match z_fk 7 k with | 1 => Value.long 0 | 2 => .null | _ => .int 0) = defaultValue (tyX7 k)
  | 0, _ => rfl
  | 1, _ => rfl
  | 2, _ => rfl
  | 3, _ => rfl
  | 4, _ => rfl
  | 5, _ => rfl
  | 6, _ => rfl
  | 7, _ => rfl
  | 8, _ => rfl
  | 9, _ => rfl
  | 10, _ => rfl
  | (n + 11), h => absurd h (by omega)
theorem z_df8 : ∀ k, k < 3 → (match z_fk 8 k with | 1 => Value.long 0 | 2 => .null | _ => .int 0) = defaultValue (tyX8 k)
  | 0, _ => rfl
  | 1, _ => rfl
  | 2, _ => rfl
  | (n + 3), h => absurd h (by omega)
theorem z_df9 : ∀ k, k < 2 → (match z_fk 9 k with | 1 => Value.long 0 | 2 => .null | _ => .int 0) = defaultValue (tyX9 k)
  | 0, _ => rfl
  | 1, _ => rfl
  | (n + 2), h => absurd h (by omega)
theorem z_df10 : ∀ k, k < 8 → (match z_fk 10 k with | 1 => Value.long 0 | 2 => .null | _ => .int 0) = defaultValue (tyX10 k)
  | 0, _ => rfl
  | 1, _ => rfl
  | 2, _ => rfl
  | 3, _ => rfl
  | 4, _ => rfl
  | 5, _ => rfl
  | 6, _ => rfl
  | 7, _ => rfl
  | (n + 8), h => absurd h (by omega)
theorem z_df11 : ∀ k, k < 18 → (match z_fk 11 k with | 1 => Value.long 0 | 2 => .null | _ => .int 0) = defaultValue (tyX11 k)
  | 0, _ => rfl
  | 1, _ => rfl
  | 2, _ => rfl
  | 3, _ => rfl
  | 4, _ => rfl
  | 5, _ => rfl
  | 6, _ => rfl
  | 7, _ => rfl
  | 8, _ => rfl
  | 9, _ => rfl
  | 10, _ => rfl
  | 11, _ => rfl
  | 12, _ => rfl
  | 13, _ => rfl
  | 14, _ => rfl
  | 15, _ => rfl
  | 16, _ => rfl
  | 17, _ => rfl
  | (n + 18), h => absurd h (by omega)
theorem z_df12 : ∀ k, k < 42 → (match z_fk 12 k with | 1 => Value.long 0 | 2 => .null | _ => .int 0) = defaultValue (tyX12 k)
  | 0, _ => rfl
  | 1, _ => rfl
  | 2, _ => rfl
  | 3, _ => rfl
  | 4, _ => rfl
  | 5, _ => rfl
  | 6, _ => rfl
  | 7, _ => rfl
  | 8, _ => rfl
  | 9, _ => rfl
  | 10, _ => rfl
  | 11, _ => rfl
  | 12, _ => rfl
  | 13, _ => rfl
  | 14, _ => rfl
  | 15, _ => rfl
  | 16, _ => rfl
  | 17, _ => rfl
  | 18, _ => rfl
  | 19, _ => rfl
  | 20, _ => rfl
  | 21, _ => rfl
  | 22, _ => rfl
  | 23, _ => rfl
  | 24, _ => rfl
  | 25, _ => rfl
  | 26, _ => rfl
  | 27, _ => rfl
  | 28, _ => rfl
  | 29, _ => rfl
  | 30, _ => rfl
  | 31, _ => rfl
  | 32, _ => rfl
  | 33, _ => rfl
  | 34, _ => rfl
  | 35, _ => rfl
  | 36, _ => rfl
  | 37, _ => rfl
  | 38, _ => rfl
  | 39, _ => rfl
  | 40, _ => rfl
  | 41, _ => rfl
  | (n + 42), h => absurd h (by omega)
theorem d_Ch_init_0 : decode (z_c m_Ch_init) 0 = .ok (.aload_n 0, 1) := by decide +kernel
theorem d_Ch_init_1 : decode (z_c m_Ch_init) 1 = .ok (.invokespecial 3, 3) := by decide +kernel
theorem d_Ch_init_4 : decode (z_c m_Ch_init) 4 = .ok (.aload_n 0, 1) := by decide +kernel
theorem d_Ch_init_5 : decode (z_c m_Ch_init) 5 = .ok (.bipush 32, 2) := by decide +kernel
theorem d_Ch_init_7 : decode (z_c m_Ch_init) 7 = .ok (.newarray .int, 2) := by decide +kernel
theorem d_Ch_init_9 : decode (z_c m_Ch_init) 9 = .ok (.putfield 9, 3) := by decide +kernel
theorem d_Ch_init_12 : decode (z_c m_Ch_init) 12 = .ok (.aload_n 0, 1) := by decide +kernel
theorem d_Ch_init_13 : decode (z_c m_Ch_init) 13 = .ok (.iconst 0, 1) := by decide +kernel
theorem d_Ch_init_14 : decode (z_c m_Ch_init) 14 = .ok (.putfield 15, 3) := by decide +kernel
theorem d_Ch_init_17 : decode (z_c m_Ch_init) 17 = .ok (.aload_n 0, 1) := by decide +kernel
theorem d_Ch_init_18 : decode (z_c m_Ch_init) 18 = .ok (.iconst 1, 1) := by decide +kernel
theorem d_Ch_init_19 : decode (z_c m_Ch_init) 19 = .ok (.putfield 19, 3) := by decide +kernel
theorem d_Ch_init_22 : decode (z_c m_Ch_init) 22 = .ok (.aload_n 0, 1) := by decide +kernel
theorem d_Ch_init_23 : decode (z_c m_Ch_init) 23 = .ok (.iconst 1, 1) := by decide +kernel
theorem d_Ch_init_24 : decode (z_c m_Ch_init) 24 = .ok (.putfield 22, 3) := by decide +kernel
theorem d_Ch_init_27 : decode (z_c m_Ch_init) 27 = .ok (.aload_n 0, 1) := by decide +kernel
theorem d_Ch_init_28 : decode (z_c m_Ch_init) 28 = .ok (.iconst 0, 1) := by decide +kernel
theorem d_Ch_init_29 : decode (z_c m_Ch_init) 29 = .ok (.putfield 25, 3) := by decide +kernel
theorem d_Ch_init_32 : decode (z_c m_Ch_init) 32 = .ok (.return_, 1) := by decide +kernel
def kS_Ch (o : Nat) (σ : z_G) : z_G := (z_up (z_nw σ (o + 1) (fun _ => -1)) o 0 ((o + 1 : Nat) : Int))
def kG_Ch (o : Nat) (g : z_G) : z_G := (z_up (z_up (z_up (z_up (z_nw g (o + 1) (fun _ => 0)) o 3 0) o 4 1) o 5 1) o 6 0)
theorem s_Ch_init {X : z_X} {σ g : z_G} {Q : z_Q} {o : Nat} (ht : z_tl X = 0) (hs0 : z_sh X o = (0, 1)) (hs1 : z_sh X (o + 1) = (1, 32)) (h : Q 0 (o + 2) (kS_Ch o σ) (kG_Ch o g)) : z_C X 3 1 32 m_Ch_init [(2, ((o : Nat) : Int))] (o + 1) σ g Q := by
  refine z_enter mi_Ch_init (Nat.le_of_ble_eq_true rfl) (fun _ => ?_)
  show z_V X 3 1 32 m_Ch_init 0 [(0, (2, ((o : Nat) : Int)))] [] 0 0 (o + 1) σ g Q
  refine z_aload_n (i := 0) (c := o) 0 d_Ch_init_0 rfl rfl rfl ?_
  refine z_obin (c := o) d_Ch_init_1 w_ol_Ch w_oi w_oc rfl (by decide) rfl ?_
  refine z_aload_n (i := 0) (c := o) 0 d_Ch_init_4 rfl rfl rfl ?_
  refine z_bipush (n := 32) d_Ch_init_5 (by decide) (by decide) ?_
  refine z_newa (at0 := .int) (t := 0) (n := 32) (idx := 0) d_Ch_init_7 w_ac_int rfl (fun _ _ h => h) rfl rfl rfl (by decide) hs1 ht (by decide) (by decide) ?_
  refine z_putr (c := o) (c2 := (o + 1)) (kI := 0) (ty := .array .int) d_Ch_init_9 fd_Ch_row fl_Ch_9 (by decide +kernel) (Or.inr ⟨_, rfl⟩) rfl rfl rfl rfl rfl rfl hs0 (by omega) ?_
  refine z_aload_n (i := 0) (c := o) 0 d_Ch_init_12 rfl rfl rfl ?_
  refine z_iconst (n := 0) d_Ch_init_13 (by decide) ?_
  refine z_puti (c := o) (kI := 3) d_Ch_init_14 fd_Ch_top fl_Ch_15 pf_Ch_top rfl rfl rfl rfl hs0 (by omega) ?_
  refine z_aload_n (i := 0) (c := o) 0 d_Ch_init_17 rfl rfl rfl ?_
  refine z_iconst (n := 1) d_Ch_init_18 (by decide) ?_
  refine z_puti (c := o) (kI := 4) d_Ch_init_19 fd_Ch_bottom fl_Ch_19 pf_Ch_bottom rfl rfl rfl rfl hs0 (by omega) ?_
  refine z_aload_n (i := 0) (c := o) 0 d_Ch_init_22 rfl rfl rfl ?_
  refine z_iconst (n := 1) d_Ch_init_23 (by decide) ?_
  refine z_puti (c := o) (kI := 5) d_Ch_init_24 fd_Ch_lastTop fl_Ch_22 pf_Ch_lastTop rfl rfl rfl rfl hs0 (by omega) ?_
  refine z_aload_n (i := 0) (c := o) 0 d_Ch_init_27 rfl rfl rfl ?_
  refine z_iconst (n := 0) d_Ch_init_28 (by decide) ?_
  refine z_puti (c := o) (kI := 6) d_Ch_init_29 fd_Ch_lastBottom fl_Ch_25 pf_Ch_lastBottom rfl rfl rfl rfl hs0 (by omega) ?_
  exact z_vret d_Ch_init_32 rfl (by decide) (by decide) h
theorem d_Pi_init_0 : decode (z_c m_Pi_init) 0 = .ok (.aload_n 0, 1) := by decide +kernel
theorem d_Pi_init_1 : decode (z_c m_Pi_init) 1 = .ok (.invokespecial 3, 3) := by decide +kernel
theorem d_Pi_init_4 : decode (z_c m_Pi_init) 4 = .ok (.aload_n 0, 1) := by decide +kernel
theorem d_Pi_init_5 : decode (z_c m_Pi_init) 5 = .ok (.bipush 12, 2) := by decide +kernel
theorem d_Pi_init_7 : decode (z_c m_Pi_init) 7 = .ok (.newarray .int, 2) := by decide +kernel
theorem d_Pi_init_9 : decode (z_c m_Pi_init) 9 = .ok (.putfield 9, 3) := by decide +kernel
theorem d_Pi_init_12 : decode (z_c m_Pi_init) 12 = .ok (.aload_n 0, 1) := by decide +kernel
theorem d_Pi_init_13 : decode (z_c m_Pi_init) 13 = .ok (.bipush 12, 2) := by decide +kernel
theorem d_Pi_init_15 : decode (z_c m_Pi_init) 15 = .ok (.newarray .int, 2) := by decide +kernel
theorem d_Pi_init_17 : decode (z_c m_Pi_init) 17 = .ok (.putfield 15, 3) := by decide +kernel
theorem d_Pi_init_20 : decode (z_c m_Pi_init) 20 = .ok (.aload_n 0, 1) := by decide +kernel
theorem d_Pi_init_21 : decode (z_c m_Pi_init) 21 = .ok (.bipush 12, 2) := by decide +kernel
theorem d_Pi_init_23 : decode (z_c m_Pi_init) 23 = .ok (.newarray .int, 2) := by decide +kernel
theorem d_Pi_init_25 : decode (z_c m_Pi_init) 25 = .ok (.putfield 18, 3) := by decide +kernel
theorem d_Pi_init_28 : decode (z_c m_Pi_init) 28 = .ok (.return_, 1) := by decide +kernel
def kS_Pi (o : Nat) (σ : z_G) : z_G := (z_up (z_nw (z_up (z_nw (z_up (z_nw σ (o + 1) (fun _ => -1)) o 0 ((o + 1 : Nat) : Int)) (o + 2) (fun _ => -1)) o 1 ((o + 2 : Nat) : Int)) (o + 3) (fun _ => -1)) o 2 ((o + 3 : Nat) : Int))
def kG_Pi (o : Nat) (g : z_G) : z_G := (z_nw (z_nw (z_nw g (o + 1) (fun _ => 0)) (o + 2) (fun _ => 0)) (o + 3) (fun _ => 0))
theorem s_Pi_init {X : z_X} {σ g : z_G} {Q : z_Q} {o : Nat} (ht : z_tl X = 0) (hs0 : z_sh X o = (0, 3)) (hs1 : z_sh X (o + 1) = (1, 12)) (hs2 : z_sh X (o + 2) = (1, 12)) (hs3 : z_sh X (o + 3) = (1, 12)) (h : Q 0 (o + 4) (kS_Pi o σ) (kG_Pi o g)) : z_C X 3 3 36 m_Pi_init [(2, ((o : Nat) : Int))] (o + 1) σ g Q := by
  refine z_enter mi_Pi_init (Nat.le_of_ble_eq_true rfl) (fun _ => ?_)
  show z_V X 3 3 36 m_Pi_init 0 [(0, (2, ((o : Nat) : Int)))] [] 0 0 (o + 1) σ g Q
  refine z_aload_n (i := 0) (c := o) 0 d_Pi_init_0 rfl rfl rfl ?_
  refine z_obin (c := o) d_Pi_init_1 w_ol_Pi w_oi w_oc rfl (by decide) rfl ?_
  refine z_aload_n (i := 0) (c := o) 0 d_Pi_init_4 rfl rfl rfl ?_
  refine z_bipush (n := 12) d_Pi_init_5 (by decide) (by decide) ?_
  refine z_newa (at0 := .int) (t := 0) (n := 12) (idx := 0) d_Pi_init_7 w_ac_int rfl (fun _ _ h => h) rfl rfl rfl (by decide) hs1 ht (by decide) (by decide) ?_
  refine z_putr (c := o) (c2 := (o + 1)) (kI := 0) (ty := .array .int) d_Pi_init_9 fd_Pi_tops fl_Pi_9 (by decide +kernel) (Or.inr ⟨_, rfl⟩) rfl rfl rfl rfl rfl rfl hs0 (by omega) ?_
  refine z_aload_n (i := 0) (c := o) 0 d_Pi_init_12 rfl rfl rfl ?_
  refine z_bipush (n := 12) d_Pi_init_13 (by decide) (by decide) ?_
  refine z_newa (at0 := .int) (t := 0) (n := 12) (idx := 0) d_Pi_init_15 w_ac_int rfl (fun _ _ h => h) rfl rfl rfl (by decide) hs2 ht (by decide) (by decide) ?_
  refine z_putr (c := o) (c2 := (o + 2)) (kI := 1) (ty := .array .int) d_Pi_init_17 fd_Pi_bottoms fl_Pi_15 (by decide +kernel) (Or.inr ⟨_, rfl⟩) rfl rfl rfl rfl rfl rfl hs0 (by omega) ?_
  refine z_aload_n (i := 0) (c := o) 0 d_Pi_init_20 rfl rfl rfl ?_
  refine z_bipush (n := 12) d_Pi_init_21 (by decide) (by decide) ?_
  refine z_newa (at0 := .int) (t := 0) (n := 12) (idx := 0) d_Pi_init_23 w_ac_int rfl (fun _ _ h => h) rfl rfl rfl (by decide) hs3 ht (by decide) (by decide) ?_
  refine z_putr (c := o) (c2 := (o + 3)) (kI := 2) (ty := .array .int) d_Pi_init_25 fd_Pi_weights fl_Pi_18 (by decide +kernel) (Or.inr ⟨_, rfl⟩) rfl rfl rfl rfl rfl rfl hs0 (by omega) ?_
  exact z_vret d_Pi_init_28 rfl (by decide) (by decide) h
theorem d_Vi_init_0 : decode (z_c m_Vi_init) 0 = .ok (.aload_n 0, 1) := by decide +kernel
theorem d_Vi_init_1 : decode (z_c m_Vi_init) 1 = .ok (.invokespecial 3, 3) := by decide +kernel
theorem d_Vi_init_4 : decode (z_c m_Vi_init) 4 = .ok (.aload_n 0, 1) := by decide +kernel
theorem d_Vi_init_5 : decode (z_c m_Vi_init) 5 = .ok (.sipush 200, 3) := by decide +kernel
theorem d_Vi_init_8 : decode (z_c m_Vi_init) 8 = .ok (.newarray .int, 2) := by decide +kernel
theorem d_Vi_init_10 : decode (z_c m_Vi_init) 10 = .ok (.putfield 9, 3) := by decide +kernel
theorem d_Vi_init_13 : decode (z_c m_Vi_init) 13 = .ok (.return_, 1) := by decide +kernel
def kS_Vi (o : Nat) (σ : z_G) : z_G := (z_up (z_nw σ (o + 1) (fun _ => -1)) o 0 ((o + 1 : Nat) : Int))
def kG_Vi (o : Nat) (g : z_G) : z_G := (z_nw g (o + 1) (fun _ => 0))
theorem s_Vi_init {X : z_X} {σ g : z_G} {Q : z_Q} {o : Nat} (ht : z_tl X = 0) (hs0 : z_sh X o = (0, 9)) (hs1 : z_sh X (o + 1) = (1, 200)) (h : Q 0 (o + 2) (kS_Vi o σ) (kG_Vi o g)) : z_C X 3 1 200 m_Vi_init [(2, ((o : Nat) : Int))] (o + 1) σ g Q := by
  refine z_enter mi_Vi_init (Nat.le_of_ble_eq_true rfl) (fun _ => ?_)
  show z_V X 3 1 200 m_Vi_init 0 [(0, (2, ((o : Nat) : Int)))] [] 0 0 (o + 1) σ g Q
  refine z_aload_n (i := 0) (c := o) 0 d_Vi_init_0 rfl rfl rfl ?_
  refine z_obin (c := o) d_Vi_init_1 w_ol_Vi w_oi w_oc rfl (by decide) rfl ?_
  refine z_aload_n (i := 0) (c := o) 0 d_Vi_init_4 rfl rfl rfl ?_
  refine z_sipush (n := 200) d_Vi_init_5 (by decide) (by decide) ?_
  refine z_newa (at0 := .int) (t := 0) (n := 200) (idx := 0) d_Vi_init_8 w_ac_int rfl (fun _ _ h => h) rfl rfl rfl (by decide) hs1 ht (by decide) (by decide) ?_
  refine z_putr (c := o) (c2 := (o + 1)) (kI := 0) (ty := .array .int) d_Vi_init_10 fd_Vi_keys fl_Vi_9 (by decide +kernel) (Or.inr ⟨_, rfl⟩) rfl rfl rfl rfl rfl rfl hs0 (by omega) ?_
  exact z_vret d_Vi_init_13 rfl (by decide) (by decide) h
theorem d_Pg_init_0 : decode (z_c m_Pg_init) 0 = .ok (.aload_n 0, 1) := by decide +kernel
theorem d_Pg_init_1 : decode (z_c m_Pg_init) 1 = .ok (.invokespecial 3, 3) := by decide +kernel
theorem d_Pg_init_4 : decode (z_c m_Pg_init) 4 = .ok (.aload_n 0, 1) := by decide +kernel
theorem d_Pg_init_5 : decode (z_c m_Pg_init) 5 = .ok (.bipush 60, 2) := by decide +kernel
theorem d_Pg_init_7 : decode (z_c m_Pg_init) 7 = .ok (.newarray .int, 2) := by decide +kernel
theorem d_Pg_init_9 : decode (z_c m_Pg_init) 9 = .ok (.putfield 9, 3) := by decide +kernel
theorem d_Pg_init_12 : decode (z_c m_Pg_init) 12 = .ok (.aload_n 0, 1) := by decide +kernel
theorem d_Pg_init_13 : decode (z_c m_Pg_init) 13 = .ok (.bipush 60, 2) := by decide +kernel
theorem d_Pg_init_15 : decode (z_c m_Pg_init) 15 = .ok (.newarray .int, 2) := by decide +kernel
theorem d_Pg_init_17 : decode (z_c m_Pg_init) 17 = .ok (.putfield 13, 3) := by decide +kernel
theorem d_Pg_init_20 : decode (z_c m_Pg_init) 20 = .ok (.aload_n 0, 1) := by decide +kernel
theorem d_Pg_init_21 : decode (z_c m_Pg_init) 21 = .ok (.bipush 60, 2) := by decide +kernel
theorem d_Pg_init_23 : decode (z_c m_Pg_init) 23 = .ok (.newarray .int, 2) := by decide +kernel
theorem d_Pg_init_25 : decode (z_c m_Pg_init) 25 = .ok (.putfield 16, 3) := by decide +kernel
theorem d_Pg_init_28 : decode (z_c m_Pg_init) 28 = .ok (.aload_n 0, 1) := by decide +kernel
theorem d_Pg_init_29 : decode (z_c m_Pg_init) 29 = .ok (.bipush 60, 2) := by decide +kernel
theorem d_Pg_init_31 : decode (z_c m_Pg_init) 31 = .ok (.newarray .int, 2) := by decide +kernel
theorem d_Pg_init_33 : decode (z_c m_Pg_init) 33 = .ok (.putfield 19, 3) := by decide +kernel
theorem d_Pg_init_36 : decode (z_c m_Pg_init) 36 = .ok (.aload_n 0, 1) := by decide +kernel
theorem d_Pg_init_37 : decode (z_c m_Pg_init) 37 = .ok (.bipush 60, 2) := by decide +kernel
theorem d_Pg_init_39 : decode (z_c m_Pg_init) 39 = .ok (.newarray .int, 2) := by decide +kernel
theorem d_Pg_init_41 : decode (z_c m_Pg_init) 41 = .ok (.putfield 22, 3) := by decide +kernel
theorem d_Pg_init_44 : decode (z_c m_Pg_init) 44 = .ok (.return_, 1) := by decide +kernel
def kS_Pg (o : Nat) (σ : z_G) : z_G := (z_up (z_nw (z_up (z_nw (z_up (z_nw (z_up (z_nw (z_up (z_nw σ (o + 1) (fun _ => -1)) o 3 ((o + 1 : Nat) : Int)) (o + 2) (fun _ => -1)) o 4 ((o + 2 : Nat) : Int)) (o + 3) (fun _ => -1)) o 5 ((o + 3 : Nat) : Int)) (o + 4) (fun _ => -1)) o 6 ((o + 4 : Nat) : Int)) (o + 5) (fun _ => -1)) o 7 ((o + 5 : Nat) : Int))
def kG_Pg (o : Nat) (g : z_G) : z_G := (z_nw (z_nw (z_nw (z_nw (z_nw g (o + 1) (fun _ => 0)) (o + 2) (fun _ => 0)) (o + 3) (fun _ => 0)) (o + 4) (fun _ => 0)) (o + 5) (fun _ => 0))
theorem s_Pg_init {X : z_X} {σ g : z_G} {Q : z_Q} {o : Nat} (ht : z_tl X = 0) (hs0 : z_sh X o = (0, 4)) (hs1 : z_sh X (o + 1) = (1, 60)) (hs2 : z_sh X (o + 2) = (1, 60)) (hs3 : z_sh X (o + 3) = (1, 60)) (hs4 : z_sh X (o + 4) = (1, 60)) (hs5 : z_sh X (o + 5) = (1, 60)) (h : Q 0 (o + 6) (kS_Pg o σ) (kG_Pg o g)) : z_C X 3 5 300 m_Pg_init [(2, ((o : Nat) : Int))] (o + 1) σ g Q := by
  refine z_enter mi_Pg_init (Nat.le_of_ble_eq_true rfl) (fun _ => ?_)
  show z_V X 3 5 300 m_Pg_init 0 [(0, (2, ((o : Nat) : Int)))] [] 0 0 (o + 1) σ g Q
  refine z_aload_n (i := 0) (c := o) 0 d_Pg_init_0 rfl rfl rfl ?_
  refine z_obin (c := o) d_Pg_init_1 w_ol_Pg w_oi w_oc rfl (by decide) rfl ?_
  refine z_aload_n (i := 0) (c := o) 0 d_Pg_init_4 rfl rfl rfl ?_
  refine z_bipush (n := 60) d_Pg_init_5 (by decide) (by decide) ?_
  refine z_newa (at0 := .int) (t := 0) (n := 60) (idx := 0) d_Pg_init_7 w_ac_int rfl (fun _ _ h => h) rfl rfl rfl (by decide) hs1 ht (by decide) (by decide) ?_
  refine z_putr (c := o) (c2 := (o + 1)) (kI := 3) (ty := .array .int) d_Pg_init_9 fd_Pg_kinds fl_Pg_9 (by decide +kernel) (Or.inr ⟨_, rfl⟩) rfl rfl rfl rfl rfl rfl hs0 (by omega) ?_
  refine z_aload_n (i := 0) (c := o) 0 d_Pg_init_12 rfl rfl rfl ?_
  refine z_bipush (n := 60) d_Pg_init_13 (by decide) (by decide) ?_
  refine z_newa (at0 := .int) (t := 0) (n := 60) (idx := 0) d_Pg_init_15 w_ac_int rfl (fun _ _ h => h) rfl rfl rfl (by decide) hs2 ht (by decide) (by decide) ?_
  refine z_putr (c := o) (c2 := (o + 2)) (kI := 4) (ty := .array .int) d_Pg_init_17 fd_Pg_tests fl_Pg_13 (by decide +kernel) (Or.inr ⟨_, rfl⟩) rfl rfl rfl rfl rfl rfl hs0 (by omega) ?_
  refine z_aload_n (i := 0) (c := o) 0 d_Pg_init_20 rfl rfl rfl ?_
  refine z_bipush (n := 60) d_Pg_init_21 (by decide) (by decide) ?_
  refine z_newa (at0 := .int) (t := 0) (n := 60) (idx := 0) d_Pg_init_23 w_ac_int rfl (fun _ _ h => h) rfl rfl rfl (by decide) hs3 ht (by decide) (by decide) ?_
  refine z_putr (c := o) (c2 := (o + 3)) (kI := 5) (ty := .array .int) d_Pg_init_25 fd_Pg_firsts fl_Pg_16 (by decide +kernel) (Or.inr ⟨_, rfl⟩) rfl rfl rfl rfl rfl rfl hs0 (by omega) ?_
  refine z_aload_n (i := 0) (c := o) 0 d_Pg_init_28 rfl rfl rfl ?_
  refine z_bipush (n := 60) d_Pg_init_29 (by decide) (by decide) ?_
  refine z_newa (at0 := .int) (t := 0) (n := 60) (idx := 0) d_Pg_init_31 w_ac_int rfl (fun _ _ h => h) rfl rfl rfl (by decide) hs4 ht (by decide) (by decide) ?_
  refine z_putr (c := o) (c2 := (o + 4)) (kI := 6) (ty := .array .int) d_Pg_init_33 fd_Pg_seconds fl_Pg_19 (by decide +kernel) (Or.inr ⟨_, rfl⟩) rfl rfl rfl rfl rfl rfl hs0 (by omega) ?_
  refine z_aload_n (i := 0) (c := o) 0 d_Pg_init_36 rfl rfl rfl ?_
  refine z_bipush (n := 60) d_Pg_init_37 (by decide) (by decide) ?_
  refine z_newa (at0 := .int) (t := 0) (n := 60) (idx := 0) d_Pg_init_39 w_ac_int rfl (fun _ _ h => h) rfl rfl rfl (by decide) hs5 ht (by decide) (by decide) ?_
  refine z_putr (c := o) (c2 := (o + 5)) (kI := 7) (ty := .array .int) d_Pg_init_41 fd_Pg_mates fl_Pg_22 (by decide +kernel) (Or.inr ⟨_, rfl⟩) rfl rfl rfl rfl rfl rfl hs0 (by omega) ?_
  exact z_vret d_Pg_init_44 rfl (by decide) (by decide) h
theorem d_Ta_init_0 : decode (z_c m_Ta_init) 0 = .ok (.aload_n 0, 1) := by decide +kernel
theorem d_Ta_init_1 : decode (z_c m_Ta_init) 1 = .ok (.invokespecial 3, 3) := by decide +kernel
theorem d_Ta_init_4 : decode (z_c m_Ta_init) 4 = .ok (.aload_n 0, 1) := by decide +kernel
theorem d_Ta_init_5 : decode (z_c m_Ta_init) 5 = .ok (.sipush 900, 3) := by decide +kernel
theorem d_Ta_init_8 : decode (z_c m_Ta_init) 8 = .ok (.newarray .char, 2) := by decide +kernel
theorem d_Ta_init_10 : decode (z_c m_Ta_init) 10 = .ok (.putfield 9, 3) := by decide +kernel
theorem d_Ta_init_13 : decode (z_c m_Ta_init) 13 = .ok (.return_, 1) := by decide +kernel
def kS_Ta (o : Nat) (σ : z_G) : z_G := (z_up (z_nw σ (o + 1) (fun _ => -1)) o 0 ((o + 1 : Nat) : Int))
def kG_Ta (o : Nat) (g : z_G) : z_G := (z_nw g (o + 1) (fun _ => 0))
theorem s_Ta_init {X : z_X} {σ g : z_G} {Q : z_Q} {o : Nat} (ht : z_tl X = 0) (hs0 : z_sh X o = (0, 7)) (hs1 : z_sh X (o + 1) = (3, 900)) (h : Q 0 (o + 2) (kS_Ta o σ) (kG_Ta o g)) : z_C X 3 1 900 m_Ta_init [(2, ((o : Nat) : Int))] (o + 1) σ g Q := by
  refine z_enter mi_Ta_init (Nat.le_of_ble_eq_true rfl) (fun _ => ?_)
  show z_V X 3 1 900 m_Ta_init 0 [(0, (2, ((o : Nat) : Int)))] [] 0 0 (o + 1) σ g Q
  refine z_aload_n (i := 0) (c := o) 0 d_Ta_init_0 rfl rfl rfl ?_
  refine z_obin (c := o) d_Ta_init_1 w_ol_Ta w_oi w_oc rfl (by decide) rfl ?_
  refine z_aload_n (i := 0) (c := o) 0 d_Ta_init_4 rfl rfl rfl ?_
  refine z_sipush (n := 900) d_Ta_init_5 (by decide) (by decide) ?_
  refine z_newa (at0 := .char) (t := 2) (n := 900) (idx := 0) d_Ta_init_8 w_ac_char rfl (fun _ _ h => h) rfl rfl rfl (by decide) hs1 ht (by decide) (by decide) ?_
  refine z_putr (c := o) (c2 := (o + 1)) (kI := 0) (ty := .array .char) d_Ta_init_10 fd_Ta_text fl_Ta_9 (by decide +kernel) (Or.inr ⟨_, rfl⟩) rfl rfl rfl rfl rfl rfl hs0 (by omega) ?_
  exact z_vret d_Ta_init_13 rfl (by decide) (by decide) h
theorem d_Wk_init_0 : decode (z_c m_Wk_init) 0 = .ok (.aload_n 0, 1) := by decide +kernel
theorem d_Wk_init_1 : decode (z_c m_Wk_init) 1 = .ok (.invokespecial 3, 3) := by decide +kernel
theorem d_Wk_init_4 : decode (z_c m_Wk_init) 4 = .ok (.aload_n 0, 1) := by decide +kernel
theorem d_Wk_init_5 : decode (z_c m_Wk_init) 5 = .ok (.bipush 60, 2) := by decide +kernel
theorem d_Wk_init_7 : decode (z_c m_Wk_init) 7 = .ok (.newarray .int, 2) := by decide +kernel
theorem d_Wk_init_9 : decode (z_c m_Wk_init) 9 = .ok (.putfield 11, 3) := by decide +kernel
theorem d_Wk_init_12 : decode (z_c m_Wk_init) 12 = .ok (.return_, 1) := by decide +kernel
def kS_Wk (o : Nat) (σ : z_G) : z_G := (z_up (z_nw σ (o + 1) (fun _ => -1)) o 7 ((o + 1 : Nat) : Int))
def kG_Wk (o : Nat) (g : z_G) : z_G := (z_nw g (o + 1) (fun _ => 0))
theorem s_Wk_init {X : z_X} {σ g : z_G} {Q : z_Q} {o : Nat} (ht : z_tl X = 0) (hs0 : z_sh X o = (0, 10)) (hs1 : z_sh X (o + 1) = (1, 60)) (h : Q 0 (o + 2) (kS_Wk o σ) (kG_Wk o g)) : z_C X 3 1 60 m_Wk_init [(2, ((o : Nat) : Int))] (o + 1) σ g Q := by
  refine z_enter mi_Wk_init (Nat.le_of_ble_eq_true rfl) (fun _ => ?_)
  show z_V X 3 1 60 m_Wk_init 0 [(0, (2, ((o : Nat) : Int)))] [] 0 0 (o + 1) σ g Q
  refine z_aload_n (i := 0) (c := o) 0 d_Wk_init_0 rfl rfl rfl ?_
  refine z_obin (c := o) d_Wk_init_1 w_ol_Wk w_oi w_oc rfl (by decide) rfl ?_
  refine z_aload_n (i := 0) (c := o) 0 d_Wk_init_4 rfl rfl rfl ?_
  refine z_bipush (n := 60) d_Wk_init_5 (by decide) (by decide) ?_
  refine z_newa (at0 := .int) (t := 0) (n := 60) (idx := 0) d_Wk_init_7 w_ac_int rfl (fun _ _ h => h) rfl rfl rfl (by decide) hs1 ht (by decide) (by decide) ?_
  refine z_putr (c := o) (c2 := (o + 1)) (kI := 7) (ty := .array .int) d_Wk_init_9 fd_Wk_rounds fl_Wk_11 (by decide +kernel) (Or.inr ⟨_, rfl⟩) rfl rfl rfl rfl rfl rfl hs0 (by omega) ?_
  exact z_vret d_Wk_init_12 rfl (by decide) (by decide) h
theorem d_Sp_init_0 : decode (z_c m_Sp_init) 0 = .ok (.aload_n 0, 1) := by decide +kernel
theorem d_Sp_init_1 : decode (z_c m_Sp_init) 1 = .ok (.invokespecial 3, 3) := by decide +kernel
theorem d_Sp_init_4 : decode (z_c m_Sp_init) 4 = .ok (.aload_n 0, 1) := by decide +kernel
theorem d_Sp_init_5 : decode (z_c m_Sp_init) 5 = .ok (.invokevirtual 9, 3) := by decide +kernel
theorem d_Sp_init_8 : decode (z_c m_Sp_init) 8 = .ok (.return_, 1) := by decide +kernel
def kG_Sp (o : Nat) (g : z_G) : z_G := (z_up (z_up (z_up (z_up (z_up g o 0 0) o 1 1) o 2 1) o 3 1) o 4 0)
theorem s_Sp_init {X : z_X} {σ g : z_G} {Q : z_Q} {o : Nat} (ht : z_tl X = 0) (hs0 : z_sh X o = (0, 6)) (h : Q 0 (o + 1) σ (kG_Sp o g)) : z_C X 3 0 0 m_Sp_init [(2, ((o : Nat) : Int))] (o + 1) σ g Q := by
  have hl : z_lay X (o + 1) σ o z_SSp z_RSp := ⟨fun j s hj => by
    match j, hj with
    | 0, hj => cases hj; exact hs0
    | (n + 1), hj => simp [z_SSp] at hj, by simp [z_SSp], fun k q hq => by simp [z_RSp] at hq⟩
  refine z_enter mi_Sp_init (Nat.le_of_ble_eq_true rfl) (fun _ => ?_)
  show z_V X 3 0 0 m_Sp_init 0 [(0, (2, ((o : Nat) : Int)))] [] 0 0 (o + 1) σ g Q
  refine z_aload_n (i := 0) (c := o) 0 d_Sp_init_0 rfl rfl rfl ?_
  refine z_obin (c := o) d_Sp_init_1 w_ol_Sp w_oi w_oc rfl (by decide) rfl ?_
  refine z_aload_n (i := 0) (c := o) 0 d_Sp_init_4 rfl rfl rfl ?_
  refine z_callV (c := o) (as := []) (d' := 1) (mc' := 0) (ms' := 0) (st := []) d_Sp_init_5 mi_Sp_toRoot ml_Sp_9 mv_Sp_toRoot se_Sp_toRoot rfl (by decide) rfl rfl hs0 rfl rfl (by omega) (by decide) (by decide) (by decide) (by decide) ?_
  refine z_C_mono (b_Sp_toRoot_0 (Q := fun r g' => r = 0 ∧ g' = kG_Sp o g) hl ⟨rfl, rfl⟩) fun r N' σ' g' _ hh => ?_
  obtain ⟨rfl, rfl, rfl, rfl⟩ := hh
  exact z_vret d_Sp_init_8 rfl (by decide) (by decide) h
theorem d_Pa_init_0 : decode (z_c m_Pa_init) 0 = .ok (.aload_n 0, 1) := by decide +kernel
theorem d_Pa_init_1 : decode (z_c m_Pa_init) 1 = .ok (.invokespecial 3, 3) := by decide +kernel
theorem d_Pa_init_4 : decode (z_c m_Pa_init) 4 = .ok (.aload_n 0, 1) := by decide +kernel
theorem d_Pa_init_5 : decode (z_c m_Pa_init) 5 = .ok (.new 9, 3) := by decide +kernel
theorem d_Pa_init_8 : decode (z_c m_Pa_init) 8 = .ok (.dup, 1) := by decide +kernel
theorem d_Pa_init_9 : decode (z_c m_Pa_init) 9 = .ok (.invokespecial 11, 3) := by decide +kernel
theorem d_Pa_init_12 : decode (z_c m_Pa_init) 12 = .ok (.putfield 12, 3) := by decide +kernel
theorem d_Pa_init_15 : decode (z_c m_Pa_init) 15 = .ok (.aload_n 0, 1) := by decide +kernel
theorem d_Pa_init_16 : decode (z_c m_Pa_init) 16 = .ok (.new 18, 3) := by decide +kernel
theorem d_Pa_init_19 : decode (z_c m_Pa_init) 19 = .ok (.dup, 1) := by decide +kernel
theorem d_Pa_init_20 : decode (z_c m_Pa_init) 20 = .ok (.invokespecial 20, 3) := by decide +kernel
theorem d_Pa_init_23 : decode (z_c m_Pa_init) 23 = .ok (.putfield 21, 3) := by decide +kernel
theorem d_Pa_init_26 : decode (z_c m_Pa_init) 26 = .ok (.aload_n 0, 1) := by decide +kernel
theorem d_Pa_init_27 : decode (z_c m_Pa_init) 27 = .ok (.iconst 3, 1) := by decide +kernel
theorem d_Pa_init_28 : decode (z_c m_Pa_init) 28 = .ok (.newarray .int, 2) := by decide +kernel
theorem d_Pa_init_30 : decode (z_c m_Pa_init) 30 = .ok (.putfield 25, 3) := by decide +kernel
theorem d_Pa_init_33 : decode (z_c m_Pa_init) 33 = .ok (.return_, 1) := by decide +kernel
def kS_Pa (o : Nat) (σ : z_G) : z_G := (z_up (z_nw (z_up (kS_Ch (o + 3) (z_nw (z_up (kS_Ta (o + 1) (z_nw σ (o + 1) (fun _ => -1))) o 0 ((o + 1 : Nat) : Int)) (o + 3) (fun _ => -1))) o 1 ((o + 3 : Nat) : Int)) (o + 5) (fun _ => -1)) o 5 ((o + 5 : Nat) : Int))
def kG_Pa (o : Nat) (g : z_G) : z_G := (z_nw (kG_Ch (o + 3) (z_nw (kG_Ta (o + 1) (z_nw g (o + 1) (fun _ => 0))) (o + 3) (fun _ => 0))) (o + 5) (fun _ => 0))
theorem s_Pa_init {X : z_X} {σ g : z_G} {Q : z_Q} {o : Nat} (ht : z_tl X = 0) (hs0 : z_sh X o = (0, 2)) (hs1 : z_sh X (o + 1) = (0, 7)) (hs2 : z_sh X (o + 2) = (3, 900)) (hs3 : z_sh X (o + 3) = (0, 1)) (hs4 : z_sh X (o + 4) = (1, 32)) (hs5 : z_sh X (o + 5) = (1, 3)) (h : Q 0 (o + 6) (kS_Pa o σ) (kG_Pa o g)) : z_C X 5 5 953 m_Pa_init [(2, ((o : Nat) : Int))] (o + 1) σ g Q := by
  refine z_enter mi_Pa_init (Nat.le_of_ble_eq_true rfl) (fun _ => ?_)
  show z_V X 5 5 953 m_Pa_init 0 [(0, (2, ((o : Nat) : Int)))] [] 0 0 (o + 1) σ g Q
  refine z_aload_n (i := 0) (c := o) 0 d_Pa_init_0 rfl rfl rfl ?_
  refine z_obin (c := o) d_Pa_init_1 w_ol_Pa w_oi w_oc rfl (by decide) rfl ?_
  refine z_aload_n (i := 0) (c := o) 0 d_Pa_init_4 rfl rfl rfl ?_
  refine z_new (ci := 7) (ty := tyX7) d_Pa_init_5 rfl rfl z_ly7 z_ty7 z_df7 w_cl_Pa_9 w_in_Ta w_it_Ta hs1 ht (by decide) (by decide) ?_
  refine z_dup d_Pa_init_8 rfl ?_
  refine z_callIN (c := (o + 1)) (as := []) (d' := 3) (mc' := 1) (ms' := 900) (st := [(2, ((o + 1 : Nat) : Int)), (2, ((o : Nat) : Int))]) d_Pa_init_9 mi_Ta_init nl_Pa_11 mv_Ta_init rfl rfl rfl (by decide) rfl rfl (Nat.le_of_ble_eq_true rfl) (by decide) (by decide) (by decide) ?_
  refine s_Ta_init (o := (o + 1)) ht hs1 hs2 ?_
  show z_V X 5 5 953 m_Pa_init 12 [(0, (2, ((o : Nat) : Int)))] [(2, ((o + 1 : Nat) : Int)), (2, ((o : Nat) : Int))] 2 911 (o + 3) _ _ Q
  refine z_putr (c := o) (c2 := (o + 1)) (kI := 0) (ty := .object "FareyRank$Tape") d_Pa_init_12 fd_Pa_tape fl_Pa_12 (by decide +kernel) (Or.inl ⟨_, rfl⟩) rfl rfl rfl rfl rfl rfl hs0 (by omega) ?_
  refine z_aload_n (i := 0) (c := o) 0 d_Pa_init_15 rfl rfl rfl ?_
  refine z_new (ci := 1) (ty := tyX1) d_Pa_init_16 rfl rfl z_ly1 z_ty1 z_df1 w_cl_Pa_18 w_in_Ch w_it_Ch hs3 ht (by decide) (by decide) ?_
  refine z_dup d_Pa_init_19 rfl ?_
  refine z_callIN (c := (o + 3)) (as := []) (d' := 3) (mc' := 1) (ms' := 32) (st := [(2, ((o + 3 : Nat) : Int)), (2, ((o : Nat) : Int))]) d_Pa_init_20 mi_Ch_init nl_Pa_20 mv_Ch_init rfl rfl rfl (by decide) rfl rfl (Nat.le_of_ble_eq_true rfl) (by decide) (by decide) (by decide) ?_
  refine s_Ch_init (o := (o + 3)) ht hs3 hs4 ?_
  show z_V X 5 5 953 m_Pa_init 23 [(0, (2, ((o : Nat) : Int)))] [(2, ((o + 3 : Nat) : Int)), (2, ((o : Nat) : Int))] 4 950 (o + 5) _ _ Q
  refine z_putr (c := o) (c2 := (o + 3)) (kI := 1) (ty := .object "FareyRank$Chain") d_Pa_init_23 fd_Pa_chain fl_Pa_21 (by decide +kernel) (Or.inl ⟨_, rfl⟩) rfl rfl rfl rfl rfl rfl hs0 (by omega) ?_
  refine z_aload_n (i := 0) (c := o) 0 d_Pa_init_26 rfl rfl rfl ?_
  refine z_iconst (n := 3) d_Pa_init_27 (by decide) ?_
  refine z_newa (at0 := .int) (t := 0) (n := 3) (idx := 0) d_Pa_init_28 w_ac_int rfl (fun _ _ h => h) rfl rfl rfl (by decide) hs5 ht (by decide) (by decide) ?_
  refine z_putr (c := o) (c2 := (o + 5)) (kI := 5) (ty := .array .int) d_Pa_init_30 fd_Pa_begins fl_Pa_25 (by decide +kernel) (Or.inr ⟨_, rfl⟩) rfl rfl rfl rfl rfl rfl hs0 (by omega) ?_
  exact z_vret d_Pa_init_33 rfl (by decide) (by decide) h

def z_fd (C : String) (T : u_T) (n ci k t : Nat) (fin : Bool) : Prop :=
  vwCl[ci]? = some (C, T, n) ∧ k < n ∧ z_nf ci = n ∧ (∀ w ∈ u_ws C T n, w ∈ z_tb) ∧ (T k).1 = C ∧ z_fk ci k = t ∧ (T k).2.2.2 = fin ∧ (∀ a, a < n → ∀ b, b < n → a ≠ b → (T a).2.1 ≠ (T b).2.1) ∧ (∃ ty : Nat → FieldType, ∀ k, k < n → parseFieldDescriptor (T k).2.2.1 = some (ty k))
def z_lk (own : String) (idx : Nat) (C : String) (T : u_T) (k : Nat) : Prop := Cond.fieldLink own idx C (T k).2.1 (T k).2.2.1 ∈ z_tb
def z_mi (M : z_M) (n : Nat) : Prop := plainName (z_y M).cls = true ∧ Cond.code (z_y M) (z_c M) (z_n M) (z_r M) ∈ z_tb ∧ Cond.initialized (z_y M).cls ∈ z_tb ∧ ((z_y M).cls ≠ "java/lang/invoke/MethodHandle" ∧ (z_y M).cls ≠ "java/lang/invoke/VarHandle") ∧ (parseMethodDescriptor (z_y M).desc).map (fun d => d.parameters.length) = some n
theorem fd_Bd_order : z_fd RX0 TX0 6 0 0 0 false := ⟨rfl, by decide, rfl, z_ly0, rfl, rfl, rfl, z_n0, tyX0, z_ty0⟩
theorem fd_Bd_odds : z_fd RX0 TX0 6 0 1 0 false := ⟨rfl, by decide, rfl, z_ly0, rfl, rfl, rfl, z_n0, tyX0, z_ty0⟩
theorem fd_Bd_walker : z_fd RX0 TX0 6 0 2 2 true := ⟨rfl, by decide, rfl, z_ly0, rfl, rfl, rfl, z_n0, tyX0, z_ty0⟩
theorem fd_Bd_pins : z_fd RX0 TX0 6 0 3 2 true := ⟨rfl, by decide, rfl, z_ly0, rfl, rfl, rfl, z_n0, tyX0, z_ty0⟩
theorem fd_Bd_visits : z_fd RX0 TX0 6 0 4 2 true := ⟨rfl, by decide, rfl, z_ly0, rfl, rfl, rfl, z_n0, tyX0, z_ty0⟩
theorem fd_Bd_program : z_fd RX0 TX0 6 0 5 2 true := ⟨rfl, by decide, rfl, z_ly0, rfl, rfl, rfl, z_n0, tyX0, z_ty0⟩
theorem fd_Ch_row : z_fd RX1 TX1 7 1 0 2 true := ⟨rfl, by decide, rfl, z_ly1, rfl, rfl, rfl, z_n1, tyX1, z_ty1⟩
theorem fd_Ch_many : z_fd RX1 TX1 7 1 1 0 false := ⟨rfl, by decide, rfl, z_ly1, rfl, rfl, rfl, z_n1, tyX1, z_ty1⟩
theorem fd_Ch_sum : z_fd RX1 TX1 7 1 2 0 false := ⟨rfl, by decide, rfl, z_ly1, rfl, rfl, rfl, z_n1, tyX1, z_ty1⟩
theorem fd_Ch_top : z_fd RX1 TX1 7 1 3 0 false := ⟨rfl, by decide, rfl, z_ly1, rfl, rfl, rfl, z_n1, tyX1, z_ty1⟩
theorem fd_Ch_bottom : z_fd RX1 TX1 7 1 4 0 false := ⟨rfl, by decide, rfl, z_ly1, rfl, rfl, rfl, z_n1, tyX1, z_ty1⟩
theorem fd_Ch_lastTop : z_fd RX1 TX1 7 1 5 0 false := ⟨rfl, by decide, rfl, z_ly1, rfl, rfl, rfl, z_n1, tyX1, z_ty1⟩
theorem fd_Ch_lastBottom : z_fd RX1 TX1 7 1 6 0 false := ⟨rfl, by decide, rfl, z_ly1, rfl, rfl, rfl, z_n1, tyX1, z_ty1⟩
theorem fd_Pa_tape : z_fd RX2 TX2 10 2 0 2 true := ⟨rfl, by decide, rfl, z_ly2, rfl, rfl, rfl, z_n2, tyX2, z_ty2⟩
theorem fd_Pa_chain : z_fd RX2 TX2 10 2 1 2 true := ⟨rfl, by decide, rfl, z_ly2, rfl, rfl, rfl, z_n2, tyX2, z_ty2⟩
theorem fd_Pa_oddsTold : z_fd RX2 TX2 10 2 2 5 false := ⟨rfl, by decide, rfl, z_ly2, rfl, rfl, rfl, z_n2, tyX2, z_ty2⟩
theorem fd_Pa_orderTold : z_fd RX2 TX2 10 2 3 5 false := ⟨rfl, by decide, rfl, z_ly2, rfl, rfl, rfl, z_n2, tyX2, z_ty2⟩
theorem fd_Pa_hereTold : z_fd RX2 TX2 10 2 4 5 false := ⟨rfl, by decide, rfl, z_ly2, rfl, rfl, rfl, z_n2, tyX2, z_ty2⟩
theorem fd_Pa_begins : z_fd RX2 TX2 10 2 5 2 true := ⟨rfl, by decide, rfl, z_ly2, rfl, rfl, rfl, z_n2, tyX2, z_ty2⟩
theorem fd_Pa_open : z_fd RX2 TX2 10 2 6 0 false := ⟨rfl, by decide, rfl, z_ly2, rfl, rfl, rfl, z_n2, tyX2, z_ty2⟩
theorem fd_Pa_test : z_fd RX2 TX2 10 2 7 0 false := ⟨rfl, by decide, rfl, z_ly2, rfl, rfl, rfl, z_n2, tyX2, z_ty2⟩
theorem fd_Pa_first : z_fd RX2 TX2 10 2 8 0 false := ⟨rfl, by decide, rfl, z_ly2, rfl, rfl, rfl, z_n2, tyX2, z_ty2⟩
theorem fd_Pa_second : z_fd RX2 TX2 10 2 9 0 false := ⟨rfl, by decide, rfl, z_ly2, rfl, rfl, rfl, z_n2, tyX2, z_ty2⟩
theorem fd_Pi_tops : z_fd RX3 TX3 4 3 0 2 true := ⟨rfl, by decide, rfl, z_ly3, rfl, rfl, rfl, z_n3, tyX3, z_ty3⟩
theorem fd_Pi_bottoms : z_fd RX3 TX3 4 3 1 2 true := ⟨rfl, by decide, rfl, z_ly3, rfl, rfl, rfl, z_n3, tyX3, z_ty3⟩
theorem fd_Pi_weights : z_fd RX3 TX3 4 3 2 2 true := ⟨rfl, by decide, rfl, z_ly3, rfl, rfl, rfl, z_n3, tyX3, z_ty3⟩
theorem fd_Pi_many : z_fd RX3 TX3 4 3 3 0 false := ⟨rfl, by decide, rfl, z_ly3, rfl, rfl, rfl, z_n3, tyX3, z_ty3⟩
theorem fd_Pg_given : z_fd RX4 TX4 8 4 0 5 false := ⟨rfl, by decide, rfl, z_ly4, rfl, rfl, rfl, z_n4, tyX4, z_ty4⟩
theorem fd_Pg_steps : z_fd RX4 TX4 8 4 1 0 false := ⟨rfl, by decide, rfl, z_ly4, rfl, rfl, rfl, z_n4, tyX4, z_ty4⟩
theorem fd_Pg_lines : z_fd RX4 TX4 8 4 2 0 false := ⟨rfl, by decide, rfl, z_ly4, rfl, rfl, rfl, z_n4, tyX4, z_ty4⟩
theorem fd_Pg_kinds : z_fd RX4 TX4 8 4 3 2 true := ⟨rfl, by decide, rfl, z_ly4, rfl, rfl, rfl, z_n4, tyX4, z_ty4⟩
theorem fd_Pg_tests : z_fd RX4 TX4 8 4 4 2 true := ⟨rfl, by decide, rfl, z_ly4, rfl, rfl, rfl, z_n4, tyX4, z_ty4⟩
theorem fd_Pg_firsts : z_fd RX4 TX4 8 4 5 2 true := ⟨rfl, by decide, rfl, z_ly4, rfl, rfl, rfl, z_n4, tyX4, z_ty4⟩
theorem fd_Pg_seconds : z_fd RX4 TX4 8 4 6 2 true := ⟨rfl, by decide, rfl, z_ly4, rfl, rfl, rfl, z_n4, tyX4, z_ty4⟩
theorem fd_Pg_mates : z_fd RX4 TX4 8 4 7 2 true := ⟨rfl, by decide, rfl, z_ly4, rfl, rfl, rfl, z_n4, tyX4, z_ty4⟩
theorem fd_Rw_moebius : z_fd RX5 TX5 6 5 0 2 true := ⟨rfl, by decide, rfl, z_ly5, rfl, rfl, rfl, z_n5, tyX5, z_ty5⟩
theorem fd_Rw_sums : z_fd RX5 TX5 6 5 1 2 true := ⟨rfl, by decide, rfl, z_ly5, rfl, rfl, rfl, z_n5, tyX5, z_ty5⟩
theorem fd_Rw_lowTop : z_fd RX5 TX5 6 5 2 0 false := ⟨rfl, by decide, rfl, z_ly5, rfl, rfl, rfl, z_n5, tyX5, z_ty5⟩
theorem fd_Rw_lowBottom : z_fd RX5 TX5 6 5 3 0 false := ⟨rfl, by decide, rfl, z_ly5, rfl, rfl, rfl, z_n5, tyX5, z_ty5⟩
theorem fd_Rw_highTop : z_fd RX5 TX5 6 5 4 0 false := ⟨rfl, by decide, rfl, z_ly5, rfl, rfl, rfl, z_n5, tyX5, z_ty5⟩
theorem fd_Rw_highBottom : z_fd RX5 TX5 6 5 5 0 false := ⟨rfl, by decide, rfl, z_ly5, rfl, rfl, rfl, z_n5, tyX5, z_ty5⟩
theorem fd_Sp_lowTop : z_fd RX6 TX6 5 6 0 0 false := ⟨rfl, by decide, rfl, z_ly6, rfl, rfl, rfl, z_n6, tyX6, z_ty6⟩
theorem fd_Sp_lowBottom : z_fd RX6 TX6 5 6 1 0 false := ⟨rfl, by decide, rfl, z_ly6, rfl, rfl, rfl, z_n6, tyX6, z_ty6⟩
theorem fd_Sp_highTop : z_fd RX6 TX6 5 6 2 0 false := ⟨rfl, by decide, rfl, z_ly6, rfl, rfl, rfl, z_n6, tyX6, z_ty6⟩
theorem fd_Sp_highBottom : z_fd RX6 TX6 5 6 3 0 false := ⟨rfl, by decide, rfl, z_ly6, rfl, rfl, rfl, z_n6, tyX6, z_ty6⟩
theorem fd_Sp_deep : z_fd RX6 TX6 5 6 4 0 false := ⟨rfl, by decide, rfl, z_ly6, rfl, rfl, rfl, z_n6, tyX6, z_ty6⟩
theorem fd_Ta_text : z_fd RX7 TX7 11 7 0 2 true := ⟨rfl, by decide, rfl, z_ly7, rfl, rfl, rfl, z_n7, tyX7, z_ty7⟩
theorem fd_Ta_taped : z_fd RX7 TX7 11 7 1 0 false := ⟨rfl, by decide, rfl, z_ly7, rfl, rfl, rfl, z_n7, tyX7, z_ty7⟩
theorem fd_Ta_length : z_fd RX7 TX7 11 7 2 0 false := ⟨rfl, by decide, rfl, z_ly7, rfl, rfl, rfl, z_n7, tyX7, z_ty7⟩
theorem fd_Ta_behind : z_fd RX7 TX7 11 7 3 0 false := ⟨rfl, by decide, rfl, z_ly7, rfl, rfl, rfl, z_n7, tyX7, z_ty7⟩
theorem fd_Ta_kind : z_fd RX7 TX7 11 7 4 0 false := ⟨rfl, by decide, rfl, z_ly7, rfl, rfl, rfl, z_n7, tyX7, z_ty7⟩
theorem fd_Ta_value : z_fd RX7 TX7 11 7 5 0 false := ⟨rfl, by decide, rfl, z_ly7, rfl, rfl, rfl, z_n7, tyX7, z_ty7⟩
theorem fd_Ta_at : z_fd RX7 TX7 11 7 6 0 false := ⟨rfl, by decide, rfl, z_ly7, rfl, rfl, rfl, z_n7, tyX7, z_ty7⟩
theorem fd_Ta_number : z_fd RX7 TX7 11 7 7 0 false := ⟨rfl, by decide, rfl, z_ly7, rfl, rfl, rfl, z_n7, tyX7, z_ty7⟩
theorem fd_Ta_numberAt : z_fd RX7 TX7 11 7 8 0 false := ⟨rfl, by decide, rfl, z_ly7, rfl, rfl, rfl, z_n7, tyX7, z_ty7⟩
theorem fd_Ta_faultKind : z_fd RX7 TX7 11 7 9 0 false := ⟨rfl, by decide, rfl, z_ly7, rfl, rfl, rfl, z_n7, tyX7, z_ty7⟩
theorem fd_Ta_faultPlace : z_fd RX7 TX7 11 7 10 0 false := ⟨rfl, by decide, rfl, z_ly7, rfl, rfl, rfl, z_n7, tyX7, z_ty7⟩
theorem fd_Tr_rows : z_fd RX8 TX8 3 8 0 2 true := ⟨rfl, by decide, rfl, z_ly8, rfl, rfl, rfl, z_n8, tyX8, z_ty8⟩
theorem fd_Tr_sorts : z_fd RX8 TX8 3 8 1 2 true := ⟨rfl, by decide, rfl, z_ly8, rfl, rfl, rfl, z_n8, tyX8, z_ty8⟩
theorem fd_Tr_lengths : z_fd RX8 TX8 3 8 2 2 true := ⟨rfl, by decide, rfl, z_ly8, rfl, rfl, rfl, z_n8, tyX8, z_ty8⟩
theorem fd_Vi_keys : z_fd RX9 TX9 2 9 0 2 true := ⟨rfl, by decide, rfl, z_ly9, rfl, rfl, rfl, z_n9, tyX9, z_ty9⟩
theorem fd_Vi_many : z_fd RX9 TX9 2 9 1 0 false := ⟨rfl, by decide, rfl, z_ly9, rfl, rfl, rfl, z_n9, tyX9, z_ty9⟩
theorem fd_Wk_done : z_fd RX10 TX10 8 10 0 0 false := ⟨rfl, by decide, rfl, z_ly10, rfl, rfl, rfl, z_n10, tyX10, z_ty10⟩
theorem fd_Wk_missed : z_fd RX10 TX10 8 10 1 0 false := ⟨rfl, by decide, rfl, z_ly10, rfl, rfl, rfl, z_n10, tyX10, z_ty10⟩
theorem fd_Wk_moved : z_fd RX10 TX10 8 10 2 0 false := ⟨rfl, by decide, rfl, z_ly10, rfl, rfl, rfl, z_n10, tyX10, z_ty10⟩
theorem fd_Wk_pinned : z_fd RX10 TX10 8 10 3 0 false := ⟨rfl, by decide, rfl, z_ly10, rfl, rfl, rfl, z_n10, tyX10, z_ty10⟩
theorem fd_Wk_lifted : z_fd RX10 TX10 8 10 4 0 false := ⟨rfl, by decide, rfl, z_ly10, rfl, rfl, rfl, z_n10, tyX10, z_ty10⟩
theorem fd_Wk_cutShort : z_fd RX10 TX10 8 10 5 5 false := ⟨rfl, by decide, rfl, z_ly10, rfl, rfl, rfl, z_n10, tyX10, z_ty10⟩
theorem fd_Wk_drawn : z_fd RX10 TX10 8 10 6 0 false := ⟨rfl, by decide, rfl, z_ly10, rfl, rfl, rfl, z_n10, tyX10, z_ty10⟩
theorem fd_Wk_rounds : z_fd RX10 TX10 8 10 7 2 true := ⟨rfl, by decide, rfl, z_ly10, rfl, rfl, rfl, z_n10, tyX10, z_ty10⟩
theorem fd_F_latestStatus : z_fd RX11 TX11 18 11 0 0 false := ⟨rfl, by decide, rfl, z_ly11, rfl, rfl, rfl, z_n11, tyX11, z_ty11⟩
theorem fd_F_toldTop : z_fd RX11 TX11 18 11 1 1 false := ⟨rfl, by decide, rfl, z_ly11, rfl, rfl, rfl, z_n11, tyX11, z_ty11⟩
theorem fd_F_toldBottom : z_fd RX11 TX11 18 11 2 1 false := ⟨rfl, by decide, rfl, z_ly11, rfl, rfl, rfl, z_n11, tyX11, z_ty11⟩
theorem fd_F_trays : z_fd RX11 TX11 18 11 3 2 true := ⟨rfl, by decide, rfl, z_ly11, rfl, rfl, rfl, z_n11, tyX11, z_ty11⟩
theorem fd_F_parser : z_fd RX11 TX11 18 11 4 2 true := ⟨rfl, by decide, rfl, z_ly11, rfl, rfl, rfl, z_n11, tyX11, z_ty11⟩
theorem fd_F_faultKind : z_fd RX11 TX11 18 11 5 0 false := ⟨rfl, by decide, rfl, z_ly11, rfl, rfl, rfl, z_n11, tyX11, z_ty11⟩
theorem fd_F_faultPlace : z_fd RX11 TX11 18 11 6 0 false := ⟨rfl, by decide, rfl, z_ly11, rfl, rfl, rfl, z_n11, tyX11, z_ty11⟩
theorem fd_F_row : z_fd RX11 TX11 18 11 7 2 true := ⟨rfl, by decide, rfl, z_ly11, rfl, rfl, rfl, z_n11, tyX11, z_ty11⟩
theorem fd_F_chain : z_fd RX11 TX11 18 11 8 2 true := ⟨rfl, by decide, rfl, z_ly11, rfl, rfl, rfl, z_n11, tyX11, z_ty11⟩
theorem fd_F_otherChain : z_fd RX11 TX11 18 11 9 2 true := ⟨rfl, by decide, rfl, z_ly11, rfl, rfl, rfl, z_n11, tyX11, z_ty11⟩
theorem fd_F_spot : z_fd RX11 TX11 18 11 10 2 true := ⟨rfl, by decide, rfl, z_ly11, rfl, rfl, rfl, z_n11, tyX11, z_ty11⟩
theorem fd_F_board : z_fd RX11 TX11 18 11 11 2 true := ⟨rfl, by decide, rfl, z_ly11, rfl, rfl, rfl, z_n11, tyX11, z_ty11⟩
theorem fd_F_spare : z_fd RX11 TX11 18 11 12 2 true := ⟨rfl, by decide, rfl, z_ly11, rfl, rfl, rfl, z_n11, tyX11, z_ty11⟩
theorem fd_F_marks : z_fd RX11 TX11 18 11 13 2 true := ⟨rfl, by decide, rfl, z_ly11, rfl, rfl, rfl, z_n11, tyX11, z_ty11⟩
theorem fd_F_marked : z_fd RX11 TX11 18 11 14 0 false := ⟨rfl, by decide, rfl, z_ly11, rfl, rfl, rfl, z_n11, tyX11, z_ty11⟩
theorem fd_F_walk : z_fd RX11 TX11 18 11 15 2 true := ⟨rfl, by decide, rfl, z_ly11, rfl, rfl, rfl, z_n11, tyX11, z_ty11⟩
theorem fd_F_trial : z_fd RX11 TX11 18 11 16 2 true := ⟨rfl, by decide, rfl, z_ly11, rfl, rfl, rfl, z_n11, tyX11, z_ty11⟩
theorem fd_F_everLived : z_fd RX11 TX11 18 11 17 5 false := ⟨rfl, by decide, rfl, z_ly11, rfl, rfl, rfl, z_n11, tyX11, z_ty11⟩
theorem fd_M_at : z_fd RX12 TX12 42 12 0 2 true := ⟨rfl, by decide, rfl, z_ly12, rfl, rfl, rfl, z_n12, tyX12, z_ty12⟩
theorem fd_M_status : z_fd RX12 TX12 42 12 1 0 false := ⟨rfl, by decide, rfl, z_ly12, rfl, rfl, rfl, z_n12, tyX12, z_ty12⟩
theorem fd_M_top : z_fd RX12 TX12 42 12 2 1 false := ⟨rfl, by decide, rfl, z_ly12, rfl, rfl, rfl, z_n12, tyX12, z_ty12⟩
theorem fd_M_bottom : z_fd RX12 TX12 42 12 3 1 false := ⟨rfl, by decide, rfl, z_ly12, rfl, rfl, rfl, z_n12, tyX12, z_ty12⟩
theorem fd_M_sort : z_fd RX12 TX12 42 12 4 2 true := ⟨rfl, by decide, rfl, z_ly12, rfl, rfl, rfl, z_n12, tyX12, z_ty12⟩
theorem fd_M_trayMany : z_fd RX12 TX12 42 12 5 2 true := ⟨rfl, by decide, rfl, z_ly12, rfl, rfl, rfl, z_n12, tyX12, z_ty12⟩
theorem fd_M_trays : z_fd RX12 TX12 42 12 6 2 true := ⟨rfl, by decide, rfl, z_ly12, rfl, rfl, rfl, z_n12, tyX12, z_ty12⟩
theorem fd_M_tape : z_fd RX12 TX12 42 12 7 2 true := ⟨rfl, by decide, rfl, z_ly12, rfl, rfl, rfl, z_n12, tyX12, z_ty12⟩
theorem fd_M_text : z_fd RX12 TX12 42 12 8 2 true := ⟨rfl, by decide, rfl, z_ly12, rfl, rfl, rfl, z_n12, tyX12, z_ty12⟩
theorem fd_M_taped : z_fd RX12 TX12 42 12 9 0 false := ⟨rfl, by decide, rfl, z_ly12, rfl, rfl, rfl, z_n12, tyX12, z_ty12⟩
theorem fd_M_size : z_fd RX12 TX12 42 12 10 0 false := ⟨rfl, by decide, rfl, z_ly12, rfl, rfl, rfl, z_n12, tyX12, z_ty12⟩
theorem fd_M_token : z_fd RX12 TX12 42 12 11 0 false := ⟨rfl, by decide, rfl, z_ly12, rfl, rfl, rfl, z_n12, tyX12, z_ty12⟩
theorem fd_M_from : z_fd RX12 TX12 42 12 12 0 false := ⟨rfl, by decide, rfl, z_ly12, rfl, rfl, rfl, z_n12, tyX12, z_ty12⟩
theorem fd_M_end : z_fd RX12 TX12 42 12 13 0 false := ⟨rfl, by decide, rfl, z_ly12, rfl, rfl, rfl, z_n12, tyX12, z_ty12⟩
theorem fd_M_value : z_fd RX12 TX12 42 12 14 0 false := ⟨rfl, by decide, rfl, z_ly12, rfl, rfl, rfl, z_n12, tyX12, z_ty12⟩
theorem fd_M_faultKind : z_fd RX12 TX12 42 12 15 0 false := ⟨rfl, by decide, rfl, z_ly12, rfl, rfl, rfl, z_n12, tyX12, z_ty12⟩
theorem fd_M_faultPlace : z_fd RX12 TX12 42 12 16 0 false := ⟨rfl, by decide, rfl, z_ly12, rfl, rfl, rfl, z_n12, tyX12, z_ty12⟩
theorem fd_M_faults : z_fd RX12 TX12 42 12 17 0 false := ⟨rfl, by decide, rfl, z_ly12, rfl, rfl, rfl, z_n12, tyX12, z_ty12⟩
theorem fd_M_toldParts : z_fd RX12 TX12 42 12 18 0 false := ⟨rfl, by decide, rfl, z_ly12, rfl, rfl, rfl, z_n12, tyX12, z_ty12⟩
theorem fd_M_opened : z_fd RX12 TX12 42 12 19 2 true := ⟨rfl, by decide, rfl, z_ly12, rfl, rfl, rfl, z_n12, tyX12, z_ty12⟩
theorem fd_M_depth : z_fd RX12 TX12 42 12 20 0 false := ⟨rfl, by decide, rfl, z_ly12, rfl, rfl, rfl, z_n12, tyX12, z_ty12⟩
theorem fd_M_counted : z_fd RX12 TX12 42 12 21 0 false := ⟨rfl, by decide, rfl, z_ly12, rfl, rfl, rfl, z_n12, tyX12, z_ty12⟩
theorem fd_M_topBy : z_fd RX12 TX12 42 12 22 2 true := ⟨rfl, by decide, rfl, z_ly12, rfl, rfl, rfl, z_n12, tyX12, z_ty12⟩
theorem fd_M_bottomBy : z_fd RX12 TX12 42 12 23 2 true := ⟨rfl, by decide, rfl, z_ly12, rfl, rfl, rfl, z_n12, tyX12, z_ty12⟩
theorem fd_M_many : z_fd RX12 TX12 42 12 24 0 false := ⟨rfl, by decide, rfl, z_ly12, rfl, rfl, rfl, z_n12, tyX12, z_ty12⟩
theorem fd_M_laidOrder : z_fd RX12 TX12 42 12 25 0 false := ⟨rfl, by decide, rfl, z_ly12, rfl, rfl, rfl, z_n12, tyX12, z_ty12⟩
theorem fd_M_termBy : z_fd RX12 TX12 42 12 26 2 true := ⟨rfl, by decide, rfl, z_ly12, rfl, rfl, rfl, z_n12, tyX12, z_ty12⟩
theorem fd_M_termMany : z_fd RX12 TX12 42 12 27 0 false := ⟨rfl, by decide, rfl, z_ly12, rfl, rfl, rfl, z_n12, tyX12, z_ty12⟩
theorem fd_M_foundTop : z_fd RX12 TX12 42 12 28 0 false := ⟨rfl, by decide, rfl, z_ly12, rfl, rfl, rfl, z_n12, tyX12, z_ty12⟩
theorem fd_M_foundBottom : z_fd RX12 TX12 42 12 29 0 false := ⟨rfl, by decide, rfl, z_ly12, rfl, rfl, rfl, z_n12, tyX12, z_ty12⟩
theorem fd_M_left1 : z_fd RX12 TX12 42 12 30 0 false := ⟨rfl, by decide, rfl, z_ly12, rfl, rfl, rfl, z_n12, tyX12, z_ty12⟩
theorem fd_M_lowBy : z_fd RX12 TX12 42 12 31 2 true := ⟨rfl, by decide, rfl, z_ly12, rfl, rfl, rfl, z_n12, tyX12, z_ty12⟩
theorem fd_M_highBy : z_fd RX12 TX12 42 12 32 2 true := ⟨rfl, by decide, rfl, z_ly12, rfl, rfl, rfl, z_n12, tyX12, z_ty12⟩
theorem fd_M_endBy : z_fd RX12 TX12 42 12 33 2 true := ⟨rfl, by decide, rfl, z_ly12, rfl, rfl, rfl, z_n12, tyX12, z_ty12⟩
theorem fd_M_wrongBy : z_fd RX12 TX12 42 12 34 2 true := ⟨rfl, by decide, rfl, z_ly12, rfl, rfl, rfl, z_n12, tyX12, z_ty12⟩
theorem fd_M_drawn : z_fd RX12 TX12 42 12 35 0 false := ⟨rfl, by decide, rfl, z_ly12, rfl, rfl, rfl, z_n12, tyX12, z_ty12⟩
theorem fd_M_ranSteps : z_fd RX12 TX12 42 12 36 0 false := ⟨rfl, by decide, rfl, z_ly12, rfl, rfl, rfl, z_n12, tyX12, z_ty12⟩
theorem fd_M_loops : z_fd RX12 TX12 42 12 37 2 true := ⟨rfl, by decide, rfl, z_ly12, rfl, rfl, rfl, z_n12, tyX12, z_ty12⟩
theorem fd_M_ran : z_fd RX12 TX12 42 12 38 2 true := ⟨rfl, by decide, rfl, z_ly12, rfl, rfl, rfl, z_n12, tyX12, z_ty12⟩
theorem fd_M_told1 : z_fd RX12 TX12 42 12 39 2 true := ⟨rfl, by decide, rfl, z_ly12, rfl, rfl, rfl, z_n12, tyX12, z_ty12⟩
theorem fd_M_isTold : z_fd RX12 TX12 42 12 40 5 false := ⟨rfl, by decide, rfl, z_ly12, rfl, rfl, rfl, z_n12, tyX12, z_ty12⟩
theorem fd_M_marks : z_fd RX12 TX12 42 12 41 0 false := ⟨rfl, by decide, rfl, z_ly12, rfl, rfl, rfl, z_n12, tyX12, z_ty12⟩
theorem fl_Tr_11 : z_lk "FareyRank$Trays" 11 RX8 TX8 0 := z_in1 (List.mem_of_getElem? (i := 36) rfl) rfl
theorem fl_Tr_14 : z_lk "FareyRank$Trays" 14 RX8 TX8 1 := z_in1 (List.mem_of_getElem? (i := 37) rfl) rfl
theorem fl_Tr_18 : z_lk "FareyRank$Trays" 18 RX8 TX8 2 := z_in1 (List.mem_of_getElem? (i := 38) rfl) rfl
theorem fl_Ta_9 : z_lk "FareyRank$Tape" 9 RX7 TX7 0 := z_in1 (List.mem_of_getElem? (i := 60) rfl) rfl
theorem fl_Ta_15 : z_lk "FareyRank$Tape" 15 RX7 TX7 1 := z_in1 (List.mem_of_getElem? (i := 61) rfl) rfl
theorem fl_F_147 : z_lk "FareyRank" 147 RX7 TX7 1 := z_in1 (List.mem_of_getElem? (i := 62) rfl) rfl
theorem fl_Ta_28 : z_lk "FareyRank$Tape" 28 RX7 TX7 2 := z_in1 (List.mem_of_getElem? (i := 63) rfl) rfl
theorem fl_Ta_31 : z_lk "FareyRank$Tape" 31 RX7 TX7 3 := z_in1 (List.mem_of_getElem? (i := 64) rfl) rfl
theorem fl_Ta_50 : z_lk "FareyRank$Tape" 50 RX7 TX7 4 := z_in1 (List.mem_of_getElem? (i := 65) rfl) rfl
theorem fl_Ta_53 : z_lk "FareyRank$Tape" 53 RX7 TX7 5 := z_in1 (List.mem_of_getElem? (i := 66) rfl) rfl
theorem fl_Ta_43 : z_lk "FareyRank$Tape" 43 RX7 TX7 6 := z_in1 (List.mem_of_getElem? (i := 67) rfl) rfl
theorem fl_Pa_101 : z_lk "FareyRank$Parser" 101 RX7 TX7 6 := z_in1 (List.mem_of_getElem? (i := 68) rfl) rfl
theorem fl_Pa_115 : z_lk "FareyRank$Parser" 115 RX7 TX7 7 := z_in1 (List.mem_of_getElem? (i := 69) rfl) rfl
theorem fl_Ta_81 : z_lk "FareyRank$Tape" 81 RX7 TX7 7 := z_in1 (List.mem_of_getElem? (i := 70) rfl) rfl
theorem fl_Pa_128 : z_lk "FareyRank$Parser" 128 RX7 TX7 8 := z_in1 (List.mem_of_getElem? (i := 71) rfl) rfl
theorem fl_Ta_84 : z_lk "FareyRank$Tape" 84 RX7 TX7 8 := z_in1 (List.mem_of_getElem? (i := 72) rfl) rfl
theorem fl_Ta_34 : z_lk "FareyRank$Tape" 34 RX7 TX7 9 := z_in1 (List.mem_of_getElem? (i := 73) rfl) rfl
theorem fl_F_195 : z_lk "FareyRank" 195 RX7 TX7 9 := z_in1 (List.mem_of_getElem? (i := 74) rfl) rfl
theorem fl_Ta_37 : z_lk "FareyRank$Tape" 37 RX7 TX7 10 := z_in1 (List.mem_of_getElem? (i := 75) rfl) rfl
theorem fl_F_196 : z_lk "FareyRank" 196 RX7 TX7 10 := z_in1 (List.mem_of_getElem? (i := 76) rfl) rfl
theorem fl_Ch_9 : z_lk "FareyRank$Chain" 9 RX1 TX1 0 := z_in1 (List.mem_of_getElem? (i := 107) rfl) rfl
theorem fl_Ch_36 : z_lk "FareyRank$Chain" 36 RX1 TX1 1 := z_in1 (List.mem_of_getElem? (i := 108) rfl) rfl
theorem fl_F_316 : z_lk "FareyRank" 316 RX1 TX1 1 := z_in1 (List.mem_of_getElem? (i := 109) rfl) rfl
theorem fl_Ch_39 : z_lk "FareyRank$Chain" 39 RX1 TX1 2 := z_in1 (List.mem_of_getElem? (i := 110) rfl) rfl
theorem fl_Ch_15 : z_lk "FareyRank$Chain" 15 RX1 TX1 3 := z_in1 (List.mem_of_getElem? (i := 111) rfl) rfl
theorem fl_Sp_30 : z_lk "FareyRank$Spot" 30 RX1 TX1 3 := z_in1 (List.mem_of_getElem? (i := 112) rfl) rfl
theorem fl_Pa_146 : z_lk "FareyRank$Parser" 146 RX1 TX1 3 := z_in1 (List.mem_of_getElem? (i := 113) rfl) rfl
theorem fl_F_244 : z_lk "FareyRank" 244 RX1 TX1 3 := z_in1 (List.mem_of_getElem? (i := 114) rfl) rfl
theorem fl_Ch_19 : z_lk "FareyRank$Chain" 19 RX1 TX1 4 := z_in1 (List.mem_of_getElem? (i := 115) rfl) rfl
theorem fl_Sp_38 : z_lk "FareyRank$Spot" 38 RX1 TX1 4 := z_in1 (List.mem_of_getElem? (i := 116) rfl) rfl
theorem fl_Pa_149 : z_lk "FareyRank$Parser" 149 RX1 TX1 4 := z_in1 (List.mem_of_getElem? (i := 117) rfl) rfl
theorem fl_F_241 : z_lk "FareyRank" 241 RX1 TX1 4 := z_in1 (List.mem_of_getElem? (i := 118) rfl) rfl
theorem fl_Ch_22 : z_lk "FareyRank$Chain" 22 RX1 TX1 5 := z_in1 (List.mem_of_getElem? (i := 119) rfl) rfl
theorem fl_Sp_35 : z_lk "FareyRank$Spot" 35 RX1 TX1 5 := z_in1 (List.mem_of_getElem? (i := 120) rfl) rfl
theorem fl_Ch_25 : z_lk "FareyRank$Chain" 25 RX1 TX1 6 := z_in1 (List.mem_of_getElem? (i := 121) rfl) rfl
theorem fl_Sp_41 : z_lk "FareyRank$Spot" 41 RX1 TX1 6 := z_in1 (List.mem_of_getElem? (i := 122) rfl) rfl
theorem fl_Pa_12 : z_lk "FareyRank$Parser" 12 RX2 TX2 0 := z_in1 (List.mem_of_getElem? (i := 138) rfl) rfl
theorem fl_F_143 : z_lk "FareyRank" 143 RX2 TX2 0 := z_in1 (List.mem_of_getElem? (i := 139) rfl) rfl
theorem fl_Pa_21 : z_lk "FareyRank$Parser" 21 RX2 TX2 1 := z_in1 (List.mem_of_getElem? (i := 140) rfl) rfl
theorem fl_Pa_34 : z_lk "FareyRank$Parser" 34 RX2 TX2 2 := z_in1 (List.mem_of_getElem? (i := 141) rfl) rfl
theorem fl_Pa_38 : z_lk "FareyRank$Parser" 38 RX2 TX2 3 := z_in1 (List.mem_of_getElem? (i := 142) rfl) rfl
theorem fl_Pa_41 : z_lk "FareyRank$Parser" 41 RX2 TX2 4 := z_in1 (List.mem_of_getElem? (i := 143) rfl) rfl
theorem fl_Pa_25 : z_lk "FareyRank$Parser" 25 RX2 TX2 5 := z_in1 (List.mem_of_getElem? (i := 144) rfl) rfl
theorem fl_Pa_179 : z_lk "FareyRank$Parser" 179 RX2 TX2 6 := z_in1 (List.mem_of_getElem? (i := 145) rfl) rfl
theorem fl_Pa_204 : z_lk "FareyRank$Parser" 204 RX2 TX2 7 := z_in1 (List.mem_of_getElem? (i := 146) rfl) rfl
theorem fl_Pa_207 : z_lk "FareyRank$Parser" 207 RX2 TX2 8 := z_in1 (List.mem_of_getElem? (i := 147) rfl) rfl
theorem fl_Pa_210 : z_lk "FareyRank$Parser" 210 RX2 TX2 9 := z_in1 (List.mem_of_getElem? (i := 148) rfl) rfl
theorem fl_Rw_9 : z_lk "FareyRank$Row" 9 RX5 TX5 0 := z_in1 (List.mem_of_getElem? (i := 176) rfl) rfl
theorem fl_Rw_15 : z_lk "FareyRank$Row" 15 RX5 TX5 1 := z_in1 (List.mem_of_getElem? (i := 177) rfl) rfl
theorem fl_Rw_27 : z_lk "FareyRank$Row" 27 RX5 TX5 2 := z_in1 (List.mem_of_getElem? (i := 178) rfl) rfl
theorem fl_F_227 : z_lk "FareyRank" 227 RX5 TX5 2 := z_in1 (List.mem_of_getElem? (i := 179) rfl) rfl
theorem fl_Rw_31 : z_lk "FareyRank$Row" 31 RX5 TX5 3 := z_in1 (List.mem_of_getElem? (i := 180) rfl) rfl
theorem fl_F_230 : z_lk "FareyRank" 230 RX5 TX5 3 := z_in1 (List.mem_of_getElem? (i := 181) rfl) rfl
theorem fl_Rw_34 : z_lk "FareyRank$Row" 34 RX5 TX5 4 := z_in1 (List.mem_of_getElem? (i := 182) rfl) rfl
theorem fl_F_257 : z_lk "FareyRank" 257 RX5 TX5 4 := z_in1 (List.mem_of_getElem? (i := 183) rfl) rfl
theorem fl_Rw_37 : z_lk "FareyRank$Row" 37 RX5 TX5 5 := z_in1 (List.mem_of_getElem? (i := 184) rfl) rfl
theorem fl_F_260 : z_lk "FareyRank" 260 RX5 TX5 5 := z_in1 (List.mem_of_getElem? (i := 185) rfl) rfl
theorem fl_Sp_14 : z_lk "FareyRank$Spot" 14 RX6 TX6 0 := z_in1 (List.mem_of_getElem? (i := 211) rfl) rfl
theorem fl_Sp_18 : z_lk "FareyRank$Spot" 18 RX6 TX6 1 := z_in1 (List.mem_of_getElem? (i := 212) rfl) rfl
theorem fl_F_396 : z_lk "FareyRank" 396 RX6 TX6 1 := z_in1 (List.mem_of_getElem? (i := 213) rfl) rfl
theorem fl_Sp_21 : z_lk "FareyRank$Spot" 21 RX6 TX6 2 := z_in1 (List.mem_of_getElem? (i := 214) rfl) rfl
theorem fl_Sp_24 : z_lk "FareyRank$Spot" 24 RX6 TX6 3 := z_in1 (List.mem_of_getElem? (i := 215) rfl) rfl
theorem fl_F_397 : z_lk "FareyRank" 397 RX6 TX6 3 := z_in1 (List.mem_of_getElem? (i := 216) rfl) rfl
theorem fl_Sp_27 : z_lk "FareyRank$Spot" 27 RX6 TX6 4 := z_in1 (List.mem_of_getElem? (i := 217) rfl) rfl
theorem fl_Wk_97 : z_lk "FareyRank$Walk" 97 RX6 TX6 4 := z_in1 (List.mem_of_getElem? (i := 218) rfl) rfl
theorem fl_F_220 : z_lk "FareyRank" 220 RX6 TX6 4 := z_in1 (List.mem_of_getElem? (i := 219) rfl) rfl
theorem fl_Pi_9 : z_lk "FareyRank$Pins" 9 RX3 TX3 0 := z_in2 (List.mem_of_getElem? (i := 5) rfl) rfl
theorem fl_F_384 : z_lk "FareyRank" 384 RX3 TX3 0 := z_in2 (List.mem_of_getElem? (i := 6) rfl) rfl
theorem fl_Pi_15 : z_lk "FareyRank$Pins" 15 RX3 TX3 1 := z_in2 (List.mem_of_getElem? (i := 7) rfl) rfl
theorem fl_F_387 : z_lk "FareyRank" 387 RX3 TX3 1 := z_in2 (List.mem_of_getElem? (i := 8) rfl) rfl
theorem fl_Pi_18 : z_lk "FareyRank$Pins" 18 RX3 TX3 2 := z_in2 (List.mem_of_getElem? (i := 9) rfl) rfl
theorem fl_F_368 : z_lk "FareyRank" 368 RX3 TX3 2 := z_in2 (List.mem_of_getElem? (i := 10) rfl) rfl
theorem fl_Bd_52 : z_lk "FareyRank$Board" 52 RX3 TX3 3 := z_in2 (List.mem_of_getElem? (i := 11) rfl) rfl
theorem fl_Pi_27 : z_lk "FareyRank$Pins" 27 RX3 TX3 3 := z_in2 (List.mem_of_getElem? (i := 12) rfl) rfl
theorem fl_Pa_141 : z_lk "FareyRank$Parser" 141 RX3 TX3 3 := z_in2 (List.mem_of_getElem? (i := 13) rfl) rfl
theorem fl_F_171 : z_lk "FareyRank" 171 RX3 TX3 3 := z_in2 (List.mem_of_getElem? (i := 14) rfl) rfl
theorem fl_Vi_9 : z_lk "FareyRank$Visits" 9 RX9 TX9 0 := z_in2 (List.mem_of_getElem? (i := 30) rfl) rfl
theorem fl_Vi_21 : z_lk "FareyRank$Visits" 21 RX9 TX9 1 := z_in2 (List.mem_of_getElem? (i := 31) rfl) rfl
theorem fl_F_214 : z_lk "FareyRank" 214 RX9 TX9 1 := z_in2 (List.mem_of_getElem? (i := 32) rfl) rfl
theorem fl_Pg_25 : z_lk "FareyRank$Program" 25 RX4 TX4 0 := z_in2 (List.mem_of_getElem? (i := 44) rfl) rfl
theorem fl_Pa_191 : z_lk "FareyRank$Parser" 191 RX4 TX4 0 := z_in2 (List.mem_of_getElem? (i := 45) rfl) rfl
theorem fl_F_411 : z_lk "FareyRank" 411 RX4 TX4 0 := z_in2 (List.mem_of_getElem? (i := 46) rfl) rfl
theorem fl_Pg_29 : z_lk "FareyRank$Program" 29 RX4 TX4 1 := z_in2 (List.mem_of_getElem? (i := 47) rfl) rfl
theorem fl_Pa_201 : z_lk "FareyRank$Parser" 201 RX4 TX4 1 := z_in2 (List.mem_of_getElem? (i := 48) rfl) rfl
theorem fl_F_192 : z_lk "FareyRank" 192 RX4 TX4 1 := z_in2 (List.mem_of_getElem? (i := 49) rfl) rfl
theorem fl_Pg_33 : z_lk "FareyRank$Program" 33 RX4 TX4 2 := z_in2 (List.mem_of_getElem? (i := 50) rfl) rfl
theorem fl_Wk_47 : z_lk "FareyRank$Walk" 47 RX4 TX4 2 := z_in2 (List.mem_of_getElem? (i := 51) rfl) rfl
theorem fl_Pa_224 : z_lk "FareyRank$Parser" 224 RX4 TX4 2 := z_in2 (List.mem_of_getElem? (i := 52) rfl) rfl
theorem fl_Pg_9 : z_lk "FareyRank$Program" 9 RX4 TX4 3 := z_in2 (List.mem_of_getElem? (i := 53) rfl) rfl
theorem fl_Wk_50 : z_lk "FareyRank$Walk" 50 RX4 TX4 3 := z_in2 (List.mem_of_getElem? (i := 54) rfl) rfl
theorem fl_Pg_13 : z_lk "FareyRank$Program" 13 RX4 TX4 4 := z_in2 (List.mem_of_getElem? (i := 55) rfl) rfl
theorem fl_Wk_82 : z_lk "FareyRank$Walk" 82 RX4 TX4 4 := z_in2 (List.mem_of_getElem? (i := 56) rfl) rfl
theorem fl_Pg_16 : z_lk "FareyRank$Program" 16 RX4 TX4 5 := z_in2 (List.mem_of_getElem? (i := 57) rfl) rfl
theorem fl_Wk_68 : z_lk "FareyRank$Walk" 68 RX4 TX4 5 := z_in2 (List.mem_of_getElem? (i := 58) rfl) rfl
theorem fl_Pg_19 : z_lk "FareyRank$Program" 19 RX4 TX4 6 := z_in2 (List.mem_of_getElem? (i := 59) rfl) rfl
theorem fl_Wk_75 : z_lk "FareyRank$Walk" 75 RX4 TX4 6 := z_in2 (List.mem_of_getElem? (i := 60) rfl) rfl
theorem fl_Pg_22 : z_lk "FareyRank$Program" 22 RX4 TX4 7 := z_in2 (List.mem_of_getElem? (i := 61) rfl) rfl
theorem fl_Wk_61 : z_lk "FareyRank$Walk" 61 RX4 TX4 7 := z_in2 (List.mem_of_getElem? (i := 62) rfl) rfl
theorem fl_Bd_42 : z_lk "FareyRank$Board" 42 RX0 TX0 0 := z_in2 (List.mem_of_getElem? (i := 112) rfl) rfl
theorem fl_Pa_120 : z_lk "FareyRank$Parser" 120 RX0 TX0 0 := z_in2 (List.mem_of_getElem? (i := 113) rfl) rfl
theorem fl_Wk_148 : z_lk "FareyRank$Walk" 148 RX0 TX0 0 := z_in2 (List.mem_of_getElem? (i := 114) rfl) rfl
theorem fl_F_197 : z_lk "FareyRank" 197 RX0 TX0 0 := z_in2 (List.mem_of_getElem? (i := 115) rfl) rfl
theorem fl_Bd_46 : z_lk "FareyRank$Board" 46 RX0 TX0 1 := z_in2 (List.mem_of_getElem? (i := 116) rfl) rfl
theorem fl_Pa_118 : z_lk "FareyRank$Parser" 118 RX0 TX0 1 := z_in2 (List.mem_of_getElem? (i := 117) rfl) rfl
theorem fl_Wk_154 : z_lk "FareyRank$Walk" 154 RX0 TX0 1 := z_in2 (List.mem_of_getElem? (i := 118) rfl) rfl
theorem fl_F_200 : z_lk "FareyRank" 200 RX0 TX0 1 := z_in2 (List.mem_of_getElem? (i := 119) rfl) rfl
theorem fl_Bd_12 : z_lk "FareyRank$Board" 12 RX0 TX0 2 := z_in2 (List.mem_of_getElem? (i := 120) rfl) rfl
theorem fl_Pa_60 : z_lk "FareyRank$Parser" 60 RX0 TX0 2 := z_in2 (List.mem_of_getElem? (i := 121) rfl) rfl
theorem fl_Wk_78 : z_lk "FareyRank$Walk" 78 RX0 TX0 2 := z_in2 (List.mem_of_getElem? (i := 122) rfl) rfl
theorem fl_F_217 : z_lk "FareyRank" 217 RX0 TX0 2 := z_in2 (List.mem_of_getElem? (i := 123) rfl) rfl
theorem fl_Bd_21 : z_lk "FareyRank$Board" 21 RX0 TX0 3 := z_in2 (List.mem_of_getElem? (i := 124) rfl) rfl
theorem fl_Pa_137 : z_lk "FareyRank$Parser" 137 RX0 TX0 3 := z_in2 (List.mem_of_getElem? (i := 125) rfl) rfl
theorem fl_Wk_132 : z_lk "FareyRank$Walk" 132 RX0 TX0 3 := z_in2 (List.mem_of_getElem? (i := 126) rfl) rfl
theorem fl_F_167 : z_lk "FareyRank" 167 RX0 TX0 3 := z_in2 (List.mem_of_getElem? (i := 127) rfl) rfl
theorem fl_Bd_28 : z_lk "FareyRank$Board" 28 RX0 TX0 4 := z_in2 (List.mem_of_getElem? (i := 128) rfl) rfl
theorem fl_Pa_56 : z_lk "FareyRank$Parser" 56 RX0 TX0 4 := z_in2 (List.mem_of_getElem? (i := 129) rfl) rfl
theorem fl_F_210 : z_lk "FareyRank" 210 RX0 TX0 4 := z_in2 (List.mem_of_getElem? (i := 130) rfl) rfl
theorem fl_Bd_35 : z_lk "FareyRank$Board" 35 RX0 TX0 5 := z_in2 (List.mem_of_getElem? (i := 131) rfl) rfl
theorem fl_Wk_40 : z_lk "FareyRank$Walk" 40 RX0 TX0 5 := z_in2 (List.mem_of_getElem? (i := 132) rfl) rfl
theorem fl_F_179 : z_lk "FareyRank" 179 RX0 TX0 5 := z_in2 (List.mem_of_getElem? (i := 133) rfl) rfl
theorem fl_Wk_17 : z_lk "FareyRank$Walk" 17 RX10 TX10 0 := z_in2 (List.mem_of_getElem? (i := 154) rfl) rfl
theorem fl_F_418 : z_lk "FareyRank" 418 RX10 TX10 0 := z_in2 (List.mem_of_getElem? (i := 155) rfl) rfl
theorem fl_Wk_21 : z_lk "FareyRank$Walk" 21 RX10 TX10 1 := z_in2 (List.mem_of_getElem? (i := 156) rfl) rfl
theorem fl_F_421 : z_lk "FareyRank" 421 RX10 TX10 1 := z_in2 (List.mem_of_getElem? (i := 157) rfl) rfl
theorem fl_Wk_24 : z_lk "FareyRank$Walk" 24 RX10 TX10 2 := z_in2 (List.mem_of_getElem? (i := 158) rfl) rfl
theorem fl_F_424 : z_lk "FareyRank" 424 RX10 TX10 2 := z_in2 (List.mem_of_getElem? (i := 159) rfl) rfl
theorem fl_Wk_27 : z_lk "FareyRank$Walk" 27 RX10 TX10 3 := z_in2 (List.mem_of_getElem? (i := 160) rfl) rfl
theorem fl_F_427 : z_lk "FareyRank" 427 RX10 TX10 3 := z_in2 (List.mem_of_getElem? (i := 161) rfl) rfl
theorem fl_Wk_30 : z_lk "FareyRank$Walk" 30 RX10 TX10 4 := z_in2 (List.mem_of_getElem? (i := 162) rfl) rfl
theorem fl_F_430 : z_lk "FareyRank" 430 RX10 TX10 4 := z_in2 (List.mem_of_getElem? (i := 163) rfl) rfl
theorem fl_Wk_33 : z_lk "FareyRank$Walk" 33 RX10 TX10 5 := z_in2 (List.mem_of_getElem? (i := 164) rfl) rfl
theorem fl_F_433 : z_lk "FareyRank" 433 RX10 TX10 5 := z_in2 (List.mem_of_getElem? (i := 165) rfl) rfl
theorem fl_Wk_37 : z_lk "FareyRank$Walk" 37 RX10 TX10 6 := z_in2 (List.mem_of_getElem? (i := 166) rfl) rfl
theorem fl_Wk_11 : z_lk "FareyRank$Walk" 11 RX10 TX10 7 := z_in2 (List.mem_of_getElem? (i := 167) rfl) rfl
theorem fl_F_7 : z_lk "FareyRank" 7 RX11 TX11 0 := z_in2 (List.mem_of_getElem? (i := 185) rfl) rfl
theorem fl_F_13 : z_lk "FareyRank" 13 RX11 TX11 1 := z_in2 (List.mem_of_getElem? (i := 186) rfl) rfl
theorem fl_F_17 : z_lk "FareyRank" 17 RX11 TX11 2 := z_in2 (List.mem_of_getElem? (i := 187) rfl) rfl
theorem fl_F_23 : z_lk "FareyRank" 23 RX11 TX11 3 := z_in2 (List.mem_of_getElem? (i := 188) rfl) rfl
theorem fl_F_30 : z_lk "FareyRank" 30 RX11 TX11 4 := z_in2 (List.mem_of_getElem? (i := 189) rfl) rfl
theorem fl_F_34 : z_lk "FareyRank" 34 RX11 TX11 5 := z_in2 (List.mem_of_getElem? (i := 190) rfl) rfl
theorem fl_F_37 : z_lk "FareyRank" 37 RX11 TX11 6 := z_in2 (List.mem_of_getElem? (i := 191) rfl) rfl
theorem fl_F_43 : z_lk "FareyRank" 43 RX11 TX11 7 := z_in2 (List.mem_of_getElem? (i := 192) rfl) rfl
theorem fl_F_50 : z_lk "FareyRank" 50 RX11 TX11 8 := z_in2 (List.mem_of_getElem? (i := 193) rfl) rfl
theorem fl_F_54 : z_lk "FareyRank" 54 RX11 TX11 9 := z_in2 (List.mem_of_getElem? (i := 194) rfl) rfl
theorem fl_F_60 : z_lk "FareyRank" 60 RX11 TX11 10 := z_in2 (List.mem_of_getElem? (i := 195) rfl) rfl
theorem fl_F_67 : z_lk "FareyRank" 67 RX11 TX11 11 := z_in2 (List.mem_of_getElem? (i := 196) rfl) rfl
theorem fl_F_71 : z_lk "FareyRank" 71 RX11 TX11 12 := z_in2 (List.mem_of_getElem? (i := 197) rfl) rfl
theorem fl_F_74 : z_lk "FareyRank" 74 RX11 TX11 13 := z_in2 (List.mem_of_getElem? (i := 198) rfl) rfl
theorem fl_F_78 : z_lk "FareyRank" 78 RX11 TX11 14 := z_in2 (List.mem_of_getElem? (i := 199) rfl) rfl
theorem fl_F_84 : z_lk "FareyRank" 84 RX11 TX11 15 := z_in2 (List.mem_of_getElem? (i := 200) rfl) rfl
theorem fl_F_88 : z_lk "FareyRank" 88 RX11 TX11 16 := z_in2 (List.mem_of_getElem? (i := 201) rfl) rfl
theorem fl_F_91 : z_lk "FareyRank" 91 RX11 TX11 17 := z_in2 (List.mem_of_getElem? (i := 202) rfl) rfl
theorem fl_M_7 : z_lk "FareyRankModel" 7 RX12 TX12 0 := z_in6 (List.mem_of_getElem? (i := 116) rfl) rfl
theorem fl_M_81 : z_lk "FareyRankModel" 81 RX12 TX12 1 := z_in6 (List.mem_of_getElem? (i := 117) rfl) rfl
theorem fl_M_84 : z_lk "FareyRankModel" 84 RX12 TX12 2 := z_in6 (List.mem_of_getElem? (i := 118) rfl) rfl
theorem fl_M_13 : z_lk "FareyRankModel" 13 RX12 TX12 3 := z_in6 (List.mem_of_getElem? (i := 119) rfl) rfl
theorem fl_M_17 : z_lk "FareyRankModel" 17 RX12 TX12 4 := z_in6 (List.mem_of_getElem? (i := 120) rfl) rfl
theorem fl_M_20 : z_lk "FareyRankModel" 20 RX12 TX12 5 := z_in6 (List.mem_of_getElem? (i := 121) rfl) rfl
theorem fl_M_23 : z_lk "FareyRankModel" 23 RX12 TX12 6 := z_in6 (List.mem_of_getElem? (i := 122) rfl) rfl
theorem fl_M_27 : z_lk "FareyRankModel" 27 RX12 TX12 7 := z_in6 (List.mem_of_getElem? (i := 123) rfl) rfl
theorem fl_M_31 : z_lk "FareyRankModel" 31 RX12 TX12 8 := z_in6 (List.mem_of_getElem? (i := 124) rfl) rfl
theorem fl_M_111 : z_lk "FareyRankModel" 111 RX12 TX12 9 := z_in6 (List.mem_of_getElem? (i := 125) rfl) rfl
theorem fl_M_117 : z_lk "FareyRankModel" 117 RX12 TX12 10 := z_in6 (List.mem_of_getElem? (i := 126) rfl) rfl
theorem fl_M_132 : z_lk "FareyRankModel" 132 RX12 TX12 11 := z_in6 (List.mem_of_getElem? (i := 127) rfl) rfl
theorem fl_M_126 : z_lk "FareyRankModel" 126 RX12 TX12 12 := z_in6 (List.mem_of_getElem? (i := 128) rfl) rfl
theorem fl_M_120 : z_lk "FareyRankModel" 120 RX12 TX12 13 := z_in6 (List.mem_of_getElem? (i := 129) rfl) rfl
theorem fl_M_129 : z_lk "FareyRankModel" 129 RX12 TX12 14 := z_in6 (List.mem_of_getElem? (i := 130) rfl) rfl
theorem fl_M_34 : z_lk "FareyRankModel" 34 RX12 TX12 15 := z_in6 (List.mem_of_getElem? (i := 131) rfl) rfl
theorem fl_M_38 : z_lk "FareyRankModel" 38 RX12 TX12 16 := z_in6 (List.mem_of_getElem? (i := 132) rfl) rfl
theorem fl_M_157 : z_lk "FareyRankModel" 157 RX12 TX12 17 := z_in6 (List.mem_of_getElem? (i := 133) rfl) rfl
theorem fl_M_200 : z_lk "FareyRankModel" 200 RX12 TX12 18 := z_in6 (List.mem_of_getElem? (i := 134) rfl) rfl
theorem fl_M_41 : z_lk "FareyRankModel" 41 RX12 TX12 19 := z_in6 (List.mem_of_getElem? (i := 135) rfl) rfl
theorem fl_M_225 : z_lk "FareyRankModel" 225 RX12 TX12 20 := z_in6 (List.mem_of_getElem? (i := 136) rfl) rfl
theorem fl_M_228 : z_lk "FareyRankModel" 228 RX12 TX12 21 := z_in6 (List.mem_of_getElem? (i := 137) rfl) rfl
theorem fl_M_44 : z_lk "FareyRankModel" 44 RX12 TX12 22 := z_in6 (List.mem_of_getElem? (i := 138) rfl) rfl
theorem fl_M_47 : z_lk "FareyRankModel" 47 RX12 TX12 23 := z_in6 (List.mem_of_getElem? (i := 139) rfl) rfl
theorem fl_M_237 : z_lk "FareyRankModel" 237 RX12 TX12 24 := z_in6 (List.mem_of_getElem? (i := 140) rfl) rfl
theorem fl_M_240 : z_lk "FareyRankModel" 240 RX12 TX12 25 := z_in6 (List.mem_of_getElem? (i := 141) rfl) rfl
theorem fl_M_50 : z_lk "FareyRankModel" 50 RX12 TX12 26 := z_in6 (List.mem_of_getElem? (i := 142) rfl) rfl
theorem fl_M_288 : z_lk "FareyRankModel" 288 RX12 TX12 27 := z_in6 (List.mem_of_getElem? (i := 143) rfl) rfl
theorem fl_M_300 : z_lk "FareyRankModel" 300 RX12 TX12 28 := z_in6 (List.mem_of_getElem? (i := 144) rfl) rfl
theorem fl_M_303 : z_lk "FareyRankModel" 303 RX12 TX12 29 := z_in6 (List.mem_of_getElem? (i := 145) rfl) rfl
theorem fl_M_311 : z_lk "FareyRankModel" 311 RX12 TX12 30 := z_in6 (List.mem_of_getElem? (i := 146) rfl) rfl
theorem fl_M_53 : z_lk "FareyRankModel" 53 RX12 TX12 31 := z_in6 (List.mem_of_getElem? (i := 147) rfl) rfl
theorem fl_M_56 : z_lk "FareyRankModel" 56 RX12 TX12 32 := z_in6 (List.mem_of_getElem? (i := 148) rfl) rfl
theorem fl_M_59 : z_lk "FareyRankModel" 59 RX12 TX12 33 := z_in6 (List.mem_of_getElem? (i := 149) rfl) rfl
theorem fl_M_62 : z_lk "FareyRankModel" 62 RX12 TX12 34 := z_in6 (List.mem_of_getElem? (i := 150) rfl) rfl
theorem fl_M_392 : z_lk "FareyRankModel" 392 RX12 TX12 35 := z_in6 (List.mem_of_getElem? (i := 151) rfl) rfl
theorem fl_M_408 : z_lk "FareyRankModel" 408 RX12 TX12 36 := z_in6 (List.mem_of_getElem? (i := 152) rfl) rfl
theorem fl_M_65 : z_lk "FareyRankModel" 65 RX12 TX12 37 := z_in6 (List.mem_of_getElem? (i := 153) rfl) rfl
theorem fl_M_68 : z_lk "FareyRankModel" 68 RX12 TX12 38 := z_in6 (List.mem_of_getElem? (i := 154) rfl) rfl
theorem fl_M_71 : z_lk "FareyRankModel" 71 RX12 TX12 39 := z_in6 (List.mem_of_getElem? (i := 155) rfl) rfl
theorem fl_M_423 : z_lk "FareyRankModel" 423 RX12 TX12 40 := z_in6 (List.mem_of_getElem? (i := 156) rfl) rfl
theorem fl_M_427 : z_lk "FareyRankModel" 427 RX12 TX12 41 := z_in6 (List.mem_of_getElem? (i := 157) rfl) rfl
theorem cl_F : plainName "FareyRank" = true ∧ ("FareyRank" ≠ "java/lang/invoke/MethodHandle" ∧ "FareyRank" ≠ "java/lang/invoke/VarHandle") := ⟨by decide, by decide, by decide⟩
theorem cl_Bd : plainName "FareyRank$Board" = true ∧ ("FareyRank$Board" ≠ "java/lang/invoke/MethodHandle" ∧ "FareyRank$Board" ≠ "java/lang/invoke/VarHandle") := ⟨by decide, by decide, by decide⟩
theorem cl_Ch : plainName "FareyRank$Chain" = true ∧ ("FareyRank$Chain" ≠ "java/lang/invoke/MethodHandle" ∧ "FareyRank$Chain" ≠ "java/lang/invoke/VarHandle") := ⟨by decide, by decide, by decide⟩
theorem cl_Pa : plainName "FareyRank$Parser" = true ∧ ("FareyRank$Parser" ≠ "java/lang/invoke/MethodHandle" ∧ "FareyRank$Parser" ≠ "java/lang/invoke/VarHandle") := ⟨by decide, by decide, by decide⟩
theorem cl_Pi : plainName "FareyRank$Pins" = true ∧ ("FareyRank$Pins" ≠ "java/lang/invoke/MethodHandle" ∧ "FareyRank$Pins" ≠ "java/lang/invoke/VarHandle") := ⟨by decide, by decide, by decide⟩
theorem cl_Pg : plainName "FareyRank$Program" = true ∧ ("FareyRank$Program" ≠ "java/lang/invoke/MethodHandle" ∧ "FareyRank$Program" ≠ "java/lang/invoke/VarHandle") := ⟨by decide, by decide, by decide⟩
theorem cl_Rw : plainName "FareyRank$Row" = true ∧ ("FareyRank$Row" ≠ "java/lang/invoke/MethodHandle" ∧ "FareyRank$Row" ≠ "java/lang/invoke/VarHandle") := ⟨by decide, by decide, by decide⟩
theorem cl_Sp : plainName "FareyRank$Spot" = true ∧ ("FareyRank$Spot" ≠ "java/lang/invoke/MethodHandle" ∧ "FareyRank$Spot" ≠ "java/lang/invoke/VarHandle") := ⟨by decide, by decide, by decide⟩
theorem cl_Ta : plainName "FareyRank$Tape" = true ∧ ("FareyRank$Tape" ≠ "java/lang/invoke/MethodHandle" ∧ "FareyRank$Tape" ≠ "java/lang/invoke/VarHandle") := ⟨by decide, by decide, by decide⟩
theorem cl_Tr : plainName "FareyRank$Trays" = true ∧ ("FareyRank$Trays" ≠ "java/lang/invoke/MethodHandle" ∧ "FareyRank$Trays" ≠ "java/lang/invoke/VarHandle") := ⟨by decide, by decide, by decide⟩
theorem cl_Vi : plainName "FareyRank$Visits" = true ∧ ("FareyRank$Visits" ≠ "java/lang/invoke/MethodHandle" ∧ "FareyRank$Visits" ≠ "java/lang/invoke/VarHandle") := ⟨by decide, by decide, by decide⟩
theorem cl_Wk : plainName "FareyRank$Walk" = true ∧ ("FareyRank$Walk" ≠ "java/lang/invoke/MethodHandle" ∧ "FareyRank$Walk" ≠ "java/lang/invoke/VarHandle") := ⟨by decide, by decide, by decide⟩
theorem cl_Law : plainName "FareyRankLaw" = true ∧ ("FareyRankLaw" ≠ "java/lang/invoke/MethodHandle" ∧ "FareyRankLaw" ≠ "java/lang/invoke/VarHandle") := ⟨by decide, by decide, by decide⟩
theorem cl_M : plainName "FareyRankModel" = true ∧ ("FareyRankModel" ≠ "java/lang/invoke/MethodHandle" ∧ "FareyRankModel" ≠ "java/lang/invoke/VarHandle") := ⟨by decide, by decide, by decide⟩
theorem cl_St : plainName "java/lang/String" = true ∧ ("java/lang/String" ≠ "java/lang/invoke/MethodHandle" ∧ "java/lang/String" ≠ "java/lang/invoke/VarHandle") := ⟨by decide, by decide, by decide⟩
theorem mi_Bd_init : z_mi m_Bd_init 0 := ⟨cl_Bd.1, z_in1 (List.mem_of_getElem? (i := 235) rfl) rfl, z_in1 (List.mem_of_getElem? (i := 8) rfl) rfl, cl_Bd.2, by decide +kernel⟩
theorem mv_Bd_init : Cond.instanceMethod (z_y m_Bd_init) ∈ z_tb := z_in1 (List.mem_of_getElem? (i := 234) rfl) rfl
theorem mi_Bd_clear : z_mi m_Bd_clear 0 := ⟨cl_Bd.1, z_in2 (List.mem_of_getElem? (i := 83) rfl) rfl, z_in1 (List.mem_of_getElem? (i := 8) rfl) rfl, cl_Bd.2, by decide +kernel⟩
theorem mv_Bd_clear : Cond.instanceMethod (z_y m_Bd_clear) ∈ z_tb := z_in2 (List.mem_of_getElem? (i := 81) rfl) rfl
theorem se_Bd_clear : Cond.selects (z_y m_Bd_clear).cls (z_y m_Bd_clear) (z_y m_Bd_clear) ∈ z_tb := z_in2 (List.mem_of_getElem? (i := 82) rfl) rfl
theorem mi_Bd_copyFrom : z_mi m_Bd_copyFrom 1 := ⟨cl_Bd.1, z_in4 (List.mem_of_getElem? (i := 38) rfl) rfl, z_in1 (List.mem_of_getElem? (i := 8) rfl) rfl, cl_Bd.2, by decide +kernel⟩
theorem mv_Bd_copyFrom : Cond.instanceMethod (z_y m_Bd_copyFrom) ∈ z_tb := z_in4 (List.mem_of_getElem? (i := 36) rfl) rfl
theorem se_Bd_copyFrom : Cond.selects (z_y m_Bd_copyFrom).cls (z_y m_Bd_copyFrom) (z_y m_Bd_copyFrom) ∈ z_tb := z_in4 (List.mem_of_getElem? (i := 37) rfl) rfl
theorem mi_Bd_goDown : z_mi m_Bd_goDown 1 := ⟨cl_Bd.1, z_in5 (List.mem_of_getElem? (i := 103) rfl) rfl, z_in1 (List.mem_of_getElem? (i := 8) rfl) rfl, cl_Bd.2, by decide +kernel⟩
theorem mv_Bd_goDown : Cond.instanceMethod (z_y m_Bd_goDown) ∈ z_tb := z_in5 (List.mem_of_getElem? (i := 101) rfl) rfl
theorem se_Bd_goDown : Cond.selects (z_y m_Bd_goDown).cls (z_y m_Bd_goDown) (z_y m_Bd_goDown) ∈ z_tb := z_in5 (List.mem_of_getElem? (i := 102) rfl) rfl
theorem mi_Bd_goUp : z_mi m_Bd_goUp 0 := ⟨cl_Bd.1, z_in5 (List.mem_of_getElem? (i := 117) rfl) rfl, z_in1 (List.mem_of_getElem? (i := 8) rfl) rfl, cl_Bd.2, by decide +kernel⟩
theorem mv_Bd_goUp : Cond.instanceMethod (z_y m_Bd_goUp) ∈ z_tb := z_in5 (List.mem_of_getElem? (i := 115) rfl) rfl
theorem se_Bd_goUp : Cond.selects (z_y m_Bd_goUp).cls (z_y m_Bd_goUp) (z_y m_Bd_goUp) ∈ z_tb := z_in5 (List.mem_of_getElem? (i := 116) rfl) rfl
theorem mi_Bd_goAcross : z_mi m_Bd_goAcross 0 := ⟨cl_Bd.1, z_in5 (List.mem_of_getElem? (i := 126) rfl) rfl, z_in1 (List.mem_of_getElem? (i := 8) rfl) rfl, cl_Bd.2, by decide +kernel⟩
theorem mv_Bd_goAcross : Cond.instanceMethod (z_y m_Bd_goAcross) ∈ z_tb := z_in5 (List.mem_of_getElem? (i := 124) rfl) rfl
theorem se_Bd_goAcross : Cond.selects (z_y m_Bd_goAcross).cls (z_y m_Bd_goAcross) (z_y m_Bd_goAcross) ∈ z_tb := z_in5 (List.mem_of_getElem? (i := 125) rfl) rfl
theorem mi_Bd_goTo : z_mi m_Bd_goTo 1 := ⟨cl_Bd.1, z_in5 (List.mem_of_getElem? (i := 138) rfl) rfl, z_in1 (List.mem_of_getElem? (i := 8) rfl) rfl, cl_Bd.2, by decide +kernel⟩
theorem mv_Bd_goTo : Cond.instanceMethod (z_y m_Bd_goTo) ∈ z_tb := z_in5 (List.mem_of_getElem? (i := 136) rfl) rfl
theorem se_Bd_goTo : Cond.selects (z_y m_Bd_goTo).cls (z_y m_Bd_goTo) (z_y m_Bd_goTo) ∈ z_tb := z_in5 (List.mem_of_getElem? (i := 137) rfl) rfl
theorem mi_Bd_pinHere : z_mi m_Bd_pinHere 0 := ⟨cl_Bd.1, z_in6 (List.mem_of_getElem? (i := 45) rfl) rfl, z_in1 (List.mem_of_getElem? (i := 8) rfl) rfl, cl_Bd.2, by decide +kernel⟩
theorem mv_Bd_pinHere : Cond.instanceMethod (z_y m_Bd_pinHere) ∈ z_tb := z_in6 (List.mem_of_getElem? (i := 43) rfl) rfl
theorem se_Bd_pinHere : Cond.selects (z_y m_Bd_pinHere).cls (z_y m_Bd_pinHere) (z_y m_Bd_pinHere) ∈ z_tb := z_in6 (List.mem_of_getElem? (i := 44) rfl) rfl
theorem mi_Ch_init : z_mi m_Ch_init 0 := ⟨cl_Ch.1, z_in1 (List.mem_of_getElem? (i := 105) rfl) rfl, z_in1 (List.mem_of_getElem? (i := 5) rfl) rfl, cl_Ch.2, by decide +kernel⟩
theorem mv_Ch_init : Cond.instanceMethod (z_y m_Ch_init) ∈ z_tb := z_in1 (List.mem_of_getElem? (i := 104) rfl) rfl
theorem mi_Ch_take : z_mi m_Ch_take 2 := ⟨cl_Ch.1, z_in4 (List.mem_of_getElem? (i := 198) rfl) rfl, z_in1 (List.mem_of_getElem? (i := 5) rfl) rfl, cl_Ch.2, by decide +kernel⟩
theorem mv_Ch_take : Cond.instanceMethod (z_y m_Ch_take) ∈ z_tb := z_in4 (List.mem_of_getElem? (i := 196) rfl) rfl
theorem se_Ch_take : Cond.selects (z_y m_Ch_take).cls (z_y m_Ch_take) (z_y m_Ch_take) ∈ z_tb := z_in4 (List.mem_of_getElem? (i := 197) rfl) rfl
theorem mi_Ch_unfold : z_mi m_Ch_unfold 2 := ⟨cl_Ch.1, z_in3 (List.mem_of_getElem? (i := 234) rfl) rfl, z_in1 (List.mem_of_getElem? (i := 5) rfl) rfl, cl_Ch.2, by decide +kernel⟩
theorem mv_Ch_unfold : Cond.instanceMethod (z_y m_Ch_unfold) ∈ z_tb := z_in3 (List.mem_of_getElem? (i := 232) rfl) rfl
theorem se_Ch_unfold : Cond.selects (z_y m_Ch_unfold).cls (z_y m_Ch_unfold) (z_y m_Ch_unfold) ∈ z_tb := z_in3 (List.mem_of_getElem? (i := 233) rfl) rfl
theorem mi_Ch_addTerm : z_mi m_Ch_addTerm 1 := ⟨cl_Ch.1, z_in3 (List.mem_of_getElem? (i := 238) rfl) rfl, z_in1 (List.mem_of_getElem? (i := 5) rfl) rfl, cl_Ch.2, by decide +kernel⟩
theorem mv_Ch_addTerm : Cond.instanceMethod (z_y m_Ch_addTerm) ∈ z_tb := z_in3 (List.mem_of_getElem? (i := 237) rfl) rfl
theorem se_Ch_addTerm : Cond.selects (z_y m_Ch_addTerm).cls (z_y m_Ch_addTerm) (z_y m_Ch_addTerm) ∈ z_tb := z_inp (List.mem_of_getElem? (i := 10) rfl) rfl
theorem mi_Ch_isOfTree : z_mi m_Ch_isOfTree 0 := ⟨cl_Ch.1, z_in4 (List.mem_of_getElem? (i := 2) rfl) rfl, z_in1 (List.mem_of_getElem? (i := 5) rfl) rfl, cl_Ch.2, by decide +kernel⟩
theorem mv_Ch_isOfTree : Cond.instanceMethod (z_y m_Ch_isOfTree) ∈ z_tb := z_in4 (List.mem_of_getElem? (i := 0) rfl) rfl
theorem se_Ch_isOfTree : Cond.selects (z_y m_Ch_isOfTree).cls (z_y m_Ch_isOfTree) (z_y m_Ch_isOfTree) ∈ z_tb := z_in4 (List.mem_of_getElem? (i := 1) rfl) rfl
theorem mi_Ch_isAlike : z_mi m_Ch_isAlike 1 := ⟨cl_Ch.1, z_in5 (List.mem_of_getElem? (i := 0) rfl) rfl, z_in1 (List.mem_of_getElem? (i := 5) rfl) rfl, cl_Ch.2, by decide +kernel⟩
theorem mv_Ch_isAlike : Cond.instanceMethod (z_y m_Ch_isAlike) ∈ z_tb := z_in4 (List.mem_of_getElem? (i := 238) rfl) rfl
theorem se_Ch_isAlike : Cond.selects (z_y m_Ch_isAlike).cls (z_y m_Ch_isAlike) (z_y m_Ch_isAlike) ∈ z_tb := z_in4 (List.mem_of_getElem? (i := 239) rfl) rfl
theorem mi_Ch_termOf : z_mi m_Ch_termOf 1 := ⟨cl_Ch.1, z_in5 (List.mem_of_getElem? (i := 43) rfl) rfl, z_in1 (List.mem_of_getElem? (i := 5) rfl) rfl, cl_Ch.2, by decide +kernel⟩
theorem mv_Ch_termOf : Cond.instanceMethod (z_y m_Ch_termOf) ∈ z_tb := z_in5 (List.mem_of_getElem? (i := 41) rfl) rfl
theorem se_Ch_termOf : Cond.selects (z_y m_Ch_termOf).cls (z_y m_Ch_termOf) (z_y m_Ch_termOf) ∈ z_tb := z_in5 (List.mem_of_getElem? (i := 42) rfl) rfl
theorem mi_Ch_turns : z_mi m_Ch_turns 0 := ⟨cl_Ch.1, z_in4 (List.mem_of_getElem? (i := 13) rfl) rfl, z_in1 (List.mem_of_getElem? (i := 5) rfl) rfl, cl_Ch.2, by decide +kernel⟩
theorem mv_Ch_turns : Cond.instanceMethod (z_y m_Ch_turns) ∈ z_tb := z_in4 (List.mem_of_getElem? (i := 11) rfl) rfl
theorem se_Ch_turns : Cond.selects (z_y m_Ch_turns).cls (z_y m_Ch_turns) (z_y m_Ch_turns) ∈ z_tb := z_in4 (List.mem_of_getElem? (i := 12) rfl) rfl
theorem mi_Ch_turnOf : z_mi m_Ch_turnOf 1 := ⟨cl_Ch.1, z_in5 (List.mem_of_getElem? (i := 39) rfl) rfl, z_in1 (List.mem_of_getElem? (i := 5) rfl) rfl, cl_Ch.2, by decide +kernel⟩
theorem mv_Ch_turnOf : Cond.instanceMethod (z_y m_Ch_turnOf) ∈ z_tb := z_in5 (List.mem_of_getElem? (i := 37) rfl) rfl
theorem se_Ch_turnOf : Cond.selects (z_y m_Ch_turnOf).cls (z_y m_Ch_turnOf) (z_y m_Ch_turnOf) ∈ z_tb := z_in5 (List.mem_of_getElem? (i := 38) rfl) rfl
theorem mi_Pa_init : z_mi m_Pa_init 0 := ⟨cl_Pa.1, z_in1 (List.mem_of_getElem? (i := 52) rfl) rfl, z_in1 (List.mem_of_getElem? (i := 3) rfl) rfl, cl_Pa.2, by decide +kernel⟩
theorem mv_Pa_init : Cond.instanceMethod (z_y m_Pa_init) ∈ z_tb := z_in1 (List.mem_of_getElem? (i := 51) rfl) rfl
theorem mi_Pa_readStudy : z_mi m_Pa_readStudy 2 := ⟨cl_Pa.1, z_in3 (List.mem_of_getElem? (i := 104) rfl) rfl, z_in1 (List.mem_of_getElem? (i := 3) rfl) rfl, cl_Pa.2, by decide +kernel⟩
theorem mv_Pa_readStudy : Cond.instanceMethod (z_y m_Pa_readStudy) ∈ z_tb := z_in3 (List.mem_of_getElem? (i := 102) rfl) rfl
theorem se_Pa_readStudy : Cond.selects (z_y m_Pa_readStudy).cls (z_y m_Pa_readStudy) (z_y m_Pa_readStudy) ∈ z_tb := z_in3 (List.mem_of_getElem? (i := 103) rfl) rfl
theorem mi_Pa_readPart : z_mi m_Pa_readPart 1 := ⟨cl_Pa.1, z_in3 (List.mem_of_getElem? (i := 130) rfl) rfl, z_in1 (List.mem_of_getElem? (i := 3) rfl) rfl, cl_Pa.2, by decide +kernel⟩
theorem mv_Pa_readPart : Cond.instanceMethod (z_y m_Pa_readPart) ∈ z_tb := z_in3 (List.mem_of_getElem? (i := 129) rfl) rfl
theorem se_Pa_readPart : Cond.selects (z_y m_Pa_readPart).cls (z_y m_Pa_readPart) (z_y m_Pa_readPart) ∈ z_tb := z_inp (List.mem_of_getElem? (i := 5) rfl) rfl
theorem mi_Pa_readOdds : z_mi m_Pa_readOdds 1 := ⟨cl_Pa.1, z_in3 (List.mem_of_getElem? (i := 187) rfl) rfl, z_in1 (List.mem_of_getElem? (i := 3) rfl) rfl, cl_Pa.2, by decide +kernel⟩
theorem mv_Pa_readOdds : Cond.instanceMethod (z_y m_Pa_readOdds) ∈ z_tb := z_in3 (List.mem_of_getElem? (i := 186) rfl) rfl
theorem se_Pa_readOdds : Cond.selects (z_y m_Pa_readOdds).cls (z_y m_Pa_readOdds) (z_y m_Pa_readOdds) ∈ z_tb := z_inp (List.mem_of_getElem? (i := 6) rfl) rfl
theorem mi_Pa_readOrder : z_mi m_Pa_readOrder 1 := ⟨cl_Pa.1, z_in3 (List.mem_of_getElem? (i := 214) rfl) rfl, z_in1 (List.mem_of_getElem? (i := 3) rfl) rfl, cl_Pa.2, by decide +kernel⟩
theorem mv_Pa_readOrder : Cond.instanceMethod (z_y m_Pa_readOrder) ∈ z_tb := z_in3 (List.mem_of_getElem? (i := 213) rfl) rfl
theorem se_Pa_readOrder : Cond.selects (z_y m_Pa_readOrder).cls (z_y m_Pa_readOrder) (z_y m_Pa_readOrder) ∈ z_tb := z_inp (List.mem_of_getElem? (i := 7) rfl) rfl
theorem mi_Pa_readHere : z_mi m_Pa_readHere 1 := ⟨cl_Pa.1, z_in3 (List.mem_of_getElem? (i := 219) rfl) rfl, z_in1 (List.mem_of_getElem? (i := 3) rfl) rfl, cl_Pa.2, by decide +kernel⟩
theorem mv_Pa_readHere : Cond.instanceMethod (z_y m_Pa_readHere) ∈ z_tb := z_in3 (List.mem_of_getElem? (i := 218) rfl) rfl
theorem se_Pa_readHere : Cond.selects (z_y m_Pa_readHere).cls (z_y m_Pa_readHere) (z_y m_Pa_readHere) ∈ z_tb := z_inp (List.mem_of_getElem? (i := 8) rfl) rfl
theorem mi_Pa_readPin : z_mi m_Pa_readPin 1 := ⟨cl_Pa.1, z_in4 (List.mem_of_getElem? (i := 18) rfl) rfl, z_in1 (List.mem_of_getElem? (i := 3) rfl) rfl, cl_Pa.2, by decide +kernel⟩
theorem mv_Pa_readPin : Cond.instanceMethod (z_y m_Pa_readPin) ∈ z_tb := z_in4 (List.mem_of_getElem? (i := 17) rfl) rfl
theorem se_Pa_readPin : Cond.selects (z_y m_Pa_readPin).cls (z_y m_Pa_readPin) (z_y m_Pa_readPin) ∈ z_tb := z_inp (List.mem_of_getElem? (i := 11) rfl) rfl
theorem mi_Pa_readValue : z_mi m_Pa_readValue 0 := ⟨cl_Pa.1, z_in3 (List.mem_of_getElem? (i := 223) rfl) rfl, z_in1 (List.mem_of_getElem? (i := 3) rfl) rfl, cl_Pa.2, by decide +kernel⟩
theorem mv_Pa_readValue : Cond.instanceMethod (z_y m_Pa_readValue) ∈ z_tb := z_in3 (List.mem_of_getElem? (i := 222) rfl) rfl
theorem se_Pa_readValue : Cond.selects (z_y m_Pa_readValue).cls (z_y m_Pa_readValue) (z_y m_Pa_readValue) ∈ z_tb := z_inp (List.mem_of_getElem? (i := 9) rfl) rfl
theorem mi_Pa_readTours : z_mi m_Pa_readTours 2 := ⟨cl_Pa.1, z_in4 (List.mem_of_getElem? (i := 70) rfl) rfl, z_in1 (List.mem_of_getElem? (i := 3) rfl) rfl, cl_Pa.2, by decide +kernel⟩
theorem mv_Pa_readTours : Cond.instanceMethod (z_y m_Pa_readTours) ∈ z_tb := z_in4 (List.mem_of_getElem? (i := 68) rfl) rfl
theorem se_Pa_readTours : Cond.selects (z_y m_Pa_readTours).cls (z_y m_Pa_readTours) (z_y m_Pa_readTours) ∈ z_tb := z_in4 (List.mem_of_getElem? (i := 69) rfl) rfl
theorem mi_Pa_readEnd : z_mi m_Pa_readEnd 1 := ⟨cl_Pa.1, z_in4 (List.mem_of_getElem? (i := 76) rfl) rfl, z_in1 (List.mem_of_getElem? (i := 3) rfl) rfl, cl_Pa.2, by decide +kernel⟩
theorem mv_Pa_readEnd : Cond.instanceMethod (z_y m_Pa_readEnd) ∈ z_tb := z_in4 (List.mem_of_getElem? (i := 75) rfl) rfl
theorem se_Pa_readEnd : Cond.selects (z_y m_Pa_readEnd).cls (z_y m_Pa_readEnd) (z_y m_Pa_readEnd) ∈ z_tb := z_inp (List.mem_of_getElem? (i := 14) rfl) rfl
theorem mi_Pa_readStep : z_mi m_Pa_readStep 1 := ⟨cl_Pa.1, z_in4 (List.mem_of_getElem? (i := 84) rfl) rfl, z_in1 (List.mem_of_getElem? (i := 3) rfl) rfl, cl_Pa.2, by decide +kernel⟩
theorem mv_Pa_readStep : Cond.instanceMethod (z_y m_Pa_readStep) ∈ z_tb := z_in4 (List.mem_of_getElem? (i := 83) rfl) rfl
theorem se_Pa_readStep : Cond.selects (z_y m_Pa_readStep).cls (z_y m_Pa_readStep) (z_y m_Pa_readStep) ∈ z_tb := z_inp (List.mem_of_getElem? (i := 15) rfl) rfl
theorem mi_Pa_kindHere : z_mi m_Pa_kindHere 0 := ⟨cl_Pa.1, z_in4 (List.mem_of_getElem? (i := 88) rfl) rfl, z_in1 (List.mem_of_getElem? (i := 3) rfl) rfl, cl_Pa.2, by decide +kernel⟩
theorem mv_Pa_kindHere : Cond.instanceMethod (z_y m_Pa_kindHere) ∈ z_tb := z_in4 (List.mem_of_getElem? (i := 87) rfl) rfl
theorem se_Pa_kindHere : Cond.selects (z_y m_Pa_kindHere).cls (z_y m_Pa_kindHere) (z_y m_Pa_kindHere) ∈ z_tb := z_inp (List.mem_of_getElem? (i := 16) rfl) rfl
theorem mi_Pa_mostOf : z_mi m_Pa_mostOf 1 := ⟨cl_Pa.1, z_in4 (List.mem_of_getElem? (i := 119) rfl) rfl, z_in1 (List.mem_of_getElem? (i := 3) rfl) rfl, cl_Pa.2, by decide +kernel⟩
theorem ms_Pa_mostOf : Cond.static (z_y m_Pa_mostOf) ∈ z_tb := z_in4 (List.mem_of_getElem? (i := 118) rfl) rfl
theorem mi_Pa_readFirst : z_mi m_Pa_readFirst 1 := ⟨cl_Pa.1, z_in4 (List.mem_of_getElem? (i := 123) rfl) rfl, z_in1 (List.mem_of_getElem? (i := 3) rfl) rfl, cl_Pa.2, by decide +kernel⟩
theorem mv_Pa_readFirst : Cond.instanceMethod (z_y m_Pa_readFirst) ∈ z_tb := z_in4 (List.mem_of_getElem? (i := 122) rfl) rfl
theorem se_Pa_readFirst : Cond.selects (z_y m_Pa_readFirst).cls (z_y m_Pa_readFirst) (z_y m_Pa_readFirst) ∈ z_tb := z_inp (List.mem_of_getElem? (i := 19) rfl) rfl
theorem mi_Pa_readTest : z_mi m_Pa_readTest 0 := ⟨cl_Pa.1, z_in4 (List.mem_of_getElem? (i := 107) rfl) rfl, z_in1 (List.mem_of_getElem? (i := 3) rfl) rfl, cl_Pa.2, by decide +kernel⟩
theorem mv_Pa_readTest : Cond.instanceMethod (z_y m_Pa_readTest) ∈ z_tb := z_in4 (List.mem_of_getElem? (i := 106) rfl) rfl
theorem se_Pa_readTest : Cond.selects (z_y m_Pa_readTest).cls (z_y m_Pa_readTest) (z_y m_Pa_readTest) ∈ z_tb := z_inp (List.mem_of_getElem? (i := 17) rfl) rfl
theorem mi_Pa_readCompare : z_mi m_Pa_readCompare 0 := ⟨cl_Pa.1, z_in4 (List.mem_of_getElem? (i := 115) rfl) rfl, z_in1 (List.mem_of_getElem? (i := 3) rfl) rfl, cl_Pa.2, by decide +kernel⟩
theorem mv_Pa_readCompare : Cond.instanceMethod (z_y m_Pa_readCompare) ∈ z_tb := z_in4 (List.mem_of_getElem? (i := 114) rfl) rfl
theorem se_Pa_readCompare : Cond.selects (z_y m_Pa_readCompare).cls (z_y m_Pa_readCompare) (z_y m_Pa_readCompare) ∈ z_tb := z_inp (List.mem_of_getElem? (i := 18) rfl) rfl
theorem mi_Pi_init : z_mi m_Pi_init 0 := ⟨cl_Pi.1, z_in2 (List.mem_of_getElem? (i := 3) rfl) rfl, z_in1 (List.mem_of_getElem? (i := 9) rfl) rfl, cl_Pi.2, by decide +kernel⟩
theorem mv_Pi_init : Cond.instanceMethod (z_y m_Pi_init) ∈ z_tb := z_in2 (List.mem_of_getElem? (i := 2) rfl) rfl
theorem mi_Pi_copyFrom : z_mi m_Pi_copyFrom 1 := ⟨cl_Pi.1, z_in4 (List.mem_of_getElem? (i := 46) rfl) rfl, z_in1 (List.mem_of_getElem? (i := 9) rfl) rfl, cl_Pi.2, by decide +kernel⟩
theorem mv_Pi_copyFrom : Cond.instanceMethod (z_y m_Pi_copyFrom) ∈ z_tb := z_in4 (List.mem_of_getElem? (i := 44) rfl) rfl
theorem se_Pi_copyFrom : Cond.selects (z_y m_Pi_copyFrom).cls (z_y m_Pi_copyFrom) (z_y m_Pi_copyFrom) ∈ z_tb := z_in4 (List.mem_of_getElem? (i := 45) rfl) rfl
theorem mi_Pi_find : z_mi m_Pi_find 2 := ⟨cl_Pi.1, z_in4 (List.mem_of_getElem? (i := 22) rfl) rfl, z_in1 (List.mem_of_getElem? (i := 9) rfl) rfl, cl_Pi.2, by decide +kernel⟩
theorem mv_Pi_find : Cond.instanceMethod (z_y m_Pi_find) ∈ z_tb := z_in4 (List.mem_of_getElem? (i := 20) rfl) rfl
theorem se_Pi_find : Cond.selects (z_y m_Pi_find).cls (z_y m_Pi_find) (z_y m_Pi_find) ∈ z_tb := z_in4 (List.mem_of_getElem? (i := 21) rfl) rfl
theorem mi_Pi_whyNotMore : z_mi m_Pi_whyNotMore 3 := ⟨cl_Pi.1, z_in5 (List.mem_of_getElem? (i := 159) rfl) rfl, z_in1 (List.mem_of_getElem? (i := 9) rfl) rfl, cl_Pi.2, by decide +kernel⟩
theorem mv_Pi_whyNotMore : Cond.instanceMethod (z_y m_Pi_whyNotMore) ∈ z_tb := z_in5 (List.mem_of_getElem? (i := 157) rfl) rfl
theorem se_Pi_whyNotMore : Cond.selects (z_y m_Pi_whyNotMore).cls (z_y m_Pi_whyNotMore) (z_y m_Pi_whyNotMore) ∈ z_tb := z_in5 (List.mem_of_getElem? (i := 158) rfl) rfl
theorem mi_Pi_add : z_mi m_Pi_add 3 := ⟨cl_Pi.1, z_in4 (List.mem_of_getElem? (i := 27) rfl) rfl, z_in1 (List.mem_of_getElem? (i := 9) rfl) rfl, cl_Pi.2, by decide +kernel⟩
theorem mv_Pi_add : Cond.instanceMethod (z_y m_Pi_add) ∈ z_tb := z_in4 (List.mem_of_getElem? (i := 25) rfl) rfl
theorem se_Pi_add : Cond.selects (z_y m_Pi_add).cls (z_y m_Pi_add) (z_y m_Pi_add) ∈ z_tb := z_in4 (List.mem_of_getElem? (i := 26) rfl) rfl
theorem mi_Pi_drop : z_mi m_Pi_drop 1 := ⟨cl_Pi.1, z_in5 (List.mem_of_getElem? (i := 169) rfl) rfl, z_in1 (List.mem_of_getElem? (i := 9) rfl) rfl, cl_Pi.2, by decide +kernel⟩
theorem mv_Pi_drop : Cond.instanceMethod (z_y m_Pi_drop) ∈ z_tb := z_in5 (List.mem_of_getElem? (i := 167) rfl) rfl
theorem se_Pi_drop : Cond.selects (z_y m_Pi_drop).cls (z_y m_Pi_drop) (z_y m_Pi_drop) ∈ z_tb := z_in5 (List.mem_of_getElem? (i := 168) rfl) rfl
theorem mi_Pi_weightOfAll : z_mi m_Pi_weightOfAll 0 := ⟨cl_Pi.1, z_in4 (List.mem_of_getElem? (i := 140) rfl) rfl, z_in1 (List.mem_of_getElem? (i := 9) rfl) rfl, cl_Pi.2, by decide +kernel⟩
theorem mv_Pi_weightOfAll : Cond.instanceMethod (z_y m_Pi_weightOfAll) ∈ z_tb := z_in4 (List.mem_of_getElem? (i := 138) rfl) rfl
theorem se_Pi_weightOfAll : Cond.selects (z_y m_Pi_weightOfAll).cls (z_y m_Pi_weightOfAll) (z_y m_Pi_weightOfAll) ∈ z_tb := z_in4 (List.mem_of_getElem? (i := 139) rfl) rfl
theorem mi_Pi_weightUpTo : z_mi m_Pi_weightUpTo 2 := ⟨cl_Pi.1, z_in4 (List.mem_of_getElem? (i := 144) rfl) rfl, z_in1 (List.mem_of_getElem? (i := 9) rfl) rfl, cl_Pi.2, by decide +kernel⟩
theorem mv_Pi_weightUpTo : Cond.instanceMethod (z_y m_Pi_weightUpTo) ∈ z_tb := z_in4 (List.mem_of_getElem? (i := 142) rfl) rfl
theorem se_Pi_weightUpTo : Cond.selects (z_y m_Pi_weightUpTo).cls (z_y m_Pi_weightUpTo) (z_y m_Pi_weightUpTo) ∈ z_tb := z_in4 (List.mem_of_getElem? (i := 143) rfl) rfl
theorem mi_Pi_manyOfOrder : z_mi m_Pi_manyOfOrder 1 := ⟨cl_Pi.1, z_in5 (List.mem_of_getElem? (i := 231) rfl) rfl, z_in1 (List.mem_of_getElem? (i := 9) rfl) rfl, cl_Pi.2, by decide +kernel⟩
theorem mv_Pi_manyOfOrder : Cond.instanceMethod (z_y m_Pi_manyOfOrder) ∈ z_tb := z_in5 (List.mem_of_getElem? (i := 229) rfl) rfl
theorem se_Pi_manyOfOrder : Cond.selects (z_y m_Pi_manyOfOrder).cls (z_y m_Pi_manyOfOrder) (z_y m_Pi_manyOfOrder) ∈ z_tb := z_in5 (List.mem_of_getElem? (i := 230) rfl) rfl
theorem mi_Pi_rising : z_mi m_Pi_rising 1 := ⟨cl_Pi.1, z_in5 (List.mem_of_getElem? (i := 189) rfl) rfl, z_in1 (List.mem_of_getElem? (i := 9) rfl) rfl, cl_Pi.2, by decide +kernel⟩
theorem mv_Pi_rising : Cond.instanceMethod (z_y m_Pi_rising) ∈ z_tb := z_in5 (List.mem_of_getElem? (i := 187) rfl) rfl
theorem se_Pi_rising : Cond.selects (z_y m_Pi_rising).cls (z_y m_Pi_rising) (z_y m_Pi_rising) ∈ z_tb := z_in5 (List.mem_of_getElem? (i := 188) rfl) rfl
theorem mi_Pi_manyBelow : z_mi m_Pi_manyBelow 1 := ⟨cl_Pi.1, z_in5 (List.mem_of_getElem? (i := 193) rfl) rfl, z_in1 (List.mem_of_getElem? (i := 9) rfl) rfl, cl_Pi.2, by decide +kernel⟩
theorem mv_Pi_manyBelow : Cond.instanceMethod (z_y m_Pi_manyBelow) ∈ z_tb := z_in5 (List.mem_of_getElem? (i := 192) rfl) rfl
theorem se_Pi_manyBelow : Cond.selects (z_y m_Pi_manyBelow).cls (z_y m_Pi_manyBelow) (z_y m_Pi_manyBelow) ∈ z_tb := z_inp (List.mem_of_getElem? (i := 26) rfl) rfl
theorem mi_Pi_isLess : z_mi m_Pi_isLess 2 := ⟨cl_Pi.1, z_in5 (List.mem_of_getElem? (i := 197) rfl) rfl, z_in1 (List.mem_of_getElem? (i := 9) rfl) rfl, cl_Pi.2, by decide +kernel⟩
theorem mv_Pi_isLess : Cond.instanceMethod (z_y m_Pi_isLess) ∈ z_tb := z_in5 (List.mem_of_getElem? (i := 196) rfl) rfl
theorem se_Pi_isLess : Cond.selects (z_y m_Pi_isLess).cls (z_y m_Pi_isLess) (z_y m_Pi_isLess) ∈ z_tb := z_inp (List.mem_of_getElem? (i := 27) rfl) rfl
theorem mi_Pi_ofMostWeight : z_mi m_Pi_ofMostWeight 0 := ⟨cl_Pi.1, z_in5 (List.mem_of_getElem? (i := 205) rfl) rfl, z_in1 (List.mem_of_getElem? (i := 9) rfl) rfl, cl_Pi.2, by decide +kernel⟩
theorem mv_Pi_ofMostWeight : Cond.instanceMethod (z_y m_Pi_ofMostWeight) ∈ z_tb := z_in5 (List.mem_of_getElem? (i := 203) rfl) rfl
theorem se_Pi_ofMostWeight : Cond.selects (z_y m_Pi_ofMostWeight).cls (z_y m_Pi_ofMostWeight) (z_y m_Pi_ofMostWeight) ∈ z_tb := z_in5 (List.mem_of_getElem? (i := 204) rfl) rfl
theorem mi_Pi_halfWay : z_mi m_Pi_halfWay 0 := ⟨cl_Pi.1, z_in5 (List.mem_of_getElem? (i := 213) rfl) rfl, z_in1 (List.mem_of_getElem? (i := 9) rfl) rfl, cl_Pi.2, by decide +kernel⟩
theorem mv_Pi_halfWay : Cond.instanceMethod (z_y m_Pi_halfWay) ∈ z_tb := z_in5 (List.mem_of_getElem? (i := 211) rfl) rfl
theorem se_Pi_halfWay : Cond.selects (z_y m_Pi_halfWay).cls (z_y m_Pi_halfWay) (z_y m_Pi_halfWay) ∈ z_tb := z_in5 (List.mem_of_getElem? (i := 212) rfl) rfl
theorem mi_Pg_init : z_mi m_Pg_init 0 := ⟨cl_Pg.1, z_in2 (List.mem_of_getElem? (i := 42) rfl) rfl, z_in1 (List.mem_of_getElem? (i := 11) rfl) rfl, cl_Pg.2, by decide +kernel⟩
theorem mv_Pg_init : Cond.instanceMethod (z_y m_Pg_init) ∈ z_tb := z_in2 (List.mem_of_getElem? (i := 41) rfl) rfl
theorem mi_Pg_clear : z_mi m_Pg_clear 0 := ⟨cl_Pg.1, z_in2 (List.mem_of_getElem? (i := 111) rfl) rfl, z_in1 (List.mem_of_getElem? (i := 11) rfl) rfl, cl_Pg.2, by decide +kernel⟩
theorem mv_Pg_clear : Cond.instanceMethod (z_y m_Pg_clear) ∈ z_tb := z_in2 (List.mem_of_getElem? (i := 109) rfl) rfl
theorem se_Pg_clear : Cond.selects (z_y m_Pg_clear).cls (z_y m_Pg_clear) (z_y m_Pg_clear) ∈ z_tb := z_in2 (List.mem_of_getElem? (i := 110) rfl) rfl
theorem mi_Pg_copyFrom : z_mi m_Pg_copyFrom 1 := ⟨cl_Pg.1, z_in4 (List.mem_of_getElem? (i := 56) rfl) rfl, z_in1 (List.mem_of_getElem? (i := 11) rfl) rfl, cl_Pg.2, by decide +kernel⟩
theorem mv_Pg_copyFrom : Cond.instanceMethod (z_y m_Pg_copyFrom) ∈ z_tb := z_in4 (List.mem_of_getElem? (i := 54) rfl) rfl
theorem se_Pg_copyFrom : Cond.selects (z_y m_Pg_copyFrom).cls (z_y m_Pg_copyFrom) (z_y m_Pg_copyFrom) ∈ z_tb := z_in4 (List.mem_of_getElem? (i := 55) rfl) rfl
theorem mi_Pg_addStep : z_mi m_Pg_addStep 4 := ⟨cl_Pg.1, z_in4 (List.mem_of_getElem? (i := 127) rfl) rfl, z_in1 (List.mem_of_getElem? (i := 11) rfl) rfl, cl_Pg.2, by decide +kernel⟩
theorem mv_Pg_addStep : Cond.instanceMethod (z_y m_Pg_addStep) ∈ z_tb := z_in4 (List.mem_of_getElem? (i := 125) rfl) rfl
theorem se_Pg_addStep : Cond.selects (z_y m_Pg_addStep).cls (z_y m_Pg_addStep) (z_y m_Pg_addStep) ∈ z_tb := z_in4 (List.mem_of_getElem? (i := 126) rfl) rfl
theorem mi_Pg_addEnd : z_mi m_Pg_addEnd 1 := ⟨cl_Pg.1, z_in4 (List.mem_of_getElem? (i := 80) rfl) rfl, z_in1 (List.mem_of_getElem? (i := 11) rfl) rfl, cl_Pg.2, by decide +kernel⟩
theorem mv_Pg_addEnd : Cond.instanceMethod (z_y m_Pg_addEnd) ∈ z_tb := z_in4 (List.mem_of_getElem? (i := 78) rfl) rfl
theorem se_Pg_addEnd : Cond.selects (z_y m_Pg_addEnd).cls (z_y m_Pg_addEnd) (z_y m_Pg_addEnd) ∈ z_tb := z_in4 (List.mem_of_getElem? (i := 79) rfl) rfl
theorem mi_Pg_wordOf : z_mi m_Pg_wordOf 1 := ⟨cl_Pg.1, z_in4 (List.mem_of_getElem? (i := 91) rfl) rfl, z_in1 (List.mem_of_getElem? (i := 11) rfl) rfl, cl_Pg.2, by decide +kernel⟩
theorem ms_Pg_wordOf : Cond.static (z_y m_Pg_wordOf) ∈ z_tb := z_in4 (List.mem_of_getElem? (i := 90) rfl) rfl
theorem mi_Rw_init : z_mi m_Rw_init 0 := ⟨cl_Rw.1, z_in1 (List.mem_of_getElem? (i := 174) rfl) rfl, z_in1 (List.mem_of_getElem? (i := 6) rfl) rfl, cl_Rw.2, by decide +kernel⟩
theorem mv_Rw_init : Cond.instanceMethod (z_y m_Rw_init) ∈ z_tb := z_in1 (List.mem_of_getElem? (i := 173) rfl) rfl
theorem mi_Rw_pairs : z_mi m_Rw_pairs 2 := ⟨cl_Rw.1, z_in4 (List.mem_of_getElem? (i := 153) rfl) rfl, z_in1 (List.mem_of_getElem? (i := 6) rfl) rfl, cl_Rw.2, by decide +kernel⟩
theorem mv_Rw_pairs : Cond.instanceMethod (z_y m_Rw_pairs) ∈ z_tb := z_in4 (List.mem_of_getElem? (i := 151) rfl) rfl
theorem se_Rw_pairs : Cond.selects (z_y m_Rw_pairs).cls (z_y m_Rw_pairs) (z_y m_Rw_pairs) ∈ z_tb := z_in4 (List.mem_of_getElem? (i := 152) rfl) rfl
theorem mi_Rw_valuesOf : z_mi m_Rw_valuesOf 1 := ⟨cl_Rw.1, z_in4 (List.mem_of_getElem? (i := 149) rfl) rfl, z_in1 (List.mem_of_getElem? (i := 6) rfl) rfl, cl_Rw.2, by decide +kernel⟩
theorem mv_Rw_valuesOf : Cond.instanceMethod (z_y m_Rw_valuesOf) ∈ z_tb := z_in4 (List.mem_of_getElem? (i := 147) rfl) rfl
theorem se_Rw_valuesOf : Cond.selects (z_y m_Rw_valuesOf).cls (z_y m_Rw_valuesOf) (z_y m_Rw_valuesOf) ∈ z_tb := z_in4 (List.mem_of_getElem? (i := 148) rfl) rfl
theorem mi_Rw_countUnder : z_mi m_Rw_countUnder 3 := ⟨cl_Rw.1, z_in4 (List.mem_of_getElem? (i := 173) rfl) rfl, z_in1 (List.mem_of_getElem? (i := 6) rfl) rfl, cl_Rw.2, by decide +kernel⟩
theorem mv_Rw_countUnder : Cond.instanceMethod (z_y m_Rw_countUnder) ∈ z_tb := z_in4 (List.mem_of_getElem? (i := 171) rfl) rfl
theorem se_Rw_countUnder : Cond.selects (z_y m_Rw_countUnder).cls (z_y m_Rw_countUnder) (z_y m_Rw_countUnder) ∈ z_tb := z_in4 (List.mem_of_getElem? (i := 172) rfl) rfl
theorem mi_Rw_pinch : z_mi m_Rw_pinch 4 := ⟨cl_Rw.1, z_in4 (List.mem_of_getElem? (i := 178) rfl) rfl, z_in1 (List.mem_of_getElem? (i := 6) rfl) rfl, cl_Rw.2, by decide +kernel⟩
theorem mv_Rw_pinch : Cond.instanceMethod (z_y m_Rw_pinch) ∈ z_tb := z_in4 (List.mem_of_getElem? (i := 176) rfl) rfl
theorem se_Rw_pinch : Cond.selects (z_y m_Rw_pinch).cls (z_y m_Rw_pinch) (z_y m_Rw_pinch) ∈ z_tb := z_in4 (List.mem_of_getElem? (i := 177) rfl) rfl
theorem mi_Rw_seek : z_mi m_Rw_seek 2 := ⟨cl_Rw.1, z_in4 (List.mem_of_getElem? (i := 165) rfl) rfl, z_in1 (List.mem_of_getElem? (i := 6) rfl) rfl, cl_Rw.2, by decide +kernel⟩
theorem mv_Rw_seek : Cond.instanceMethod (z_y m_Rw_seek) ∈ z_tb := z_in4 (List.mem_of_getElem? (i := 163) rfl) rfl
theorem se_Rw_seek : Cond.selects (z_y m_Rw_seek).cls (z_y m_Rw_seek) (z_y m_Rw_seek) ∈ z_tb := z_in4 (List.mem_of_getElem? (i := 164) rfl) rfl
theorem mi_Rw_sliceOf : z_mi m_Rw_sliceOf 2 := ⟨cl_Rw.1, z_in4 (List.mem_of_getElem? (i := 169) rfl) rfl, z_in1 (List.mem_of_getElem? (i := 6) rfl) rfl, cl_Rw.2, by decide +kernel⟩
theorem mv_Rw_sliceOf : Cond.instanceMethod (z_y m_Rw_sliceOf) ∈ z_tb := z_in4 (List.mem_of_getElem? (i := 168) rfl) rfl
theorem se_Rw_sliceOf : Cond.selects (z_y m_Rw_sliceOf).cls (z_y m_Rw_sliceOf) (z_y m_Rw_sliceOf) ∈ z_tb := z_inp (List.mem_of_getElem? (i := 20) rfl) rfl
theorem mi_Rw_stepUp : z_mi m_Rw_stepUp 1 := ⟨cl_Rw.1, z_in4 (List.mem_of_getElem? (i := 183) rfl) rfl, z_in1 (List.mem_of_getElem? (i := 6) rfl) rfl, cl_Rw.2, by decide +kernel⟩
theorem mv_Rw_stepUp : Cond.instanceMethod (z_y m_Rw_stepUp) ∈ z_tb := z_in4 (List.mem_of_getElem? (i := 182) rfl) rfl
theorem se_Rw_stepUp : Cond.selects (z_y m_Rw_stepUp).cls (z_y m_Rw_stepUp) (z_y m_Rw_stepUp) ∈ z_tb := z_inp (List.mem_of_getElem? (i := 21) rfl) rfl
theorem mi_Sp_init : z_mi m_Sp_init 0 := ⟨cl_Sp.1, z_in1 (List.mem_of_getElem? (i := 205) rfl) rfl, z_in1 (List.mem_of_getElem? (i := 7) rfl) rfl, cl_Sp.2, by decide +kernel⟩
theorem mv_Sp_init : Cond.instanceMethod (z_y m_Sp_init) ∈ z_tb := z_in1 (List.mem_of_getElem? (i := 204) rfl) rfl
theorem mi_Sp_toRoot : z_mi m_Sp_toRoot 0 := ⟨cl_Sp.1, z_in1 (List.mem_of_getElem? (i := 210) rfl) rfl, z_in1 (List.mem_of_getElem? (i := 7) rfl) rfl, cl_Sp.2, by decide +kernel⟩
theorem mv_Sp_toRoot : Cond.instanceMethod (z_y m_Sp_toRoot) ∈ z_tb := z_in1 (List.mem_of_getElem? (i := 208) rfl) rfl
theorem se_Sp_toRoot : Cond.selects (z_y m_Sp_toRoot).cls (z_y m_Sp_toRoot) (z_y m_Sp_toRoot) ∈ z_tb := z_in1 (List.mem_of_getElem? (i := 209) rfl) rfl
theorem mi_Sp_copyFrom : z_mi m_Sp_copyFrom 1 := ⟨cl_Sp.1, z_in4 (List.mem_of_getElem? (i := 42) rfl) rfl, z_in1 (List.mem_of_getElem? (i := 7) rfl) rfl, cl_Sp.2, by decide +kernel⟩
theorem mv_Sp_copyFrom : Cond.instanceMethod (z_y m_Sp_copyFrom) ∈ z_tb := z_in4 (List.mem_of_getElem? (i := 40) rfl) rfl
theorem se_Sp_copyFrom : Cond.selects (z_y m_Sp_copyFrom).cls (z_y m_Sp_copyFrom) (z_y m_Sp_copyFrom) ∈ z_tb := z_in4 (List.mem_of_getElem? (i := 41) rfl) rfl
theorem mi_Sp_standOn : z_mi m_Sp_standOn 1 := ⟨cl_Sp.1, z_in4 (List.mem_of_getElem? (i := 6) rfl) rfl, z_in1 (List.mem_of_getElem? (i := 7) rfl) rfl, cl_Sp.2, by decide +kernel⟩
theorem mv_Sp_standOn : Cond.instanceMethod (z_y m_Sp_standOn) ∈ z_tb := z_in4 (List.mem_of_getElem? (i := 4) rfl) rfl
theorem se_Sp_standOn : Cond.selects (z_y m_Sp_standOn).cls (z_y m_Sp_standOn) (z_y m_Sp_standOn) ∈ z_tb := z_in4 (List.mem_of_getElem? (i := 5) rfl) rfl
theorem mi_Sp_ownTop : z_mi m_Sp_ownTop 0 := ⟨cl_Sp.1, z_in2 (List.mem_of_getElem? (i := 96) rfl) rfl, z_in1 (List.mem_of_getElem? (i := 7) rfl) rfl, cl_Sp.2, by decide +kernel⟩
theorem mv_Sp_ownTop : Cond.instanceMethod (z_y m_Sp_ownTop) ∈ z_tb := z_in2 (List.mem_of_getElem? (i := 94) rfl) rfl
theorem se_Sp_ownTop : Cond.selects (z_y m_Sp_ownTop).cls (z_y m_Sp_ownTop) (z_y m_Sp_ownTop) ∈ z_tb := z_in2 (List.mem_of_getElem? (i := 95) rfl) rfl
theorem mi_Sp_ownBottom : z_mi m_Sp_ownBottom 0 := ⟨cl_Sp.1, z_in2 (List.mem_of_getElem? (i := 100) rfl) rfl, z_in1 (List.mem_of_getElem? (i := 7) rfl) rfl, cl_Sp.2, by decide +kernel⟩
theorem mv_Sp_ownBottom : Cond.instanceMethod (z_y m_Sp_ownBottom) ∈ z_tb := z_in2 (List.mem_of_getElem? (i := 98) rfl) rfl
theorem se_Sp_ownBottom : Cond.selects (z_y m_Sp_ownBottom).cls (z_y m_Sp_ownBottom) (z_y m_Sp_ownBottom) ∈ z_tb := z_in2 (List.mem_of_getElem? (i := 99) rfl) rfl
theorem mi_Sp_bottomBehind : z_mi m_Sp_bottomBehind 1 := ⟨cl_Sp.1, z_in5 (List.mem_of_getElem? (i := 107) rfl) rfl, z_in1 (List.mem_of_getElem? (i := 7) rfl) rfl, cl_Sp.2, by decide +kernel⟩
theorem mv_Sp_bottomBehind : Cond.instanceMethod (z_y m_Sp_bottomBehind) ∈ z_tb := z_in5 (List.mem_of_getElem? (i := 105) rfl) rfl
theorem se_Sp_bottomBehind : Cond.selects (z_y m_Sp_bottomBehind).cls (z_y m_Sp_bottomBehind) (z_y m_Sp_bottomBehind) ∈ z_tb := z_in5 (List.mem_of_getElem? (i := 106) rfl) rfl
theorem mi_Sp_descend : z_mi m_Sp_descend 1 := ⟨cl_Sp.1, z_in5 (List.mem_of_getElem? (i := 61) rfl) rfl, z_in1 (List.mem_of_getElem? (i := 7) rfl) rfl, cl_Sp.2, by decide +kernel⟩
theorem mv_Sp_descend : Cond.instanceMethod (z_y m_Sp_descend) ∈ z_tb := z_in5 (List.mem_of_getElem? (i := 59) rfl) rfl
theorem se_Sp_descend : Cond.selects (z_y m_Sp_descend).cls (z_y m_Sp_descend) (z_y m_Sp_descend) ∈ z_tb := z_in5 (List.mem_of_getElem? (i := 60) rfl) rfl
theorem mi_Sp_climb : z_mi m_Sp_climb 0 := ⟨cl_Sp.1, z_in5 (List.mem_of_getElem? (i := 52) rfl) rfl, z_in1 (List.mem_of_getElem? (i := 7) rfl) rfl, cl_Sp.2, by decide +kernel⟩
theorem mv_Sp_climb : Cond.instanceMethod (z_y m_Sp_climb) ∈ z_tb := z_in5 (List.mem_of_getElem? (i := 50) rfl) rfl
theorem se_Sp_climb : Cond.selects (z_y m_Sp_climb).cls (z_y m_Sp_climb) (z_y m_Sp_climb) ∈ z_tb := z_in5 (List.mem_of_getElem? (i := 51) rfl) rfl
theorem mi_Sp_mirror : z_mi m_Sp_mirror 0 := ⟨cl_Sp.1, z_in5 (List.mem_of_getElem? (i := 130) rfl) rfl, z_in1 (List.mem_of_getElem? (i := 7) rfl) rfl, cl_Sp.2, by decide +kernel⟩
theorem mv_Sp_mirror : Cond.instanceMethod (z_y m_Sp_mirror) ∈ z_tb := z_in5 (List.mem_of_getElem? (i := 128) rfl) rfl
theorem se_Sp_mirror : Cond.selects (z_y m_Sp_mirror).cls (z_y m_Sp_mirror) (z_y m_Sp_mirror) ∈ z_tb := z_in5 (List.mem_of_getElem? (i := 129) rfl) rfl
theorem mi_Sp_squeeze : z_mi m_Sp_squeeze 2 := ⟨cl_Sp.1, z_in5 (List.mem_of_getElem? (i := 13) rfl) rfl, z_in1 (List.mem_of_getElem? (i := 7) rfl) rfl, cl_Sp.2, by decide +kernel⟩
theorem mv_Sp_squeeze : Cond.instanceMethod (z_y m_Sp_squeeze) ∈ z_tb := z_in5 (List.mem_of_getElem? (i := 11) rfl) rfl
theorem se_Sp_squeeze : Cond.selects (z_y m_Sp_squeeze).cls (z_y m_Sp_squeeze) (z_y m_Sp_squeeze) ∈ z_tb := z_in5 (List.mem_of_getElem? (i := 12) rfl) rfl
theorem mi_Ta_init : z_mi m_Ta_init 0 := ⟨cl_Ta.1, z_in1 (List.mem_of_getElem? (i := 58) rfl) rfl, z_in1 (List.mem_of_getElem? (i := 4) rfl) rfl, cl_Ta.2, by decide +kernel⟩
theorem mv_Ta_init : Cond.instanceMethod (z_y m_Ta_init) ∈ z_tb := z_in1 (List.mem_of_getElem? (i := 57) rfl) rfl
theorem mi_Ta_takeInt : z_mi m_Ta_takeInt 1 := ⟨cl_Ta.1, z_in3 (List.mem_of_getElem? (i := 96) rfl) rfl, z_in1 (List.mem_of_getElem? (i := 4) rfl) rfl, cl_Ta.2, by decide +kernel⟩
theorem mv_Ta_takeInt : Cond.instanceMethod (z_y m_Ta_takeInt) ∈ z_tb := z_in3 (List.mem_of_getElem? (i := 94) rfl) rfl
theorem se_Ta_takeInt : Cond.selects (z_y m_Ta_takeInt).cls (z_y m_Ta_takeInt) (z_y m_Ta_takeInt) ∈ z_tb := z_in3 (List.mem_of_getElem? (i := 95) rfl) rfl
theorem mi_Ta_start : z_mi m_Ta_start 1 := ⟨cl_Ta.1, z_in3 (List.mem_of_getElem? (i := 109) rfl) rfl, z_in1 (List.mem_of_getElem? (i := 4) rfl) rfl, cl_Ta.2, by decide +kernel⟩
theorem mv_Ta_start : Cond.instanceMethod (z_y m_Ta_start) ∈ z_tb := z_in3 (List.mem_of_getElem? (i := 107) rfl) rfl
theorem se_Ta_start : Cond.selects (z_y m_Ta_start).cls (z_y m_Ta_start) (z_y m_Ta_start) ∈ z_tb := z_in3 (List.mem_of_getElem? (i := 108) rfl) rfl
theorem mi_Ta_advance : z_mi m_Ta_advance 0 := ⟨cl_Ta.1, z_in3 (List.mem_of_getElem? (i := 119) rfl) rfl, z_in1 (List.mem_of_getElem? (i := 4) rfl) rfl, cl_Ta.2, by decide +kernel⟩
theorem mv_Ta_advance : Cond.instanceMethod (z_y m_Ta_advance) ∈ z_tb := z_in3 (List.mem_of_getElem? (i := 117) rfl) rfl
theorem se_Ta_advance : Cond.selects (z_y m_Ta_advance).cls (z_y m_Ta_advance) (z_y m_Ta_advance) ∈ z_tb := z_in3 (List.mem_of_getElem? (i := 118) rfl) rfl
theorem mi_Ta_isEnded : z_mi m_Ta_isEnded 0 := ⟨cl_Ta.1, z_in3 (List.mem_of_getElem? (i := 126) rfl) rfl, z_in1 (List.mem_of_getElem? (i := 4) rfl) rfl, cl_Ta.2, by decide +kernel⟩
theorem mv_Ta_isEnded : Cond.instanceMethod (z_y m_Ta_isEnded) ∈ z_tb := z_in3 (List.mem_of_getElem? (i := 124) rfl) rfl
theorem se_Ta_isEnded : Cond.selects (z_y m_Ta_isEnded).cls (z_y m_Ta_isEnded) (z_y m_Ta_isEnded) ∈ z_tb := z_in3 (List.mem_of_getElem? (i := 125) rfl) rfl
theorem mi_Ta_isWord : z_mi m_Ta_isWord 1 := ⟨cl_Ta.1, z_in3 (List.mem_of_getElem? (i := 135) rfl) rfl, z_in1 (List.mem_of_getElem? (i := 4) rfl) rfl, cl_Ta.2, by decide +kernel⟩
theorem mv_Ta_isWord : Cond.instanceMethod (z_y m_Ta_isWord) ∈ z_tb := z_in3 (List.mem_of_getElem? (i := 133) rfl) rfl
theorem se_Ta_isWord : Cond.selects (z_y m_Ta_isWord).cls (z_y m_Ta_isWord) (z_y m_Ta_isWord) ∈ z_tb := z_in3 (List.mem_of_getElem? (i := 134) rfl) rfl
theorem mi_Ta_isThisSign : z_mi m_Ta_isThisSign 1 := ⟨cl_Ta.1, z_in3 (List.mem_of_getElem? (i := 209) rfl) rfl, z_in1 (List.mem_of_getElem? (i := 4) rfl) rfl, cl_Ta.2, by decide +kernel⟩
theorem mv_Ta_isThisSign : Cond.instanceMethod (z_y m_Ta_isThisSign) ∈ z_tb := z_in3 (List.mem_of_getElem? (i := 207) rfl) rfl
theorem se_Ta_isThisSign : Cond.selects (z_y m_Ta_isThisSign).cls (z_y m_Ta_isThisSign) (z_y m_Ta_isThisSign) ∈ z_tb := z_in3 (List.mem_of_getElem? (i := 208) rfl) rfl
theorem mi_Ta_fail : z_mi m_Ta_fail 2 := ⟨cl_Ta.1, z_in3 (List.mem_of_getElem? (i := 191) rfl) rfl, z_in1 (List.mem_of_getElem? (i := 4) rfl) rfl, cl_Ta.2, by decide +kernel⟩
theorem mv_Ta_fail : Cond.instanceMethod (z_y m_Ta_fail) ∈ z_tb := z_in3 (List.mem_of_getElem? (i := 189) rfl) rfl
theorem se_Ta_fail : Cond.selects (z_y m_Ta_fail).cls (z_y m_Ta_fail) (z_y m_Ta_fail) ∈ z_tb := z_in3 (List.mem_of_getElem? (i := 190) rfl) rfl
theorem mi_Ta_failHere : z_mi m_Ta_failHere 0 := ⟨cl_Ta.1, z_in3 (List.mem_of_getElem? (i := 200) rfl) rfl, z_in1 (List.mem_of_getElem? (i := 4) rfl) rfl, cl_Ta.2, by decide +kernel⟩
theorem mv_Ta_failHere : Cond.instanceMethod (z_y m_Ta_failHere) ∈ z_tb := z_in3 (List.mem_of_getElem? (i := 198) rfl) rfl
theorem se_Ta_failHere : Cond.selects (z_y m_Ta_failHere).cls (z_y m_Ta_failHere) (z_y m_Ta_failHere) ∈ z_tb := z_in3 (List.mem_of_getElem? (i := 199) rfl) rfl
theorem mi_Ta_passWord : z_mi m_Ta_passWord 1 := ⟨cl_Ta.1, z_in3 (List.mem_of_getElem? (i := 228) rfl) rfl, z_in1 (List.mem_of_getElem? (i := 4) rfl) rfl, cl_Ta.2, by decide +kernel⟩
theorem mv_Ta_passWord : Cond.instanceMethod (z_y m_Ta_passWord) ∈ z_tb := z_in3 (List.mem_of_getElem? (i := 226) rfl) rfl
theorem se_Ta_passWord : Cond.selects (z_y m_Ta_passWord).cls (z_y m_Ta_passWord) (z_y m_Ta_passWord) ∈ z_tb := z_in3 (List.mem_of_getElem? (i := 227) rfl) rfl
theorem mi_Ta_passSign : z_mi m_Ta_passSign 1 := ⟨cl_Ta.1, z_in3 (List.mem_of_getElem? (i := 205) rfl) rfl, z_in1 (List.mem_of_getElem? (i := 4) rfl) rfl, cl_Ta.2, by decide +kernel⟩
theorem mv_Ta_passSign : Cond.instanceMethod (z_y m_Ta_passSign) ∈ z_tb := z_in3 (List.mem_of_getElem? (i := 203) rfl) rfl
theorem se_Ta_passSign : Cond.selects (z_y m_Ta_passSign).cls (z_y m_Ta_passSign) (z_y m_Ta_passSign) ∈ z_tb := z_in3 (List.mem_of_getElem? (i := 204) rfl) rfl
theorem mi_Ta_passNumber : z_mi m_Ta_passNumber 2 := ⟨cl_Ta.1, z_in3 (List.mem_of_getElem? (i := 196) rfl) rfl, z_in1 (List.mem_of_getElem? (i := 4) rfl) rfl, cl_Ta.2, by decide +kernel⟩
theorem mv_Ta_passNumber : Cond.instanceMethod (z_y m_Ta_passNumber) ∈ z_tb := z_in3 (List.mem_of_getElem? (i := 194) rfl) rfl
theorem se_Ta_passNumber : Cond.selects (z_y m_Ta_passNumber).cls (z_y m_Ta_passNumber) (z_y m_Ta_passNumber) ∈ z_tb := z_in3 (List.mem_of_getElem? (i := 195) rfl) rfl
theorem mi_Ta_sortOfSign : z_mi m_Ta_sortOfSign 1 := ⟨cl_Ta.1, z_in3 (List.mem_of_getElem? (i := 122) rfl) rfl, z_in1 (List.mem_of_getElem? (i := 4) rfl) rfl, cl_Ta.2, by decide +kernel⟩
theorem ms_Ta_sortOfSign : Cond.static (z_y m_Ta_sortOfSign) ∈ z_tb := z_in3 (List.mem_of_getElem? (i := 121) rfl) rfl
theorem mi_Tr_init : z_mi m_Tr_init 0 := ⟨cl_Tr.1, z_in1 (List.mem_of_getElem? (i := 32) rfl) rfl, z_in1 (List.mem_of_getElem? (i := 2) rfl) rfl, cl_Tr.2, by decide +kernel⟩
theorem mv_Tr_init : Cond.instanceMethod (z_y m_Tr_init) ∈ z_tb := z_in1 (List.mem_of_getElem? (i := 31) rfl) rfl
theorem mi_Tr_isTray : z_mi m_Tr_isTray 1 := ⟨cl_Tr.1, z_in3 (List.mem_of_getElem? (i := 19) rfl) rfl, z_in1 (List.mem_of_getElem? (i := 2) rfl) rfl, cl_Tr.2, by decide +kernel⟩
theorem mv_Tr_isTray : Cond.instanceMethod (z_y m_Tr_isTray) ∈ z_tb := z_in3 (List.mem_of_getElem? (i := 17) rfl) rfl
theorem se_Tr_isTray : Cond.selects (z_y m_Tr_isTray).cls (z_y m_Tr_isTray) (z_y m_Tr_isTray) ∈ z_tb := z_in3 (List.mem_of_getElem? (i := 18) rfl) rfl
theorem mi_Tr_isSort : z_mi m_Tr_isSort 1 := ⟨cl_Tr.1, z_in3 (List.mem_of_getElem? (i := 23) rfl) rfl, z_in1 (List.mem_of_getElem? (i := 2) rfl) rfl, cl_Tr.2, by decide +kernel⟩
theorem mv_Tr_isSort : Cond.instanceMethod (z_y m_Tr_isSort) ∈ z_tb := z_in3 (List.mem_of_getElem? (i := 21) rfl) rfl
theorem se_Tr_isSort : Cond.selects (z_y m_Tr_isSort).cls (z_y m_Tr_isSort) (z_y m_Tr_isSort) ∈ z_tb := z_in3 (List.mem_of_getElem? (i := 22) rfl) rfl
theorem mi_Tr_isMissing : z_mi m_Tr_isMissing 1 := ⟨cl_Tr.1, z_in3 (List.mem_of_getElem? (i := 48) rfl) rfl, z_in1 (List.mem_of_getElem? (i := 2) rfl) rfl, cl_Tr.2, by decide +kernel⟩
theorem mv_Tr_isMissing : Cond.instanceMethod (z_y m_Tr_isMissing) ∈ z_tb := z_in3 (List.mem_of_getElem? (i := 46) rfl) rfl
theorem se_Tr_isMissing : Cond.selects (z_y m_Tr_isMissing).cls (z_y m_Tr_isMissing) (z_y m_Tr_isMissing) ∈ z_tb := z_in3 (List.mem_of_getElem? (i := 47) rfl) rfl
theorem mi_Tr_sortOf : z_mi m_Tr_sortOf 1 := ⟨cl_Tr.1, z_in3 (List.mem_of_getElem? (i := 81) rfl) rfl, z_in1 (List.mem_of_getElem? (i := 2) rfl) rfl, cl_Tr.2, by decide +kernel⟩
theorem mv_Tr_sortOf : Cond.instanceMethod (z_y m_Tr_sortOf) ∈ z_tb := z_in3 (List.mem_of_getElem? (i := 79) rfl) rfl
theorem se_Tr_sortOf : Cond.selects (z_y m_Tr_sortOf).cls (z_y m_Tr_sortOf) (z_y m_Tr_sortOf) ∈ z_tb := z_in3 (List.mem_of_getElem? (i := 80) rfl) rfl
theorem mi_Tr_hasRoom : z_mi m_Tr_hasRoom 3 := ⟨cl_Tr.1, z_in3 (List.mem_of_getElem? (i := 52) rfl) rfl, z_in1 (List.mem_of_getElem? (i := 2) rfl) rfl, cl_Tr.2, by decide +kernel⟩
theorem mv_Tr_hasRoom : Cond.instanceMethod (z_y m_Tr_hasRoom) ∈ z_tb := z_in3 (List.mem_of_getElem? (i := 50) rfl) rfl
theorem se_Tr_hasRoom : Cond.selects (z_y m_Tr_hasRoom).cls (z_y m_Tr_hasRoom) (z_y m_Tr_hasRoom) ∈ z_tb := z_in3 (List.mem_of_getElem? (i := 51) rfl) rfl
theorem mi_Tr_lay : z_mi m_Tr_lay 3 := ⟨cl_Tr.1, z_in3 (List.mem_of_getElem? (i := 31) rfl) rfl, z_in1 (List.mem_of_getElem? (i := 2) rfl) rfl, cl_Tr.2, by decide +kernel⟩
theorem mv_Tr_lay : Cond.instanceMethod (z_y m_Tr_lay) ∈ z_tb := z_in3 (List.mem_of_getElem? (i := 29) rfl) rfl
theorem se_Tr_lay : Cond.selects (z_y m_Tr_lay).cls (z_y m_Tr_lay) (z_y m_Tr_lay) ∈ z_tb := z_in3 (List.mem_of_getElem? (i := 30) rfl) rfl
theorem mi_Tr_put : z_mi m_Tr_put 3 := ⟨cl_Tr.1, z_in3 (List.mem_of_getElem? (i := 57) rfl) rfl, z_in1 (List.mem_of_getElem? (i := 2) rfl) rfl, cl_Tr.2, by decide +kernel⟩
theorem mv_Tr_put : Cond.instanceMethod (z_y m_Tr_put) ∈ z_tb := z_in3 (List.mem_of_getElem? (i := 55) rfl) rfl
theorem se_Tr_put : Cond.selects (z_y m_Tr_put).cls (z_y m_Tr_put) (z_y m_Tr_put) ∈ z_tb := z_in3 (List.mem_of_getElem? (i := 56) rfl) rfl
theorem mi_Tr_look : z_mi m_Tr_look 2 := ⟨cl_Tr.1, z_in3 (List.mem_of_getElem? (i := 73) rfl) rfl, z_in1 (List.mem_of_getElem? (i := 2) rfl) rfl, cl_Tr.2, by decide +kernel⟩
theorem mv_Tr_look : Cond.instanceMethod (z_y m_Tr_look) ∈ z_tb := z_in3 (List.mem_of_getElem? (i := 71) rfl) rfl
theorem se_Tr_look : Cond.selects (z_y m_Tr_look).cls (z_y m_Tr_look) (z_y m_Tr_look) ∈ z_tb := z_in3 (List.mem_of_getElem? (i := 72) rfl) rfl
theorem mi_Tr_move : z_mi m_Tr_move 5 := ⟨cl_Tr.1, z_in3 (List.mem_of_getElem? (i := 85) rfl) rfl, z_in1 (List.mem_of_getElem? (i := 2) rfl) rfl, cl_Tr.2, by decide +kernel⟩
theorem mv_Tr_move : Cond.instanceMethod (z_y m_Tr_move) ∈ z_tb := z_in3 (List.mem_of_getElem? (i := 83) rfl) rfl
theorem se_Tr_move : Cond.selects (z_y m_Tr_move).cls (z_y m_Tr_move) (z_y m_Tr_move) ∈ z_tb := z_in3 (List.mem_of_getElem? (i := 84) rfl) rfl
theorem mi_Tr_cut : z_mi m_Tr_cut 2 := ⟨cl_Tr.1, z_in3 (List.mem_of_getElem? (i := 61) rfl) rfl, z_in1 (List.mem_of_getElem? (i := 2) rfl) rfl, cl_Tr.2, by decide +kernel⟩
theorem ms_Tr_cut : Cond.static (z_y m_Tr_cut) ∈ z_tb := z_in3 (List.mem_of_getElem? (i := 60) rfl) rfl
theorem mi_Vi_init : z_mi m_Vi_init 0 := ⟨cl_Vi.1, z_in2 (List.mem_of_getElem? (i := 28) rfl) rfl, z_in1 (List.mem_of_getElem? (i := 10) rfl) rfl, cl_Vi.2, by decide +kernel⟩
theorem mv_Vi_init : Cond.instanceMethod (z_y m_Vi_init) ∈ z_tb := z_in2 (List.mem_of_getElem? (i := 27) rfl) rfl
theorem mi_Vi_copyFrom : z_mi m_Vi_copyFrom 1 := ⟨cl_Vi.1, z_in4 (List.mem_of_getElem? (i := 51) rfl) rfl, z_in1 (List.mem_of_getElem? (i := 10) rfl) rfl, cl_Vi.2, by decide +kernel⟩
theorem mv_Vi_copyFrom : Cond.instanceMethod (z_y m_Vi_copyFrom) ∈ z_tb := z_in4 (List.mem_of_getElem? (i := 49) rfl) rfl
theorem se_Vi_copyFrom : Cond.selects (z_y m_Vi_copyFrom).cls (z_y m_Vi_copyFrom) (z_y m_Vi_copyFrom) ∈ z_tb := z_in4 (List.mem_of_getElem? (i := 50) rfl) rfl
theorem mi_Vi_startAt : z_mi m_Vi_startAt 1 := ⟨cl_Vi.1, z_in2 (List.mem_of_getElem? (i := 88) rfl) rfl, z_in1 (List.mem_of_getElem? (i := 10) rfl) rfl, cl_Vi.2, by decide +kernel⟩
theorem mv_Vi_startAt : Cond.instanceMethod (z_y m_Vi_startAt) ∈ z_tb := z_in2 (List.mem_of_getElem? (i := 86) rfl) rfl
theorem se_Vi_startAt : Cond.selects (z_y m_Vi_startAt).cls (z_y m_Vi_startAt) (z_y m_Vi_startAt) ∈ z_tb := z_in2 (List.mem_of_getElem? (i := 87) rfl) rfl
theorem mi_Vi_enter : z_mi m_Vi_enter 1 := ⟨cl_Vi.1, z_in2 (List.mem_of_getElem? (i := 92) rfl) rfl, z_in1 (List.mem_of_getElem? (i := 10) rfl) rfl, cl_Vi.2, by decide +kernel⟩
theorem mv_Vi_enter : Cond.instanceMethod (z_y m_Vi_enter) ∈ z_tb := z_in2 (List.mem_of_getElem? (i := 90) rfl) rfl
theorem se_Vi_enter : Cond.selects (z_y m_Vi_enter).cls (z_y m_Vi_enter) (z_y m_Vi_enter) ∈ z_tb := z_in2 (List.mem_of_getElem? (i := 91) rfl) rfl
theorem mi_Vi_holds : z_mi m_Vi_holds 2 := ⟨cl_Vi.1, z_in5 (List.mem_of_getElem? (i := 147) rfl) rfl, z_in1 (List.mem_of_getElem? (i := 10) rfl) rfl, cl_Vi.2, by decide +kernel⟩
theorem mv_Vi_holds : Cond.instanceMethod (z_y m_Vi_holds) ∈ z_tb := z_in5 (List.mem_of_getElem? (i := 145) rfl) rfl
theorem se_Vi_holds : Cond.selects (z_y m_Vi_holds).cls (z_y m_Vi_holds) (z_y m_Vi_holds) ∈ z_tb := z_in5 (List.mem_of_getElem? (i := 146) rfl) rfl
theorem mi_Vi_keyOf : z_mi m_Vi_keyOf 2 := ⟨cl_Vi.1, z_in2 (List.mem_of_getElem? (i := 103) rfl) rfl, z_in1 (List.mem_of_getElem? (i := 10) rfl) rfl, cl_Vi.2, by decide +kernel⟩
theorem ms_Vi_keyOf : Cond.static (z_y m_Vi_keyOf) ∈ z_tb := z_in2 (List.mem_of_getElem? (i := 102) rfl) rfl
theorem mi_Vi_placeOf : z_mi m_Vi_placeOf 1 := ⟨cl_Vi.1, z_in2 (List.mem_of_getElem? (i := 107) rfl) rfl, z_in1 (List.mem_of_getElem? (i := 10) rfl) rfl, cl_Vi.2, by decide +kernel⟩
theorem mv_Vi_placeOf : Cond.instanceMethod (z_y m_Vi_placeOf) ∈ z_tb := z_in2 (List.mem_of_getElem? (i := 106) rfl) rfl
theorem se_Vi_placeOf : Cond.selects (z_y m_Vi_placeOf).cls (z_y m_Vi_placeOf) (z_y m_Vi_placeOf) ∈ z_tb := z_inp (List.mem_of_getElem? (i := 0) rfl) rfl
theorem mi_Wk_init : z_mi m_Wk_init 0 := ⟨cl_Wk.1, z_in2 (List.mem_of_getElem? (i := 152) rfl) rfl, z_in1 (List.mem_of_getElem? (i := 12) rfl) rfl, cl_Wk.2, by decide +kernel⟩
theorem mv_Wk_init : Cond.instanceMethod (z_y m_Wk_init) ∈ z_tb := z_in2 (List.mem_of_getElem? (i := 151) rfl) rfl
theorem mi_Wk_tour : z_mi m_Wk_tour 2 := ⟨cl_Wk.1, z_in6 (List.mem_of_getElem? (i := 27) rfl) rfl, z_in1 (List.mem_of_getElem? (i := 12) rfl) rfl, cl_Wk.2, by decide +kernel⟩
theorem mv_Wk_tour : Cond.instanceMethod (z_y m_Wk_tour) ∈ z_tb := z_in6 (List.mem_of_getElem? (i := 25) rfl) rfl
theorem se_Wk_tour : Cond.selects (z_y m_Wk_tour).cls (z_y m_Wk_tour) (z_y m_Wk_tour) ∈ z_tb := z_in6 (List.mem_of_getElem? (i := 26) rfl) rfl
theorem mi_Wk_lineBehindEnd : z_mi m_Wk_lineBehindEnd 2 := ⟨cl_Wk.1, z_in6 (List.mem_of_getElem? (i := 32) rfl) rfl, z_in1 (List.mem_of_getElem? (i := 12) rfl) rfl, cl_Wk.2, by decide +kernel⟩
theorem mv_Wk_lineBehindEnd : Cond.instanceMethod (z_y m_Wk_lineBehindEnd) ∈ z_tb := z_in6 (List.mem_of_getElem? (i := 31) rfl) rfl
theorem se_Wk_lineBehindEnd : Cond.selects (z_y m_Wk_lineBehindEnd).cls (z_y m_Wk_lineBehindEnd) (z_y m_Wk_lineBehindEnd) ∈ z_tb := z_inp (List.mem_of_getElem? (i := 28) rfl) rfl
theorem mi_Wk_lineBehindStep : z_mi m_Wk_lineBehindStep 2 := ⟨cl_Wk.1, z_in6 (List.mem_of_getElem? (i := 36) rfl) rfl, z_in1 (List.mem_of_getElem? (i := 12) rfl) rfl, cl_Wk.2, by decide +kernel⟩
theorem mv_Wk_lineBehindStep : Cond.instanceMethod (z_y m_Wk_lineBehindStep) ∈ z_tb := z_in6 (List.mem_of_getElem? (i := 35) rfl) rfl
theorem se_Wk_lineBehindStep : Cond.selects (z_y m_Wk_lineBehindStep).cls (z_y m_Wk_lineBehindStep) (z_y m_Wk_lineBehindStep) ∈ z_tb := z_inp (List.mem_of_getElem? (i := 29) rfl) rfl
theorem mi_Wk_holds : z_mi m_Wk_holds 2 := ⟨cl_Wk.1, z_in6 (List.mem_of_getElem? (i := 39) rfl) rfl, z_in1 (List.mem_of_getElem? (i := 12) rfl) rfl, cl_Wk.2, by decide +kernel⟩
theorem ms_Wk_holds : Cond.static (z_y m_Wk_holds) ∈ z_tb := z_in6 (List.mem_of_getElem? (i := 38) rfl) rfl
theorem mi_Wk_compares : z_mi m_Wk_compares 3 := ⟨cl_Wk.1, z_in6 (List.mem_of_getElem? (i := 51) rfl) rfl, z_in1 (List.mem_of_getElem? (i := 12) rfl) rfl, cl_Wk.2, by decide +kernel⟩
theorem ms_Wk_compares : Cond.static (z_y m_Wk_compares) ∈ z_tb := z_in6 (List.mem_of_getElem? (i := 50) rfl) rfl
theorem mi_Wk_act : z_mi m_Wk_act 3 := ⟨cl_Wk.1, z_in6 (List.mem_of_getElem? (i := 55) rfl) rfl, z_in1 (List.mem_of_getElem? (i := 12) rfl) rfl, cl_Wk.2, by decide +kernel⟩
theorem mv_Wk_act : Cond.instanceMethod (z_y m_Wk_act) ∈ z_tb := z_in6 (List.mem_of_getElem? (i := 54) rfl) rfl
theorem se_Wk_act : Cond.selects (z_y m_Wk_act).cls (z_y m_Wk_act) (z_y m_Wk_act) ∈ z_tb := z_inp (List.mem_of_getElem? (i := 30) rfl) rfl
theorem mi_Wk_moves : z_mi m_Wk_moves 1 := ⟨cl_Wk.1, z_in6 (List.mem_of_getElem? (i := 60) rfl) rfl, z_in1 (List.mem_of_getElem? (i := 12) rfl) rfl, cl_Wk.2, by decide +kernel⟩
theorem mv_Wk_moves : Cond.instanceMethod (z_y m_Wk_moves) ∈ z_tb := z_in6 (List.mem_of_getElem? (i := 59) rfl) rfl
theorem se_Wk_moves : Cond.selects (z_y m_Wk_moves).cls (z_y m_Wk_moves) (z_y m_Wk_moves) ∈ z_tb := z_inp (List.mem_of_getElem? (i := 31) rfl) rfl
theorem mi_Wk_pins : z_mi m_Wk_pins 2 := ⟨cl_Wk.1, z_in6 (List.mem_of_getElem? (i := 66) rfl) rfl, z_in1 (List.mem_of_getElem? (i := 12) rfl) rfl, cl_Wk.2, by decide +kernel⟩
theorem mv_Wk_pins : Cond.instanceMethod (z_y m_Wk_pins) ∈ z_tb := z_in6 (List.mem_of_getElem? (i := 65) rfl) rfl
theorem se_Wk_pins : Cond.selects (z_y m_Wk_pins).cls (z_y m_Wk_pins) (z_y m_Wk_pins) ∈ z_tb := z_inp (List.mem_of_getElem? (i := 32) rfl) rfl
theorem mi_Wk_lifts : z_mi m_Wk_lifts 1 := ⟨cl_Wk.1, z_in6 (List.mem_of_getElem? (i := 72) rfl) rfl, z_in1 (List.mem_of_getElem? (i := 12) rfl) rfl, cl_Wk.2, by decide +kernel⟩
theorem mv_Wk_lifts : Cond.instanceMethod (z_y m_Wk_lifts) ∈ z_tb := z_in6 (List.mem_of_getElem? (i := 71) rfl) rfl
theorem se_Wk_lifts : Cond.selects (z_y m_Wk_lifts).cls (z_y m_Wk_lifts) (z_y m_Wk_lifts) ∈ z_tb := z_inp (List.mem_of_getElem? (i := 33) rfl) rfl
theorem mi_Wk_orders : z_mi m_Wk_orders 2 := ⟨cl_Wk.1, z_in6 (List.mem_of_getElem? (i := 76) rfl) rfl, z_in1 (List.mem_of_getElem? (i := 12) rfl) rfl, cl_Wk.2, by decide +kernel⟩
theorem ms_Wk_orders : Cond.static (z_y m_Wk_orders) ∈ z_tb := z_in6 (List.mem_of_getElem? (i := 75) rfl) rfl
theorem mi_Wk_wanders : z_mi m_Wk_wanders 1 := ⟨cl_Wk.1, z_in6 (List.mem_of_getElem? (i := 80) rfl) rfl, z_in1 (List.mem_of_getElem? (i := 12) rfl) rfl, cl_Wk.2, by decide +kernel⟩
theorem mv_Wk_wanders : Cond.instanceMethod (z_y m_Wk_wanders) ∈ z_tb := z_in6 (List.mem_of_getElem? (i := 79) rfl) rfl
theorem se_Wk_wanders : Cond.selects (z_y m_Wk_wanders).cls (z_y m_Wk_wanders) (z_y m_Wk_wanders) ∈ z_tb := z_inp (List.mem_of_getElem? (i := 34) rfl) rfl
theorem mi_Wk_draw : z_mi m_Wk_draw 1 := ⟨cl_Wk.1, z_in6 (List.mem_of_getElem? (i := 84) rfl) rfl, z_in1 (List.mem_of_getElem? (i := 12) rfl) rfl, cl_Wk.2, by decide +kernel⟩
theorem mv_Wk_draw : Cond.instanceMethod (z_y m_Wk_draw) ∈ z_tb := z_in6 (List.mem_of_getElem? (i := 83) rfl) rfl
theorem se_Wk_draw : Cond.selects (z_y m_Wk_draw).cls (z_y m_Wk_draw) (z_y m_Wk_draw) ∈ z_tb := z_inp (List.mem_of_getElem? (i := 35) rfl) rfl
theorem mi_F_init : z_mi m_F_init 0 := ⟨cl_F.1, z_in1 (List.mem_of_getElem? (i := 24) rfl) rfl, z_in1 (List.mem_of_getElem? (i := 1) rfl) rfl, cl_F.2, by decide +kernel⟩
theorem mv_F_init : Cond.instanceMethod (z_y m_F_init) ∈ z_tb := z_in1 (List.mem_of_getElem? (i := 23) rfl) rfl
theorem mi_F_status : z_mi m_F_status 0 := ⟨cl_F.1, z_in3 (List.mem_of_getElem? (i := 3) rfl) rfl, z_in1 (List.mem_of_getElem? (i := 1) rfl) rfl, cl_F.2, by decide +kernel⟩
theorem mv_F_status : Cond.instanceMethod (z_y m_F_status) ∈ z_tb := z_in3 (List.mem_of_getElem? (i := 1) rfl) rfl
theorem se_F_status : Cond.selects (z_y m_F_status).cls (z_y m_F_status) (z_y m_F_status) ∈ z_tb := z_in3 (List.mem_of_getElem? (i := 2) rfl) rfl
theorem mi_F_top : z_mi m_F_top 0 := ⟨cl_F.1, z_in3 (List.mem_of_getElem? (i := 7) rfl) rfl, z_in1 (List.mem_of_getElem? (i := 1) rfl) rfl, cl_F.2, by decide +kernel⟩
theorem mv_F_top : Cond.instanceMethod (z_y m_F_top) ∈ z_tb := z_in3 (List.mem_of_getElem? (i := 5) rfl) rfl
theorem se_F_top : Cond.selects (z_y m_F_top).cls (z_y m_F_top) (z_y m_F_top) ∈ z_tb := z_in3 (List.mem_of_getElem? (i := 6) rfl) rfl
theorem mi_F_bottom : z_mi m_F_bottom 0 := ⟨cl_F.1, z_in3 (List.mem_of_getElem? (i := 11) rfl) rfl, z_in1 (List.mem_of_getElem? (i := 1) rfl) rfl, cl_F.2, by decide +kernel⟩
theorem mv_F_bottom : Cond.instanceMethod (z_y m_F_bottom) ∈ z_tb := z_in3 (List.mem_of_getElem? (i := 9) rfl) rfl
theorem se_F_bottom : Cond.selects (z_y m_F_bottom).cls (z_y m_F_bottom) (z_y m_F_bottom) ∈ z_tb := z_in3 (List.mem_of_getElem? (i := 10) rfl) rfl
theorem mi_F_tray : z_mi m_F_tray 3 := ⟨cl_F.1, z_in3 (List.mem_of_getElem? (i := 15) rfl) rfl, z_in1 (List.mem_of_getElem? (i := 1) rfl) rfl, cl_F.2, by decide +kernel⟩
theorem mv_F_tray : Cond.instanceMethod (z_y m_F_tray) ∈ z_tb := z_in3 (List.mem_of_getElem? (i := 13) rfl) rfl
theorem se_F_tray : Cond.selects (z_y m_F_tray).cls (z_y m_F_tray) (z_y m_F_tray) ∈ z_tb := z_in3 (List.mem_of_getElem? (i := 14) rfl) rfl
theorem mi_F_write : z_mi m_F_write 3 := ⟨cl_F.1, z_in3 (List.mem_of_getElem? (i := 40) rfl) rfl, z_in1 (List.mem_of_getElem? (i := 1) rfl) rfl, cl_F.2, by decide +kernel⟩
theorem mv_F_write : Cond.instanceMethod (z_y m_F_write) ∈ z_tb := z_in3 (List.mem_of_getElem? (i := 38) rfl) rfl
theorem se_F_write : Cond.selects (z_y m_F_write).cls (z_y m_F_write) (z_y m_F_write) ∈ z_tb := z_in3 (List.mem_of_getElem? (i := 39) rfl) rfl
theorem mi_F_read : z_mi m_F_read 2 := ⟨cl_F.1, z_in3 (List.mem_of_getElem? (i := 65) rfl) rfl, z_in1 (List.mem_of_getElem? (i := 1) rfl) rfl, cl_F.2, by decide +kernel⟩
theorem mv_F_read : Cond.instanceMethod (z_y m_F_read) ∈ z_tb := z_in3 (List.mem_of_getElem? (i := 63) rfl) rfl
theorem se_F_read : Cond.selects (z_y m_F_read).cls (z_y m_F_read) (z_y m_F_read) ∈ z_tb := z_in3 (List.mem_of_getElem? (i := 64) rfl) rfl
theorem mi_F_pour : z_mi m_F_pour 5 := ⟨cl_F.1, z_in3 (List.mem_of_getElem? (i := 77) rfl) rfl, z_in1 (List.mem_of_getElem? (i := 1) rfl) rfl, cl_F.2, by decide +kernel⟩
theorem mv_F_pour : Cond.instanceMethod (z_y m_F_pour) ∈ z_tb := z_in3 (List.mem_of_getElem? (i := 75) rfl) rfl
theorem se_F_pour : Cond.selects (z_y m_F_pour).cls (z_y m_F_pour) (z_y m_F_pour) ∈ z_tb := z_in3 (List.mem_of_getElem? (i := 76) rfl) rfl
theorem mi_F_whyNoPlace : z_mi m_F_whyNoPlace 2 := ⟨cl_F.1, z_in3 (List.mem_of_getElem? (i := 44) rfl) rfl, z_in1 (List.mem_of_getElem? (i := 1) rfl) rfl, cl_F.2, by decide +kernel⟩
theorem mv_F_whyNoPlace : Cond.instanceMethod (z_y m_F_whyNoPlace) ∈ z_tb := z_in3 (List.mem_of_getElem? (i := 43) rfl) rfl
theorem se_F_whyNoPlace : Cond.selects (z_y m_F_whyNoPlace).cls (z_y m_F_whyNoPlace) (z_y m_F_whyNoPlace) ∈ z_tb := z_inp (List.mem_of_getElem? (i := 3) rfl) rfl
theorem mi_F_feed : z_mi m_F_feed 5 := ⟨cl_F.1, z_in3 (List.mem_of_getElem? (i := 92) rfl) rfl, z_in1 (List.mem_of_getElem? (i := 1) rfl) rfl, cl_F.2, by decide +kernel⟩
theorem mv_F_feed : Cond.instanceMethod (z_y m_F_feed) ∈ z_tb := z_in3 (List.mem_of_getElem? (i := 90) rfl) rfl
theorem se_F_feed : Cond.selects (z_y m_F_feed).cls (z_y m_F_feed) (z_y m_F_feed) ∈ z_tb := z_in3 (List.mem_of_getElem? (i := 91) rfl) rfl
theorem mi_F_study : z_mi m_F_study 1 := ⟨cl_F.1, z_in3 (List.mem_of_getElem? (i := 100) rfl) rfl, z_in1 (List.mem_of_getElem? (i := 1) rfl) rfl, cl_F.2, by decide +kernel⟩
theorem mv_F_study : Cond.instanceMethod (z_y m_F_study) ∈ z_tb := z_in3 (List.mem_of_getElem? (i := 98) rfl) rfl
theorem se_F_study : Cond.selects (z_y m_F_study).cls (z_y m_F_study) (z_y m_F_study) ∈ z_tb := z_in3 (List.mem_of_getElem? (i := 99) rfl) rfl
theorem mi_F_tours : z_mi m_F_tours 1 := ⟨cl_F.1, z_in4 (List.mem_of_getElem? (i := 66) rfl) rfl, z_in1 (List.mem_of_getElem? (i := 1) rfl) rfl, cl_F.2, by decide +kernel⟩
theorem mv_F_tours : Cond.instanceMethod (z_y m_F_tours) ∈ z_tb := z_in4 (List.mem_of_getElem? (i := 64) rfl) rfl
theorem se_F_tours : Cond.selects (z_y m_F_tours).cls (z_y m_F_tours) (z_y m_F_tours) ∈ z_tb := z_in4 (List.mem_of_getElem? (i := 65) rfl) rfl
theorem mi_F_noteFault : z_mi m_F_noteFault 0 := ⟨cl_F.1, z_in4 (List.mem_of_getElem? (i := 34) rfl) rfl, z_in1 (List.mem_of_getElem? (i := 1) rfl) rfl, cl_F.2, by decide +kernel⟩
theorem mv_F_noteFault : Cond.instanceMethod (z_y m_F_noteFault) ∈ z_tb := z_in4 (List.mem_of_getElem? (i := 33) rfl) rfl
theorem se_F_noteFault : Cond.selects (z_y m_F_noteFault).cls (z_y m_F_noteFault) (z_y m_F_noteFault) ∈ z_tb := z_inp (List.mem_of_getElem? (i := 12) rfl) rfl
theorem mi_F_fault : z_mi m_F_fault 1 := ⟨cl_F.1, z_in4 (List.mem_of_getElem? (i := 132) rfl) rfl, z_in1 (List.mem_of_getElem? (i := 1) rfl) rfl, cl_F.2, by decide +kernel⟩
theorem mv_F_fault : Cond.instanceMethod (z_y m_F_fault) ∈ z_tb := z_in4 (List.mem_of_getElem? (i := 130) rfl) rfl
theorem se_F_fault : Cond.selects (z_y m_F_fault).cls (z_y m_F_fault) (z_y m_F_fault) ∈ z_tb := z_in4 (List.mem_of_getElem? (i := 131) rfl) rfl
theorem mi_F_told : z_mi m_F_told 1 := ⟨cl_F.1, z_in4 (List.mem_of_getElem? (i := 136) rfl) rfl, z_in1 (List.mem_of_getElem? (i := 1) rfl) rfl, cl_F.2, by decide +kernel⟩
theorem mv_F_told : Cond.instanceMethod (z_y m_F_told) ∈ z_tb := z_in4 (List.mem_of_getElem? (i := 134) rfl) rfl
theorem se_F_told : Cond.selects (z_y m_F_told).cls (z_y m_F_told) (z_y m_F_told) ∈ z_tb := z_in4 (List.mem_of_getElem? (i := 135) rfl) rfl
theorem mi_F_size : z_mi m_F_size 1 := ⟨cl_F.1, z_in4 (List.mem_of_getElem? (i := 157) rfl) rfl, z_in1 (List.mem_of_getElem? (i := 1) rfl) rfl, cl_F.2, by decide +kernel⟩
theorem mv_F_size : Cond.instanceMethod (z_y m_F_size) ∈ z_tb := z_in4 (List.mem_of_getElem? (i := 155) rfl) rfl
theorem se_F_size : Cond.selects (z_y m_F_size).cls (z_y m_F_size) (z_y m_F_size) ∈ z_tb := z_in4 (List.mem_of_getElem? (i := 156) rfl) rfl
theorem mi_F_fraction : z_mi m_F_fraction 1 := ⟨cl_F.1, z_in4 (List.mem_of_getElem? (i := 161) rfl) rfl, z_in1 (List.mem_of_getElem? (i := 1) rfl) rfl, cl_F.2, by decide +kernel⟩
theorem mv_F_fraction : Cond.instanceMethod (z_y m_F_fraction) ∈ z_tb := z_in4 (List.mem_of_getElem? (i := 159) rfl) rfl
theorem se_F_fraction : Cond.selects (z_y m_F_fraction).cls (z_y m_F_fraction) (z_y m_F_fraction) ∈ z_tb := z_in4 (List.mem_of_getElem? (i := 160) rfl) rfl
theorem mi_F_place : z_mi m_F_place 2 := ⟨cl_F.1, z_in4 (List.mem_of_getElem? (i := 194) rfl) rfl, z_in1 (List.mem_of_getElem? (i := 1) rfl) rfl, cl_F.2, by decide +kernel⟩
theorem mv_F_place : Cond.instanceMethod (z_y m_F_place) ∈ z_tb := z_in4 (List.mem_of_getElem? (i := 192) rfl) rfl
theorem se_F_place : Cond.selects (z_y m_F_place).cls (z_y m_F_place) (z_y m_F_place) ∈ z_tb := z_in4 (List.mem_of_getElem? (i := 193) rfl) rfl
theorem mi_F_rank : z_mi m_F_rank 2 := ⟨cl_F.1, z_in4 (List.mem_of_getElem? (i := 207) rfl) rfl, z_in1 (List.mem_of_getElem? (i := 1) rfl) rfl, cl_F.2, by decide +kernel⟩
theorem mv_F_rank : Cond.instanceMethod (z_y m_F_rank) ∈ z_tb := z_in4 (List.mem_of_getElem? (i := 205) rfl) rfl
theorem se_F_rank : Cond.selects (z_y m_F_rank).cls (z_y m_F_rank) (z_y m_F_rank) ∈ z_tb := z_in4 (List.mem_of_getElem? (i := 206) rfl) rfl
theorem mi_F_below : z_mi m_F_below 2 := ⟨cl_F.1, z_in4 (List.mem_of_getElem? (i := 211) rfl) rfl, z_in1 (List.mem_of_getElem? (i := 1) rfl) rfl, cl_F.2, by decide +kernel⟩
theorem mv_F_below : Cond.instanceMethod (z_y m_F_below) ∈ z_tb := z_in4 (List.mem_of_getElem? (i := 209) rfl) rfl
theorem se_F_below : Cond.selects (z_y m_F_below).cls (z_y m_F_below) (z_y m_F_below) ∈ z_tb := z_in4 (List.mem_of_getElem? (i := 210) rfl) rfl
theorem mi_F_above : z_mi m_F_above 2 := ⟨cl_F.1, z_in4 (List.mem_of_getElem? (i := 216) rfl) rfl, z_in1 (List.mem_of_getElem? (i := 1) rfl) rfl, cl_F.2, by decide +kernel⟩
theorem mv_F_above : Cond.instanceMethod (z_y m_F_above) ∈ z_tb := z_in4 (List.mem_of_getElem? (i := 214) rfl) rfl
theorem se_F_above : Cond.selects (z_y m_F_above).cls (z_y m_F_above) (z_y m_F_above) ∈ z_tb := z_in4 (List.mem_of_getElem? (i := 215) rfl) rfl
theorem mi_F_ahead : z_mi m_F_ahead 2 := ⟨cl_F.1, z_in4 (List.mem_of_getElem? (i := 221) rfl) rfl, z_in1 (List.mem_of_getElem? (i := 1) rfl) rfl, cl_F.2, by decide +kernel⟩
theorem mv_F_ahead : Cond.instanceMethod (z_y m_F_ahead) ∈ z_tb := z_in4 (List.mem_of_getElem? (i := 219) rfl) rfl
theorem se_F_ahead : Cond.selects (z_y m_F_ahead).cls (z_y m_F_ahead) (z_y m_F_ahead) ∈ z_tb := z_in4 (List.mem_of_getElem? (i := 220) rfl) rfl
theorem mi_F_nearest : z_mi m_F_nearest 2 := ⟨cl_F.1, z_in4 (List.mem_of_getElem? (i := 225) rfl) rfl, z_in1 (List.mem_of_getElem? (i := 1) rfl) rfl, cl_F.2, by decide +kernel⟩
theorem mv_F_nearest : Cond.instanceMethod (z_y m_F_nearest) ∈ z_tb := z_in4 (List.mem_of_getElem? (i := 223) rfl) rfl
theorem se_F_nearest : Cond.selects (z_y m_F_nearest).cls (z_y m_F_nearest) (z_y m_F_nearest) ∈ z_tb := z_in4 (List.mem_of_getElem? (i := 224) rfl) rfl
theorem mi_F_between : z_mi m_F_between 4 := ⟨cl_F.1, z_in4 (List.mem_of_getElem? (i := 230) rfl) rfl, z_in1 (List.mem_of_getElem? (i := 1) rfl) rfl, cl_F.2, by decide +kernel⟩
theorem mv_F_between : Cond.instanceMethod (z_y m_F_between) ∈ z_tb := z_in4 (List.mem_of_getElem? (i := 228) rfl) rfl
theorem se_F_between : Cond.selects (z_y m_F_between).cls (z_y m_F_between) (z_y m_F_between) ∈ z_tb := z_in4 (List.mem_of_getElem? (i := 229) rfl) rfl
theorem mi_F_coprimes : z_mi m_F_coprimes 2 := ⟨cl_F.1, z_in5 (List.mem_of_getElem? (i := 4) rfl) rfl, z_in1 (List.mem_of_getElem? (i := 1) rfl) rfl, cl_F.2, by decide +kernel⟩
theorem mv_F_coprimes : Cond.instanceMethod (z_y m_F_coprimes) ∈ z_tb := z_in5 (List.mem_of_getElem? (i := 2) rfl) rfl
theorem se_F_coprimes : Cond.selects (z_y m_F_coprimes).cls (z_y m_F_coprimes) (z_y m_F_coprimes) ∈ z_tb := z_in5 (List.mem_of_getElem? (i := 3) rfl) rfl
theorem mi_F_simplest : z_mi m_F_simplest 4 := ⟨cl_F.1, z_in5 (List.mem_of_getElem? (i := 9) rfl) rfl, z_in1 (List.mem_of_getElem? (i := 1) rfl) rfl, cl_F.2, by decide +kernel⟩
theorem mv_F_simplest : Cond.instanceMethod (z_y m_F_simplest) ∈ z_tb := z_in5 (List.mem_of_getElem? (i := 7) rfl) rfl
theorem se_F_simplest : Cond.selects (z_y m_F_simplest).cls (z_y m_F_simplest) (z_y m_F_simplest) ∈ z_tb := z_in5 (List.mem_of_getElem? (i := 8) rfl) rfl
theorem mi_F_wide : z_mi m_F_wide 4 := ⟨cl_F.1, z_in5 (List.mem_of_getElem? (i := 21) rfl) rfl, z_in1 (List.mem_of_getElem? (i := 1) rfl) rfl, cl_F.2, by decide +kernel⟩
theorem mv_F_wide : Cond.instanceMethod (z_y m_F_wide) ∈ z_tb := z_in5 (List.mem_of_getElem? (i := 19) rfl) rfl
theorem se_F_wide : Cond.selects (z_y m_F_wide).cls (z_y m_F_wide) (z_y m_F_wide) ∈ z_tb := z_in5 (List.mem_of_getElem? (i := 20) rfl) rfl
theorem mi_F_takeRising : z_mi m_F_takeRising 4 := ⟨cl_F.1, z_in4 (List.mem_of_getElem? (i := 234) rfl) rfl, z_in1 (List.mem_of_getElem? (i := 1) rfl) rfl, cl_F.2, by decide +kernel⟩
theorem mv_F_takeRising : Cond.instanceMethod (z_y m_F_takeRising) ∈ z_tb := z_in4 (List.mem_of_getElem? (i := 233) rfl) rfl
theorem se_F_takeRising : Cond.selects (z_y m_F_takeRising).cls (z_y m_F_takeRising) (z_y m_F_takeRising) ∈ z_tb := z_inp (List.mem_of_getElem? (i := 23) rfl) rfl
theorem mi_F_depth : z_mi m_F_depth 2 := ⟨cl_F.1, z_in5 (List.mem_of_getElem? (i := 25) rfl) rfl, z_in1 (List.mem_of_getElem? (i := 1) rfl) rfl, cl_F.2, by decide +kernel⟩
theorem mv_F_depth : Cond.instanceMethod (z_y m_F_depth) ∈ z_tb := z_in5 (List.mem_of_getElem? (i := 23) rfl) rfl
theorem se_F_depth : Cond.selects (z_y m_F_depth).cls (z_y m_F_depth) (z_y m_F_depth) ∈ z_tb := z_in5 (List.mem_of_getElem? (i := 24) rfl) rfl
theorem mi_F_turnAt : z_mi m_F_turnAt 3 := ⟨cl_F.1, z_in5 (List.mem_of_getElem? (i := 35) rfl) rfl, z_in1 (List.mem_of_getElem? (i := 1) rfl) rfl, cl_F.2, by decide +kernel⟩
theorem mv_F_turnAt : Cond.instanceMethod (z_y m_F_turnAt) ∈ z_tb := z_in5 (List.mem_of_getElem? (i := 33) rfl) rfl
theorem se_F_turnAt : Cond.selects (z_y m_F_turnAt).cls (z_y m_F_turnAt) (z_y m_F_turnAt) ∈ z_tb := z_in5 (List.mem_of_getElem? (i := 34) rfl) rfl
theorem mi_F_parent : z_mi m_F_parent 2 := ⟨cl_F.1, z_in5 (List.mem_of_getElem? (i := 47) rfl) rfl, z_in1 (List.mem_of_getElem? (i := 1) rfl) rfl, cl_F.2, by decide +kernel⟩
theorem mv_F_parent : Cond.instanceMethod (z_y m_F_parent) ∈ z_tb := z_in5 (List.mem_of_getElem? (i := 45) rfl) rfl
theorem se_F_parent : Cond.selects (z_y m_F_parent).cls (z_y m_F_parent) (z_y m_F_parent) ∈ z_tb := z_in5 (List.mem_of_getElem? (i := 46) rfl) rfl
theorem mi_F_follow : z_mi m_F_follow 2 := ⟨cl_F.1, z_in5 (List.mem_of_getElem? (i := 56) rfl) rfl, z_in1 (List.mem_of_getElem? (i := 1) rfl) rfl, cl_F.2, by decide +kernel⟩
theorem mv_F_follow : Cond.instanceMethod (z_y m_F_follow) ∈ z_tb := z_in5 (List.mem_of_getElem? (i := 54) rfl) rfl
theorem se_F_follow : Cond.selects (z_y m_F_follow).cls (z_y m_F_follow) (z_y m_F_follow) ∈ z_tb := z_in5 (List.mem_of_getElem? (i := 55) rfl) rfl
theorem mi_F_terms : z_mi m_F_terms 2 := ⟨cl_F.1, z_in5 (List.mem_of_getElem? (i := 65) rfl) rfl, z_in1 (List.mem_of_getElem? (i := 1) rfl) rfl, cl_F.2, by decide +kernel⟩
theorem mv_F_terms : Cond.instanceMethod (z_y m_F_terms) ∈ z_tb := z_in5 (List.mem_of_getElem? (i := 63) rfl) rfl
theorem se_F_terms : Cond.selects (z_y m_F_terms).cls (z_y m_F_terms) (z_y m_F_terms) ∈ z_tb := z_in5 (List.mem_of_getElem? (i := 64) rfl) rfl
theorem mi_F_termAt : z_mi m_F_termAt 3 := ⟨cl_F.1, z_in5 (List.mem_of_getElem? (i := 69) rfl) rfl, z_in1 (List.mem_of_getElem? (i := 1) rfl) rfl, cl_F.2, by decide +kernel⟩
theorem mv_F_termAt : Cond.instanceMethod (z_y m_F_termAt) ∈ z_tb := z_in5 (List.mem_of_getElem? (i := 67) rfl) rfl
theorem se_F_termAt : Cond.selects (z_y m_F_termAt).cls (z_y m_F_termAt) (z_y m_F_termAt) ∈ z_tb := z_in5 (List.mem_of_getElem? (i := 68) rfl) rfl
theorem mi_F_digits : z_mi m_F_digits 3 := ⟨cl_F.1, z_in5 (List.mem_of_getElem? (i := 74) rfl) rfl, z_in1 (List.mem_of_getElem? (i := 1) rfl) rfl, cl_F.2, by decide +kernel⟩
theorem mv_F_digits : Cond.instanceMethod (z_y m_F_digits) ∈ z_tb := z_in5 (List.mem_of_getElem? (i := 72) rfl) rfl
theorem se_F_digits : Cond.selects (z_y m_F_digits).cls (z_y m_F_digits) (z_y m_F_digits) ∈ z_tb := z_in5 (List.mem_of_getElem? (i := 73) rfl) rfl
theorem mi_F_digitAt : z_mi m_F_digitAt 3 := ⟨cl_F.1, z_in5 (List.mem_of_getElem? (i := 88) rfl) rfl, z_in1 (List.mem_of_getElem? (i := 1) rfl) rfl, cl_F.2, by decide +kernel⟩
theorem mv_F_digitAt : Cond.instanceMethod (z_y m_F_digitAt) ∈ z_tb := z_in5 (List.mem_of_getElem? (i := 86) rfl) rfl
theorem se_F_digitAt : Cond.selects (z_y m_F_digitAt).cls (z_y m_F_digitAt) (z_y m_F_digitAt) ∈ z_tb := z_in5 (List.mem_of_getElem? (i := 87) rfl) rfl
theorem mi_F_whyNotOfTree : z_mi m_F_whyNotOfTree 2 := ⟨cl_F.1, z_in5 (List.mem_of_getElem? (i := 29) rfl) rfl, z_in1 (List.mem_of_getElem? (i := 1) rfl) rfl, cl_F.2, by decide +kernel⟩
theorem mv_F_whyNotOfTree : Cond.instanceMethod (z_y m_F_whyNotOfTree) ∈ z_tb := z_in5 (List.mem_of_getElem? (i := 28) rfl) rfl
theorem se_F_whyNotOfTree : Cond.selects (z_y m_F_whyNotOfTree).cls (z_y m_F_whyNotOfTree) (z_y m_F_whyNotOfTree) ∈ z_tb := z_inp (List.mem_of_getElem? (i := 24) rfl) rfl
theorem mi_F_timesWithin : z_mi m_F_timesWithin 2 := ⟨cl_F.1, z_in5 (List.mem_of_getElem? (i := 77) rfl) rfl, z_in1 (List.mem_of_getElem? (i := 1) rfl) rfl, cl_F.2, by decide +kernel⟩
theorem ms_F_timesWithin : Cond.static (z_y m_F_timesWithin) ∈ z_tb := z_in5 (List.mem_of_getElem? (i := 76) rfl) rfl
theorem mi_F_without : z_mi m_F_without 3 := ⟨cl_F.1, z_in5 (List.mem_of_getElem? (i := 81) rfl) rfl, z_in1 (List.mem_of_getElem? (i := 1) rfl) rfl, cl_F.2, by decide +kernel⟩
theorem ms_F_without : Cond.static (z_y m_F_without) ∈ z_tb := z_in5 (List.mem_of_getElem? (i := 80) rfl) rfl
theorem mi_F_periodOf : z_mi m_F_periodOf 1 := ⟨cl_F.1, z_in5 (List.mem_of_getElem? (i := 84) rfl) rfl, z_in1 (List.mem_of_getElem? (i := 1) rfl) rfl, cl_F.2, by decide +kernel⟩
theorem ms_F_periodOf : Cond.static (z_y m_F_periodOf) ∈ z_tb := z_in5 (List.mem_of_getElem? (i := 83) rfl) rfl
theorem mi_F_restOf : z_mi m_F_restOf 3 := ⟨cl_F.1, z_in5 (List.mem_of_getElem? (i := 91) rfl) rfl, z_in1 (List.mem_of_getElem? (i := 1) rfl) rfl, cl_F.2, by decide +kernel⟩
theorem ms_F_restOf : Cond.static (z_y m_F_restOf) ∈ z_tb := z_in5 (List.mem_of_getElem? (i := 90) rfl) rfl
theorem mi_F_here : z_mi m_F_here 0 := ⟨cl_F.1, z_in5 (List.mem_of_getElem? (i := 95) rfl) rfl, z_in1 (List.mem_of_getElem? (i := 1) rfl) rfl, cl_F.2, by decide +kernel⟩
theorem mv_F_here : Cond.instanceMethod (z_y m_F_here) ∈ z_tb := z_in5 (List.mem_of_getElem? (i := 93) rfl) rfl
theorem se_F_here : Cond.selects (z_y m_F_here).cls (z_y m_F_here) (z_y m_F_here) ∈ z_tb := z_in5 (List.mem_of_getElem? (i := 94) rfl) rfl
theorem mi_F_go : z_mi m_F_go 1 := ⟨cl_F.1, z_in5 (List.mem_of_getElem? (i := 99) rfl) rfl, z_in1 (List.mem_of_getElem? (i := 1) rfl) rfl, cl_F.2, by decide +kernel⟩
theorem mv_F_go : Cond.instanceMethod (z_y m_F_go) ∈ z_tb := z_in5 (List.mem_of_getElem? (i := 97) rfl) rfl
theorem se_F_go : Cond.selects (z_y m_F_go).cls (z_y m_F_go) (z_y m_F_go) ∈ z_tb := z_in5 (List.mem_of_getElem? (i := 98) rfl) rfl
theorem mi_F_up : z_mi m_F_up 0 := ⟨cl_F.1, z_in5 (List.mem_of_getElem? (i := 113) rfl) rfl, z_in1 (List.mem_of_getElem? (i := 1) rfl) rfl, cl_F.2, by decide +kernel⟩
theorem mv_F_up : Cond.instanceMethod (z_y m_F_up) ∈ z_tb := z_in5 (List.mem_of_getElem? (i := 111) rfl) rfl
theorem se_F_up : Cond.selects (z_y m_F_up).cls (z_y m_F_up) (z_y m_F_up) ∈ z_tb := z_in5 (List.mem_of_getElem? (i := 112) rfl) rfl
theorem mi_F_flip : z_mi m_F_flip 0 := ⟨cl_F.1, z_in5 (List.mem_of_getElem? (i := 122) rfl) rfl, z_in1 (List.mem_of_getElem? (i := 1) rfl) rfl, cl_F.2, by decide +kernel⟩
theorem mv_F_flip : Cond.instanceMethod (z_y m_F_flip) ∈ z_tb := z_in5 (List.mem_of_getElem? (i := 120) rfl) rfl
theorem se_F_flip : Cond.selects (z_y m_F_flip).cls (z_y m_F_flip) (z_y m_F_flip) ∈ z_tb := z_in5 (List.mem_of_getElem? (i := 121) rfl) rfl
theorem mi_F_jump : z_mi m_F_jump 2 := ⟨cl_F.1, z_in5 (List.mem_of_getElem? (i := 134) rfl) rfl, z_in1 (List.mem_of_getElem? (i := 1) rfl) rfl, cl_F.2, by decide +kernel⟩
theorem mv_F_jump : Cond.instanceMethod (z_y m_F_jump) ∈ z_tb := z_in5 (List.mem_of_getElem? (i := 132) rfl) rfl
theorem se_F_jump : Cond.selects (z_y m_F_jump).cls (z_y m_F_jump) (z_y m_F_jump) ∈ z_tb := z_in5 (List.mem_of_getElem? (i := 133) rfl) rfl
theorem mi_F_wasAt : z_mi m_F_wasAt 2 := ⟨cl_F.1, z_in5 (List.mem_of_getElem? (i := 143) rfl) rfl, z_in1 (List.mem_of_getElem? (i := 1) rfl) rfl, cl_F.2, by decide +kernel⟩
theorem mv_F_wasAt : Cond.instanceMethod (z_y m_F_wasAt) ∈ z_tb := z_in5 (List.mem_of_getElem? (i := 141) rfl) rfl
theorem se_F_wasAt : Cond.selects (z_y m_F_wasAt).cls (z_y m_F_wasAt) (z_y m_F_wasAt) ∈ z_tb := z_in5 (List.mem_of_getElem? (i := 142) rfl) rfl
theorem mi_F_rule : z_mi m_F_rule 2 := ⟨cl_F.1, z_in5 (List.mem_of_getElem? (i := 151) rfl) rfl, z_in1 (List.mem_of_getElem? (i := 1) rfl) rfl, cl_F.2, by decide +kernel⟩
theorem mv_F_rule : Cond.instanceMethod (z_y m_F_rule) ∈ z_tb := z_in5 (List.mem_of_getElem? (i := 149) rfl) rfl
theorem se_F_rule : Cond.selects (z_y m_F_rule).cls (z_y m_F_rule) (z_y m_F_rule) ∈ z_tb := z_in5 (List.mem_of_getElem? (i := 150) rfl) rfl
theorem mi_F_pin : z_mi m_F_pin 3 := ⟨cl_F.1, z_in5 (List.mem_of_getElem? (i := 155) rfl) rfl, z_in1 (List.mem_of_getElem? (i := 1) rfl) rfl, cl_F.2, by decide +kernel⟩
theorem mv_F_pin : Cond.instanceMethod (z_y m_F_pin) ∈ z_tb := z_in5 (List.mem_of_getElem? (i := 153) rfl) rfl
theorem se_F_pin : Cond.selects (z_y m_F_pin).cls (z_y m_F_pin) (z_y m_F_pin) ∈ z_tb := z_in5 (List.mem_of_getElem? (i := 154) rfl) rfl
theorem mi_F_lift : z_mi m_F_lift 2 := ⟨cl_F.1, z_in5 (List.mem_of_getElem? (i := 164) rfl) rfl, z_in1 (List.mem_of_getElem? (i := 1) rfl) rfl, cl_F.2, by decide +kernel⟩
theorem mv_F_lift : Cond.instanceMethod (z_y m_F_lift) ∈ z_tb := z_in5 (List.mem_of_getElem? (i := 162) rfl) rfl
theorem se_F_lift : Cond.selects (z_y m_F_lift).cls (z_y m_F_lift) (z_y m_F_lift) ∈ z_tb := z_in5 (List.mem_of_getElem? (i := 163) rfl) rfl
theorem mi_F_weight : z_mi m_F_weight 2 := ⟨cl_F.1, z_in5 (List.mem_of_getElem? (i := 173) rfl) rfl, z_in1 (List.mem_of_getElem? (i := 1) rfl) rfl, cl_F.2, by decide +kernel⟩
theorem mv_F_weight : Cond.instanceMethod (z_y m_F_weight) ∈ z_tb := z_in5 (List.mem_of_getElem? (i := 171) rfl) rfl
theorem se_F_weight : Cond.selects (z_y m_F_weight).cls (z_y m_F_weight) (z_y m_F_weight) ∈ z_tb := z_in5 (List.mem_of_getElem? (i := 172) rfl) rfl
theorem mi_F_pinAt : z_mi m_F_pinAt 1 := ⟨cl_F.1, z_in5 (List.mem_of_getElem? (i := 177) rfl) rfl, z_in1 (List.mem_of_getElem? (i := 1) rfl) rfl, cl_F.2, by decide +kernel⟩
theorem mv_F_pinAt : Cond.instanceMethod (z_y m_F_pinAt) ∈ z_tb := z_in5 (List.mem_of_getElem? (i := 175) rfl) rfl
theorem se_F_pinAt : Cond.selects (z_y m_F_pinAt).cls (z_y m_F_pinAt) (z_y m_F_pinAt) ∈ z_tb := z_in5 (List.mem_of_getElem? (i := 176) rfl) rfl
theorem mi_F_risingAt : z_mi m_F_risingAt 1 := ⟨cl_F.1, z_in5 (List.mem_of_getElem? (i := 185) rfl) rfl, z_in1 (List.mem_of_getElem? (i := 1) rfl) rfl, cl_F.2, by decide +kernel⟩
theorem mv_F_risingAt : Cond.instanceMethod (z_y m_F_risingAt) ∈ z_tb := z_in5 (List.mem_of_getElem? (i := 183) rfl) rfl
theorem se_F_risingAt : Cond.selects (z_y m_F_risingAt).cls (z_y m_F_risingAt) (z_y m_F_risingAt) ∈ z_tb := z_in5 (List.mem_of_getElem? (i := 184) rfl) rfl
theorem mi_F_heaviest : z_mi m_F_heaviest 0 := ⟨cl_F.1, z_in5 (List.mem_of_getElem? (i := 201) rfl) rfl, z_in1 (List.mem_of_getElem? (i := 1) rfl) rfl, cl_F.2, by decide +kernel⟩
theorem mv_F_heaviest : Cond.instanceMethod (z_y m_F_heaviest) ∈ z_tb := z_in5 (List.mem_of_getElem? (i := 199) rfl) rfl
theorem se_F_heaviest : Cond.selects (z_y m_F_heaviest).cls (z_y m_F_heaviest) (z_y m_F_heaviest) ∈ z_tb := z_in5 (List.mem_of_getElem? (i := 200) rfl) rfl
theorem mi_F_middle : z_mi m_F_middle 0 := ⟨cl_F.1, z_in5 (List.mem_of_getElem? (i := 209) rfl) rfl, z_in1 (List.mem_of_getElem? (i := 1) rfl) rfl, cl_F.2, by decide +kernel⟩
theorem mv_F_middle : Cond.instanceMethod (z_y m_F_middle) ∈ z_tb := z_in5 (List.mem_of_getElem? (i := 207) rfl) rfl
theorem se_F_middle : Cond.selects (z_y m_F_middle).cls (z_y m_F_middle) (z_y m_F_middle) ∈ z_tb := z_in5 (List.mem_of_getElem? (i := 208) rfl) rfl
theorem mi_F_gap : z_mi m_F_gap 0 := ⟨cl_F.1, z_in5 (List.mem_of_getElem? (i := 218) rfl) rfl, z_in1 (List.mem_of_getElem? (i := 1) rfl) rfl, cl_F.2, by decide +kernel⟩
theorem mv_F_gap : Cond.instanceMethod (z_y m_F_gap) ∈ z_tb := z_in5 (List.mem_of_getElem? (i := 216) rfl) rfl
theorem se_F_gap : Cond.selects (z_y m_F_gap).cls (z_y m_F_gap) (z_y m_F_gap) ∈ z_tb := z_in5 (List.mem_of_getElem? (i := 217) rfl) rfl
theorem mi_F_share : z_mi m_F_share 2 := ⟨cl_F.1, z_in5 (List.mem_of_getElem? (i := 222) rfl) rfl, z_in1 (List.mem_of_getElem? (i := 1) rfl) rfl, cl_F.2, by decide +kernel⟩
theorem mv_F_share : Cond.instanceMethod (z_y m_F_share) ∈ z_tb := z_in5 (List.mem_of_getElem? (i := 220) rfl) rfl
theorem se_F_share : Cond.selects (z_y m_F_share).cls (z_y m_F_share) (z_y m_F_share) ∈ z_tb := z_in5 (List.mem_of_getElem? (i := 221) rfl) rfl
theorem mi_F_pinsOfRow : z_mi m_F_pinsOfRow 0 := ⟨cl_F.1, z_in5 (List.mem_of_getElem? (i := 227) rfl) rfl, z_in1 (List.mem_of_getElem? (i := 1) rfl) rfl, cl_F.2, by decide +kernel⟩
theorem mv_F_pinsOfRow : Cond.instanceMethod (z_y m_F_pinsOfRow) ∈ z_tb := z_in5 (List.mem_of_getElem? (i := 225) rfl) rfl
theorem se_F_pinsOfRow : Cond.selects (z_y m_F_pinsOfRow).cls (z_y m_F_pinsOfRow) (z_y m_F_pinsOfRow) ∈ z_tb := z_in5 (List.mem_of_getElem? (i := 226) rfl) rfl
theorem mi_F_copyPins : z_mi m_F_copyPins 1 := ⟨cl_F.1, z_in5 (List.mem_of_getElem? (i := 235) rfl) rfl, z_in1 (List.mem_of_getElem? (i := 1) rfl) rfl, cl_F.2, by decide +kernel⟩
theorem mv_F_copyPins : Cond.instanceMethod (z_y m_F_copyPins) ∈ z_tb := z_in5 (List.mem_of_getElem? (i := 233) rfl) rfl
theorem se_F_copyPins : Cond.selects (z_y m_F_copyPins).cls (z_y m_F_copyPins) (z_y m_F_copyPins) ∈ z_tb := z_in5 (List.mem_of_getElem? (i := 234) rfl) rfl
theorem mi_F_tellPin : z_mi m_F_tellPin 1 := ⟨cl_F.1, z_in5 (List.mem_of_getElem? (i := 181) rfl) rfl, z_in1 (List.mem_of_getElem? (i := 1) rfl) rfl, cl_F.2, by decide +kernel⟩
theorem mv_F_tellPin : Cond.instanceMethod (z_y m_F_tellPin) ∈ z_tb := z_in5 (List.mem_of_getElem? (i := 180) rfl) rfl
theorem se_F_tellPin : Cond.selects (z_y m_F_tellPin).cls (z_y m_F_tellPin) (z_y m_F_tellPin) ∈ z_tb := z_inp (List.mem_of_getElem? (i := 25) rfl) rfl
theorem mi_F_game : z_mi m_F_game 3 := ⟨cl_F.1, z_in5 (List.mem_of_getElem? (i := 239) rfl) rfl, z_in1 (List.mem_of_getElem? (i := 1) rfl) rfl, cl_F.2, by decide +kernel⟩
theorem mv_F_game : Cond.instanceMethod (z_y m_F_game) ∈ z_tb := z_in5 (List.mem_of_getElem? (i := 237) rfl) rfl
theorem se_F_game : Cond.selects (z_y m_F_game).cls (z_y m_F_game) (z_y m_F_game) ∈ z_tb := z_in5 (List.mem_of_getElem? (i := 238) rfl) rfl
theorem mi_F_moveOf : z_mi m_F_moveOf 3 := ⟨cl_F.1, z_in6 (List.mem_of_getElem? (i := 7) rfl) rfl, z_in1 (List.mem_of_getElem? (i := 1) rfl) rfl, cl_F.2, by decide +kernel⟩
theorem mv_F_moveOf : Cond.instanceMethod (z_y m_F_moveOf) ∈ z_tb := z_in6 (List.mem_of_getElem? (i := 5) rfl) rfl
theorem se_F_moveOf : Cond.selects (z_y m_F_moveOf).cls (z_y m_F_moveOf) (z_y m_F_moveOf) ∈ z_tb := z_in6 (List.mem_of_getElem? (i := 6) rfl) rfl
theorem mi_F_playOut : z_mi m_F_playOut 4 := ⟨cl_F.1, z_in6 (List.mem_of_getElem? (i := 2) rfl) rfl, z_in1 (List.mem_of_getElem? (i := 1) rfl) rfl, cl_F.2, by decide +kernel⟩
theorem ms_F_playOut : Cond.static (z_y m_F_playOut) ∈ z_tb := z_in6 (List.mem_of_getElem? (i := 1) rfl) rfl
theorem mi_F_wrong : z_mi m_F_wrong 2 := ⟨cl_F.1, z_in6 (List.mem_of_getElem? (i := 11) rfl) rfl, z_in1 (List.mem_of_getElem? (i := 1) rfl) rfl, cl_F.2, by decide +kernel⟩
theorem mv_F_wrong : Cond.instanceMethod (z_y m_F_wrong) ∈ z_tb := z_in6 (List.mem_of_getElem? (i := 9) rfl) rfl
theorem se_F_wrong : Cond.selects (z_y m_F_wrong).cls (z_y m_F_wrong) (z_y m_F_wrong) ∈ z_tb := z_in6 (List.mem_of_getElem? (i := 10) rfl) rfl
theorem mi_F_power : z_mi m_F_power 2 := ⟨cl_F.1, z_in6 (List.mem_of_getElem? (i := 14) rfl) rfl, z_in1 (List.mem_of_getElem? (i := 1) rfl) rfl, cl_F.2, by decide +kernel⟩
theorem ms_F_power : Cond.static (z_y m_F_power) ∈ z_tb := z_in6 (List.mem_of_getElem? (i := 13) rfl) rfl
theorem mi_F_part : z_mi m_F_part 1 := ⟨cl_F.1, z_in6 (List.mem_of_getElem? (i := 19) rfl) rfl, z_in1 (List.mem_of_getElem? (i := 1) rfl) rfl, cl_F.2, by decide +kernel⟩
theorem mv_F_part : Cond.instanceMethod (z_y m_F_part) ∈ z_tb := z_in6 (List.mem_of_getElem? (i := 17) rfl) rfl
theorem se_F_part : Cond.selects (z_y m_F_part).cls (z_y m_F_part) (z_y m_F_part) ∈ z_tb := z_in6 (List.mem_of_getElem? (i := 18) rfl) rfl
theorem mi_F_live : z_mi m_F_live 1 := ⟨cl_F.1, z_in6 (List.mem_of_getElem? (i := 23) rfl) rfl, z_in1 (List.mem_of_getElem? (i := 1) rfl) rfl, cl_F.2, by decide +kernel⟩
theorem mv_F_live : Cond.instanceMethod (z_y m_F_live) ∈ z_tb := z_in6 (List.mem_of_getElem? (i := 21) rfl) rfl
theorem se_F_live : Cond.selects (z_y m_F_live).cls (z_y m_F_live) (z_y m_F_live) ∈ z_tb := z_in6 (List.mem_of_getElem? (i := 22) rfl) rfl
theorem mi_F_lived : z_mi m_F_lived 1 := ⟨cl_F.1, z_in6 (List.mem_of_getElem? (i := 89) rfl) rfl, z_in1 (List.mem_of_getElem? (i := 1) rfl) rfl, cl_F.2, by decide +kernel⟩
theorem mv_F_lived : Cond.instanceMethod (z_y m_F_lived) ∈ z_tb := z_in6 (List.mem_of_getElem? (i := 87) rfl) rfl
theorem se_F_lived : Cond.selects (z_y m_F_lived).cls (z_y m_F_lived) (z_y m_F_lived) ∈ z_tb := z_in6 (List.mem_of_getElem? (i := 88) rfl) rfl
theorem mi_F_mean : z_mi m_F_mean 2 := ⟨cl_F.1, z_in6 (List.mem_of_getElem? (i := 93) rfl) rfl, z_in1 (List.mem_of_getElem? (i := 1) rfl) rfl, cl_F.2, by decide +kernel⟩
theorem mv_F_mean : Cond.instanceMethod (z_y m_F_mean) ∈ z_tb := z_in6 (List.mem_of_getElem? (i := 91) rfl) rfl
theorem se_F_mean : Cond.selects (z_y m_F_mean).cls (z_y m_F_mean) (z_y m_F_mean) ∈ z_tb := z_in6 (List.mem_of_getElem? (i := 92) rfl) rfl
theorem mi_F_mark : z_mi m_F_mark 0 := ⟨cl_F.1, z_in6 (List.mem_of_getElem? (i := 97) rfl) rfl, z_in1 (List.mem_of_getElem? (i := 1) rfl) rfl, cl_F.2, by decide +kernel⟩
theorem mv_F_mark : Cond.instanceMethod (z_y m_F_mark) ∈ z_tb := z_in6 (List.mem_of_getElem? (i := 95) rfl) rfl
theorem se_F_mark : Cond.selects (z_y m_F_mark).cls (z_y m_F_mark) (z_y m_F_mark) ∈ z_tb := z_in6 (List.mem_of_getElem? (i := 96) rfl) rfl
theorem mi_F_undo : z_mi m_F_undo 0 := ⟨cl_F.1, z_in6 (List.mem_of_getElem? (i := 101) rfl) rfl, z_in1 (List.mem_of_getElem? (i := 1) rfl) rfl, cl_F.2, by decide +kernel⟩
theorem mv_F_undo : Cond.instanceMethod (z_y m_F_undo) ∈ z_tb := z_in6 (List.mem_of_getElem? (i := 99) rfl) rfl
theorem se_F_undo : Cond.selects (z_y m_F_undo).cls (z_y m_F_undo) (z_y m_F_undo) ∈ z_tb := z_in6 (List.mem_of_getElem? (i := 100) rfl) rfl
theorem mi_F_give : z_mi m_F_give 1 := ⟨cl_F.1, z_in4 (List.mem_of_getElem? (i := 61) rfl) rfl, z_in1 (List.mem_of_getElem? (i := 1) rfl) rfl, cl_F.2, by decide +kernel⟩
theorem mv_F_give : Cond.instanceMethod (z_y m_F_give) ∈ z_tb := z_in4 (List.mem_of_getElem? (i := 60) rfl) rfl
theorem se_F_give : Cond.selects (z_y m_F_give).cls (z_y m_F_give) (z_y m_F_give) ∈ z_tb := z_inp (List.mem_of_getElem? (i := 13) rfl) rfl
theorem mi_F_none : z_mi m_F_none 1 := ⟨cl_F.1, z_in3 (List.mem_of_getElem? (i := 69) rfl) rfl, z_in1 (List.mem_of_getElem? (i := 1) rfl) rfl, cl_F.2, by decide +kernel⟩
theorem mv_F_none : Cond.instanceMethod (z_y m_F_none) ∈ z_tb := z_in3 (List.mem_of_getElem? (i := 68) rfl) rfl
theorem se_F_none : Cond.selects (z_y m_F_none).cls (z_y m_F_none) (z_y m_F_none) ∈ z_tb := z_inp (List.mem_of_getElem? (i := 4) rfl) rfl
theorem mi_F_accept : z_mi m_F_accept 0 := ⟨cl_F.1, z_in3 (List.mem_of_getElem? (i := 36) rfl) rfl, z_in1 (List.mem_of_getElem? (i := 1) rfl) rfl, cl_F.2, by decide +kernel⟩
theorem mv_F_accept : Cond.instanceMethod (z_y m_F_accept) ∈ z_tb := z_in3 (List.mem_of_getElem? (i := 35) rfl) rfl
theorem se_F_accept : Cond.selects (z_y m_F_accept).cls (z_y m_F_accept) (z_y m_F_accept) ∈ z_tb := z_inp (List.mem_of_getElem? (i := 2) rfl) rfl
theorem mi_F_refuse : z_mi m_F_refuse 1 := ⟨cl_F.1, z_in3 (List.mem_of_getElem? (i := 27) rfl) rfl, z_in1 (List.mem_of_getElem? (i := 1) rfl) rfl, cl_F.2, by decide +kernel⟩
theorem mv_F_refuse : Cond.instanceMethod (z_y m_F_refuse) ∈ z_tb := z_in3 (List.mem_of_getElem? (i := 26) rfl) rfl
theorem se_F_refuse : Cond.selects (z_y m_F_refuse).cls (z_y m_F_refuse) (z_y m_F_refuse) ∈ z_tb := z_inp (List.mem_of_getElem? (i := 1) rfl) rfl
theorem mi_F_tell : z_mi m_F_tell 2 := ⟨cl_F.1, z_in4 (List.mem_of_getElem? (i := 187) rfl) rfl, z_in1 (List.mem_of_getElem? (i := 1) rfl) rfl, cl_F.2, by decide +kernel⟩
theorem mv_F_tell : Cond.instanceMethod (z_y m_F_tell) ∈ z_tb := z_in4 (List.mem_of_getElem? (i := 186) rfl) rfl
theorem se_F_tell : Cond.selects (z_y m_F_tell).cls (z_y m_F_tell) (z_y m_F_tell) ∈ z_tb := z_inp (List.mem_of_getElem? (i := 22) rfl) rfl
theorem mi_F_divisorOf : z_mi m_F_divisorOf 2 := ⟨cl_F.1, z_in4 (List.mem_of_getElem? (i := 190) rfl) rfl, z_in1 (List.mem_of_getElem? (i := 1) rfl) rfl, cl_F.2, by decide +kernel⟩
theorem ms_F_divisorOf : Cond.static (z_y m_F_divisorOf) ∈ z_tb := z_in4 (List.mem_of_getElem? (i := 189) rfl) rfl
theorem mi_F_isValue : z_mi m_F_isValue 2 := ⟨cl_F.1, z_in4 (List.mem_of_getElem? (i := 201) rfl) rfl, z_in1 (List.mem_of_getElem? (i := 1) rfl) rfl, cl_F.2, by decide +kernel⟩
theorem ms_F_isValue : Cond.static (z_y m_F_isValue) ∈ z_tb := z_in4 (List.mem_of_getElem? (i := 200) rfl) rfl
theorem mi_F_cross : z_mi m_F_cross 4 := ⟨cl_F.1, z_in4 (List.mem_of_getElem? (i := 9) rfl) rfl, z_in1 (List.mem_of_getElem? (i := 1) rfl) rfl, cl_F.2, by decide +kernel⟩
theorem ms_F_cross : Cond.static (z_y m_F_cross) ∈ z_tb := z_in4 (List.mem_of_getElem? (i := 8) rfl) rfl
theorem mi_M_init : z_mi m_M_init 0 := ⟨cl_M.1, z_in6 (List.mem_of_getElem? (i := 106) rfl) rfl, z_in1 (List.mem_of_getElem? (i := 13) rfl) rfl, cl_M.2, by decide +kernel⟩
theorem mv_M_init : Cond.instanceMethod (z_y m_M_init) ∈ z_tb := z_in6 (List.mem_of_getElem? (i := 105) rfl) rfl
theorem mi_M_plain : z_mi m_M_plain 1 := ⟨cl_M.1, z_in6 (List.mem_of_getElem? (i := 111) rfl) rfl, z_in1 (List.mem_of_getElem? (i := 13) rfl) rfl, cl_M.2, by decide +kernel⟩
theorem mv_M_plain : Cond.instanceMethod (z_y m_M_plain) ∈ z_tb := z_in6 (List.mem_of_getElem? (i := 110) rfl) rfl
theorem se_M_plain : Cond.selects (z_y m_M_plain).cls (z_y m_M_plain) (z_y m_M_plain) ∈ z_tb := z_inp (List.mem_of_getElem? (i := 36) rfl) rfl
theorem mi_M_sees : z_mi m_M_sees 1 := ⟨cl_M.1, z_in6 (List.mem_of_getElem? (i := 115) rfl) rfl, z_in1 (List.mem_of_getElem? (i := 13) rfl) rfl, cl_M.2, by decide +kernel⟩
theorem mv_M_sees : Cond.instanceMethod (z_y m_M_sees) ∈ z_tb := z_in6 (List.mem_of_getElem? (i := 114) rfl) rfl
theorem se_M_sees : Cond.selects (z_y m_M_sees).cls (z_y m_M_sees) (z_y m_M_sees) ∈ z_tb := z_inp (List.mem_of_getElem? (i := 37) rfl) rfl
theorem mi_M_status : z_mi m_M_status 0 := ⟨cl_M.1, z_in7 (List.mem_of_getElem? (i := 6) rfl) rfl, z_in1 (List.mem_of_getElem? (i := 13) rfl) rfl, cl_M.2, by decide +kernel⟩
theorem mv_M_status : Cond.instanceMethod (z_y m_M_status) ∈ z_tb := z_in7 (List.mem_of_getElem? (i := 4) rfl) rfl
theorem se_M_status : Cond.selects (z_y m_M_status).cls (z_y m_M_status) (z_y m_M_status) ∈ z_tb := z_in7 (List.mem_of_getElem? (i := 5) rfl) rfl
theorem mi_M_top : z_mi m_M_top 0 := ⟨cl_M.1, z_in7 (List.mem_of_getElem? (i := 10) rfl) rfl, z_in1 (List.mem_of_getElem? (i := 13) rfl) rfl, cl_M.2, by decide +kernel⟩
theorem mv_M_top : Cond.instanceMethod (z_y m_M_top) ∈ z_tb := z_in7 (List.mem_of_getElem? (i := 8) rfl) rfl
theorem se_M_top : Cond.selects (z_y m_M_top).cls (z_y m_M_top) (z_y m_M_top) ∈ z_tb := z_in7 (List.mem_of_getElem? (i := 9) rfl) rfl
theorem mi_M_bottom : z_mi m_M_bottom 0 := ⟨cl_M.1, z_in7 (List.mem_of_getElem? (i := 14) rfl) rfl, z_in1 (List.mem_of_getElem? (i := 13) rfl) rfl, cl_M.2, by decide +kernel⟩
theorem mv_M_bottom : Cond.instanceMethod (z_y m_M_bottom) ∈ z_tb := z_in7 (List.mem_of_getElem? (i := 12) rfl) rfl
theorem se_M_bottom : Cond.selects (z_y m_M_bottom).cls (z_y m_M_bottom) (z_y m_M_bottom) ∈ z_tb := z_in7 (List.mem_of_getElem? (i := 13) rfl) rfl
theorem mi_M_is : z_mi m_M_is 1 := ⟨cl_M.1, z_in7 (List.mem_of_getElem? (i := 25) rfl) rfl, z_in1 (List.mem_of_getElem? (i := 13) rfl) rfl, cl_M.2, by decide +kernel⟩
theorem mv_M_is : Cond.instanceMethod (z_y m_M_is) ∈ z_tb := z_in7 (List.mem_of_getElem? (i := 24) rfl) rfl
theorem se_M_is : Cond.selects (z_y m_M_is).cls (z_y m_M_is) (z_y m_M_is) ∈ z_tb := z_inp (List.mem_of_getElem? (i := 38) rfl) rfl
theorem mi_M_refuse : z_mi m_M_refuse 1 := ⟨cl_M.1, z_in7 (List.mem_of_getElem? (i := 85) rfl) rfl, z_in1 (List.mem_of_getElem? (i := 13) rfl) rfl, cl_M.2, by decide +kernel⟩
theorem mv_M_refuse : Cond.instanceMethod (z_y m_M_refuse) ∈ z_tb := z_in7 (List.mem_of_getElem? (i := 84) rfl) rfl
theorem se_M_refuse : Cond.selects (z_y m_M_refuse).cls (z_y m_M_refuse) (z_y m_M_refuse) ∈ z_tb := z_inp (List.mem_of_getElem? (i := 44) rfl) rfl
theorem mi_M_gives : z_mi m_M_gives 1 := ⟨cl_M.1, z_in7 (List.mem_of_getElem? (i := 146) rfl) rfl, z_in1 (List.mem_of_getElem? (i := 13) rfl) rfl, cl_M.2, by decide +kernel⟩
theorem mv_M_gives : Cond.instanceMethod (z_y m_M_gives) ∈ z_tb := z_in7 (List.mem_of_getElem? (i := 145) rfl) rfl
theorem se_M_gives : Cond.selects (z_y m_M_gives).cls (z_y m_M_gives) (z_y m_M_gives) ∈ z_tb := z_inp (List.mem_of_getElem? (i := 57) rfl) rfl
theorem mi_M_orNone : z_mi m_M_orNone 1 := ⟨cl_M.1, z_in8 (List.mem_of_getElem? (i := 176) rfl) rfl, z_in1 (List.mem_of_getElem? (i := 13) rfl) rfl, cl_M.2, by decide +kernel⟩
theorem mv_M_orNone : Cond.instanceMethod (z_y m_M_orNone) ∈ z_tb := z_in8 (List.mem_of_getElem? (i := 175) rfl) rfl
theorem se_M_orNone : Cond.selects (z_y m_M_orNone).cls (z_y m_M_orNone) (z_y m_M_orNone) ∈ z_tb := z_inp (List.mem_of_getElem? (i := 87) rfl) rfl
theorem mi_M_tellsBy : z_mi m_M_tellsBy 2 := ⟨cl_M.1, z_in7 (List.mem_of_getElem? (i := 232) rfl) rfl, z_in1 (List.mem_of_getElem? (i := 13) rfl) rfl, cl_M.2, by decide +kernel⟩
theorem mv_M_tellsBy : Cond.instanceMethod (z_y m_M_tellsBy) ∈ z_tb := z_in7 (List.mem_of_getElem? (i := 231) rfl) rfl
theorem se_M_tellsBy : Cond.selects (z_y m_M_tellsBy).cls (z_y m_M_tellsBy) (z_y m_M_tellsBy) ∈ z_tb := z_inp (List.mem_of_getElem? (i := 72) rfl) rfl
theorem mi_M_isTray : z_mi m_M_isTray 1 := ⟨cl_M.1, z_in7 (List.mem_of_getElem? (i := 21) rfl) rfl, z_in1 (List.mem_of_getElem? (i := 13) rfl) rfl, cl_M.2, by decide +kernel⟩
theorem ms_M_isTray : Cond.static (z_y m_M_isTray) ∈ z_tb := z_in7 (List.mem_of_getElem? (i := 20) rfl) rfl
theorem mi_M_cut : z_mi m_M_cut 2 := ⟨cl_M.1, z_in7 (List.mem_of_getElem? (i := 36) rfl) rfl, z_in1 (List.mem_of_getElem? (i := 13) rfl) rfl, cl_M.2, by decide +kernel⟩
theorem ms_M_cut : Cond.static (z_y m_M_cut) ∈ z_tb := z_in7 (List.mem_of_getElem? (i := 35) rfl) rfl
theorem mi_M_tray : z_mi m_M_tray 3 := ⟨cl_M.1, z_in7 (List.mem_of_getElem? (i := 18) rfl) rfl, z_in1 (List.mem_of_getElem? (i := 13) rfl) rfl, cl_M.2, by decide +kernel⟩
theorem mv_M_tray : Cond.instanceMethod (z_y m_M_tray) ∈ z_tb := z_in7 (List.mem_of_getElem? (i := 16) rfl) rfl
theorem se_M_tray : Cond.selects (z_y m_M_tray).cls (z_y m_M_tray) (z_y m_M_tray) ∈ z_tb := z_in7 (List.mem_of_getElem? (i := 17) rfl) rfl
theorem mi_M_wrongPlace : z_mi m_M_wrongPlace 2 := ⟨cl_M.1, z_in7 (List.mem_of_getElem? (i := 33) rfl) rfl, z_in1 (List.mem_of_getElem? (i := 13) rfl) rfl, cl_M.2, by decide +kernel⟩
theorem mv_M_wrongPlace : Cond.instanceMethod (z_y m_M_wrongPlace) ∈ z_tb := z_in7 (List.mem_of_getElem? (i := 32) rfl) rfl
theorem se_M_wrongPlace : Cond.selects (z_y m_M_wrongPlace).cls (z_y m_M_wrongPlace) (z_y m_M_wrongPlace) ∈ z_tb := z_inp (List.mem_of_getElem? (i := 39) rfl) rfl
theorem mi_M_write : z_mi m_M_write 3 := ⟨cl_M.1, z_in7 (List.mem_of_getElem? (i := 29) rfl) rfl, z_in1 (List.mem_of_getElem? (i := 13) rfl) rfl, cl_M.2, by decide +kernel⟩
theorem mv_M_write : Cond.instanceMethod (z_y m_M_write) ∈ z_tb := z_in7 (List.mem_of_getElem? (i := 27) rfl) rfl
theorem se_M_write : Cond.selects (z_y m_M_write).cls (z_y m_M_write) (z_y m_M_write) ∈ z_tb := z_in7 (List.mem_of_getElem? (i := 28) rfl) rfl
theorem mi_M_read : z_mi m_M_read 2 := ⟨cl_M.1, z_in7 (List.mem_of_getElem? (i := 40) rfl) rfl, z_in1 (List.mem_of_getElem? (i := 13) rfl) rfl, cl_M.2, by decide +kernel⟩
theorem mv_M_read : Cond.instanceMethod (z_y m_M_read) ∈ z_tb := z_in7 (List.mem_of_getElem? (i := 38) rfl) rfl
theorem se_M_read : Cond.selects (z_y m_M_read).cls (z_y m_M_read) (z_y m_M_read) ∈ z_tb := z_in7 (List.mem_of_getElem? (i := 39) rfl) rfl
theorem mi_M_pour : z_mi m_M_pour 5 := ⟨cl_M.1, z_in7 (List.mem_of_getElem? (i := 45) rfl) rfl, z_in1 (List.mem_of_getElem? (i := 13) rfl) rfl, cl_M.2, by decide +kernel⟩
theorem mv_M_pour : Cond.instanceMethod (z_y m_M_pour) ∈ z_tb := z_in7 (List.mem_of_getElem? (i := 43) rfl) rfl
theorem se_M_pour : Cond.selects (z_y m_M_pour).cls (z_y m_M_pour) (z_y m_M_pour) ∈ z_tb := z_in7 (List.mem_of_getElem? (i := 44) rfl) rfl
theorem mi_M_isFrom : z_mi m_M_isFrom 3 := ⟨cl_M.1, z_in7 (List.mem_of_getElem? (i := 220) rfl) rfl, z_in1 (List.mem_of_getElem? (i := 13) rfl) rfl, cl_M.2, by decide +kernel⟩
theorem ms_M_isFrom : Cond.static (z_y m_M_isFrom) ∈ z_tb := z_in7 (List.mem_of_getElem? (i := 219) rfl) rfl
theorem mi_M_feed : z_mi m_M_feed 5 := ⟨cl_M.1, z_in7 (List.mem_of_getElem? (i := 49) rfl) rfl, z_in1 (List.mem_of_getElem? (i := 13) rfl) rfl, cl_M.2, by decide +kernel⟩
theorem mv_M_feed : Cond.instanceMethod (z_y m_M_feed) ∈ z_tb := z_in7 (List.mem_of_getElem? (i := 47) rfl) rfl
theorem se_M_feed : Cond.selects (z_y m_M_feed).cls (z_y m_M_feed) (z_y m_M_feed) ∈ z_tb := z_in7 (List.mem_of_getElem? (i := 48) rfl) rfl
theorem mi_M_four : z_mi m_M_four 1 := ⟨cl_M.1, z_in7 (List.mem_of_getElem? (i := 53) rfl) rfl, z_in1 (List.mem_of_getElem? (i := 13) rfl) rfl, cl_M.2, by decide +kernel⟩
theorem mv_M_four : Cond.instanceMethod (z_y m_M_four) ∈ z_tb := z_in7 (List.mem_of_getElem? (i := 52) rfl) rfl
theorem se_M_four : Cond.selects (z_y m_M_four).cls (z_y m_M_four) (z_y m_M_four) ∈ z_tb := z_inp (List.mem_of_getElem? (i := 40) rfl) rfl
theorem mi_M_byteAt : z_mi m_M_byteAt 1 := ⟨cl_M.1, z_in7 (List.mem_of_getElem? (i := 73) rfl) rfl, z_in1 (List.mem_of_getElem? (i := 13) rfl) rfl, cl_M.2, by decide +kernel⟩
theorem mv_M_byteAt : Cond.instanceMethod (z_y m_M_byteAt) ∈ z_tb := z_in7 (List.mem_of_getElem? (i := 72) rfl) rfl
theorem se_M_byteAt : Cond.selects (z_y m_M_byteAt).cls (z_y m_M_byteAt) (z_y m_M_byteAt) ∈ z_tb := z_inp (List.mem_of_getElem? (i := 43) rfl) rfl
theorem mi_M_isSmall : z_mi m_M_isSmall 1 := ⟨cl_M.1, z_in7 (List.mem_of_getElem? (i := 76) rfl) rfl, z_in1 (List.mem_of_getElem? (i := 13) rfl) rfl, cl_M.2, by decide +kernel⟩
theorem ms_M_isSmall : Cond.static (z_y m_M_isSmall) ∈ z_tb := z_in7 (List.mem_of_getElem? (i := 75) rfl) rfl
theorem mi_M_isDigit : z_mi m_M_isDigit 1 := ⟨cl_M.1, z_in7 (List.mem_of_getElem? (i := 79) rfl) rfl, z_in1 (List.mem_of_getElem? (i := 13) rfl) rfl, cl_M.2, by decide +kernel⟩
theorem ms_M_isDigit : Cond.static (z_y m_M_isDigit) ∈ z_tb := z_in7 (List.mem_of_getElem? (i := 78) rfl) rfl
theorem mi_M_nextToken : z_mi m_M_nextToken 0 := ⟨cl_M.1, z_in7 (List.mem_of_getElem? (i := 69) rfl) rfl, z_in1 (List.mem_of_getElem? (i := 13) rfl) rfl, cl_M.2, by decide +kernel⟩
theorem mv_M_nextToken : Cond.instanceMethod (z_y m_M_nextToken) ∈ z_tb := z_in7 (List.mem_of_getElem? (i := 68) rfl) rfl
theorem se_M_nextToken : Cond.selects (z_y m_M_nextToken).cls (z_y m_M_nextToken) (z_y m_M_nextToken) ∈ z_tb := z_inp (List.mem_of_getElem? (i := 42) rfl) rfl
theorem mi_M_isSign : z_mi m_M_isSign 1 := ⟨cl_M.1, z_in7 (List.mem_of_getElem? (i := 131) rfl) rfl, z_in1 (List.mem_of_getElem? (i := 13) rfl) rfl, cl_M.2, by decide +kernel⟩
theorem mv_M_isSign : Cond.instanceMethod (z_y m_M_isSign) ∈ z_tb := z_in7 (List.mem_of_getElem? (i := 130) rfl) rfl
theorem se_M_isSign : Cond.selects (z_y m_M_isSign).cls (z_y m_M_isSign) (z_y m_M_isSign) ∈ z_tb := z_inp (List.mem_of_getElem? (i := 54) rfl) rfl
theorem mi_M_inWords : z_mi m_M_inWords 1 := ⟨cl_M.1, z_in7 (List.mem_of_getElem? (i := 94) rfl) rfl, z_in1 (List.mem_of_getElem? (i := 13) rfl) rfl, cl_M.2, by decide +kernel⟩
theorem mv_M_inWords : Cond.instanceMethod (z_y m_M_inWords) ∈ z_tb := z_in7 (List.mem_of_getElem? (i := 93) rfl) rfl
theorem se_M_inWords : Cond.selects (z_y m_M_inWords).cls (z_y m_M_inWords) (z_y m_M_inWords) ∈ z_tb := z_inp (List.mem_of_getElem? (i := 46) rfl) rfl
theorem mi_M_fails : z_mi m_M_fails 1 := ⟨cl_M.1, z_in7 (List.mem_of_getElem? (i := 100) rfl) rfl, z_in1 (List.mem_of_getElem? (i := 13) rfl) rfl, cl_M.2, by decide +kernel⟩
theorem mv_M_fails : Cond.instanceMethod (z_y m_M_fails) ∈ z_tb := z_in7 (List.mem_of_getElem? (i := 99) rfl) rfl
theorem se_M_fails : Cond.selects (z_y m_M_fails).cls (z_y m_M_fails) (z_y m_M_fails) ∈ z_tb := z_inp (List.mem_of_getElem? (i := 47) rfl) rfl
theorem mi_M_begins : z_mi m_M_begins 2 := ⟨cl_M.1, z_in7 (List.mem_of_getElem? (i := 65) rfl) rfl, z_in1 (List.mem_of_getElem? (i := 13) rfl) rfl, cl_M.2, by decide +kernel⟩
theorem mv_M_begins : Cond.instanceMethod (z_y m_M_begins) ∈ z_tb := z_in7 (List.mem_of_getElem? (i := 64) rfl) rfl
theorem se_M_begins : Cond.selects (z_y m_M_begins).cls (z_y m_M_begins) (z_y m_M_begins) ∈ z_tb := z_inp (List.mem_of_getElem? (i := 41) rfl) rfl
theorem mi_M_wantSign : z_mi m_M_wantSign 1 := ⟨cl_M.1, z_in7 (List.mem_of_getElem? (i := 127) rfl) rfl, z_in1 (List.mem_of_getElem? (i := 13) rfl) rfl, cl_M.2, by decide +kernel⟩
theorem mv_M_wantSign : Cond.instanceMethod (z_y m_M_wantSign) ∈ z_tb := z_in7 (List.mem_of_getElem? (i := 126) rfl) rfl
theorem se_M_wantSign : Cond.selects (z_y m_M_wantSign).cls (z_y m_M_wantSign) (z_y m_M_wantSign) ∈ z_tb := z_inp (List.mem_of_getElem? (i := 53) rfl) rfl
theorem mi_M_number : z_mi m_M_number 3 := ⟨cl_M.1, z_in7 (List.mem_of_getElem? (i := 112) rfl) rfl, z_in1 (List.mem_of_getElem? (i := 13) rfl) rfl, cl_M.2, by decide +kernel⟩
theorem mv_M_number : Cond.instanceMethod (z_y m_M_number) ∈ z_tb := z_in7 (List.mem_of_getElem? (i := 111) rfl) rfl
theorem se_M_number : Cond.selects (z_y m_M_number).cls (z_y m_M_number) (z_y m_M_number) ∈ z_tb := z_inp (List.mem_of_getElem? (i := 50) rfl) rfl
theorem mi_M_fault : z_mi m_M_fault 1 := ⟨cl_M.1, z_in7 (List.mem_of_getElem? (i := 57) rfl) rfl, z_in1 (List.mem_of_getElem? (i := 13) rfl) rfl, cl_M.2, by decide +kernel⟩
theorem mv_M_fault : Cond.instanceMethod (z_y m_M_fault) ∈ z_tb := z_in7 (List.mem_of_getElem? (i := 55) rfl) rfl
theorem se_M_fault : Cond.selects (z_y m_M_fault).cls (z_y m_M_fault) (z_y m_M_fault) ∈ z_tb := z_in7 (List.mem_of_getElem? (i := 56) rfl) rfl
theorem mi_M_taken : z_mi m_M_taken 1 := ⟨cl_M.1, z_in7 (List.mem_of_getElem? (i := 142) rfl) rfl, z_in1 (List.mem_of_getElem? (i := 13) rfl) rfl, cl_M.2, by decide +kernel⟩
theorem mv_M_taken : Cond.instanceMethod (z_y m_M_taken) ∈ z_tb := z_in7 (List.mem_of_getElem? (i := 141) rfl) rfl
theorem se_M_taken : Cond.selects (z_y m_M_taken).cls (z_y m_M_taken) (z_y m_M_taken) ∈ z_tb := z_inp (List.mem_of_getElem? (i := 56) rfl) rfl
theorem mi_M_wantWord : z_mi m_M_wantWord 1 := ⟨cl_M.1, z_in7 (List.mem_of_getElem? (i := 116) rfl) rfl, z_in1 (List.mem_of_getElem? (i := 13) rfl) rfl, cl_M.2, by decide +kernel⟩
theorem mv_M_wantWord : Cond.instanceMethod (z_y m_M_wantWord) ∈ z_tb := z_in7 (List.mem_of_getElem? (i := 115) rfl) rfl
theorem se_M_wantWord : Cond.selects (z_y m_M_wantWord).cls (z_y m_M_wantWord) (z_y m_M_wantWord) ∈ z_tb := z_inp (List.mem_of_getElem? (i := 51) rfl) rfl
theorem mi_M_common : z_mi m_M_common 2 := ⟨cl_M.1, z_in7 (List.mem_of_getElem? (i := 119) rfl) rfl, z_in1 (List.mem_of_getElem? (i := 13) rfl) rfl, cl_M.2, by decide +kernel⟩
theorem ms_M_common : Cond.static (z_y m_M_common) ∈ z_tb := z_in7 (List.mem_of_getElem? (i := 118) rfl) rfl
theorem mi_M_valueTo : z_mi m_M_valueTo 2 := ⟨cl_M.1, z_in7 (List.mem_of_getElem? (i := 108) rfl) rfl, z_in1 (List.mem_of_getElem? (i := 13) rfl) rfl, cl_M.2, by decide +kernel⟩
theorem mv_M_valueTo : Cond.instanceMethod (z_y m_M_valueTo) ∈ z_tb := z_in7 (List.mem_of_getElem? (i := 107) rfl) rfl
theorem se_M_valueTo : Cond.selects (z_y m_M_valueTo).cls (z_y m_M_valueTo) (z_y m_M_valueTo) ∈ z_tb := z_inp (List.mem_of_getElem? (i := 49) rfl) rfl
theorem mi_M_isIn : z_mi m_M_isIn 2 := ⟨cl_M.1, z_in7 (List.mem_of_getElem? (i := 134) rfl) rfl, z_in1 (List.mem_of_getElem? (i := 13) rfl) rfl, cl_M.2, by decide +kernel⟩
theorem ms_M_isIn : Cond.static (z_y m_M_isIn) ∈ z_tb := z_in7 (List.mem_of_getElem? (i := 133) rfl) rfl
theorem mi_M_findPin : z_mi m_M_findPin 3 := ⟨cl_M.1, z_in7 (List.mem_of_getElem? (i := 123) rfl) rfl, z_in1 (List.mem_of_getElem? (i := 13) rfl) rfl, cl_M.2, by decide +kernel⟩
theorem mv_M_findPin : Cond.instanceMethod (z_y m_M_findPin) ∈ z_tb := z_in7 (List.mem_of_getElem? (i := 122) rfl) rfl
theorem se_M_findPin : Cond.selects (z_y m_M_findPin).cls (z_y m_M_findPin) (z_y m_M_findPin) ∈ z_tb := z_inp (List.mem_of_getElem? (i := 52) rfl) rfl
theorem mi_M_aPin : z_mi m_M_aPin 0 := ⟨cl_M.1, z_in7 (List.mem_of_getElem? (i := 104) rfl) rfl, z_in1 (List.mem_of_getElem? (i := 13) rfl) rfl, cl_M.2, by decide +kernel⟩
theorem mv_M_aPin : Cond.instanceMethod (z_y m_M_aPin) ∈ z_tb := z_in7 (List.mem_of_getElem? (i := 103) rfl) rfl
theorem se_M_aPin : Cond.selects (z_y m_M_aPin).cls (z_y m_M_aPin) (z_y m_M_aPin) ∈ z_tb := z_inp (List.mem_of_getElem? (i := 48) rfl) rfl
theorem mi_M_aPlace : z_mi m_M_aPlace 0 := ⟨cl_M.1, z_in7 (List.mem_of_getElem? (i := 138) rfl) rfl, z_in1 (List.mem_of_getElem? (i := 13) rfl) rfl, cl_M.2, by decide +kernel⟩
theorem mv_M_aPlace : Cond.instanceMethod (z_y m_M_aPlace) ∈ z_tb := z_in7 (List.mem_of_getElem? (i := 137) rfl) rfl
theorem se_M_aPlace : Cond.selects (z_y m_M_aPlace).cls (z_y m_M_aPlace) (z_y m_M_aPlace) ∈ z_tb := z_inp (List.mem_of_getElem? (i := 55) rfl) rfl
theorem mi_M_studyPart : z_mi m_M_studyPart 0 := ⟨cl_M.1, z_in7 (List.mem_of_getElem? (i := 89) rfl) rfl, z_in1 (List.mem_of_getElem? (i := 13) rfl) rfl, cl_M.2, by decide +kernel⟩
theorem mv_M_studyPart : Cond.instanceMethod (z_y m_M_studyPart) ∈ z_tb := z_in7 (List.mem_of_getElem? (i := 88) rfl) rfl
theorem se_M_studyPart : Cond.selects (z_y m_M_studyPart).cls (z_y m_M_studyPart) (z_y m_M_studyPart) ∈ z_tb := z_inp (List.mem_of_getElem? (i := 45) rfl) rfl
theorem mi_M_study : z_mi m_M_study 1 := ⟨cl_M.1, z_in7 (List.mem_of_getElem? (i := 61) rfl) rfl, z_in1 (List.mem_of_getElem? (i := 13) rfl) rfl, cl_M.2, by decide +kernel⟩
theorem mv_M_study : Cond.instanceMethod (z_y m_M_study) ∈ z_tb := z_in7 (List.mem_of_getElem? (i := 59) rfl) rfl
theorem se_M_study : Cond.selects (z_y m_M_study).cls (z_y m_M_study) (z_y m_M_study) ∈ z_tb := z_in7 (List.mem_of_getElem? (i := 60) rfl) rfl
theorem mi_M_test : z_mi m_M_test 1 := ⟨cl_M.1, z_in7 (List.mem_of_getElem? (i := 165) rfl) rfl, z_in1 (List.mem_of_getElem? (i := 13) rfl) rfl, cl_M.2, by decide +kernel⟩
theorem mv_M_test : Cond.instanceMethod (z_y m_M_test) ∈ z_tb := z_in7 (List.mem_of_getElem? (i := 164) rfl) rfl
theorem se_M_test : Cond.selects (z_y m_M_test).cls (z_y m_M_test) (z_y m_M_test) ∈ z_tb := z_inp (List.mem_of_getElem? (i := 60) rfl) rfl
theorem mi_M_tourOrder : z_mi m_M_tourOrder 2 := ⟨cl_M.1, z_in7 (List.mem_of_getElem? (i := 161) rfl) rfl, z_in1 (List.mem_of_getElem? (i := 13) rfl) rfl, cl_M.2, by decide +kernel⟩
theorem mv_M_tourOrder : Cond.instanceMethod (z_y m_M_tourOrder) ∈ z_tb := z_in7 (List.mem_of_getElem? (i := 160) rfl) rfl
theorem se_M_tourOrder : Cond.selects (z_y m_M_tourOrder).cls (z_y m_M_tourOrder) (z_y m_M_tourOrder) ∈ z_tb := z_inp (List.mem_of_getElem? (i := 59) rfl) rfl
theorem mi_M_isOrder : z_mi m_M_isOrder 1 := ⟨cl_M.1, z_in7 (List.mem_of_getElem? (i := 157) rfl) rfl, z_in1 (List.mem_of_getElem? (i := 13) rfl) rfl, cl_M.2, by decide +kernel⟩
theorem ms_M_isOrder : Cond.static (z_y m_M_isOrder) ∈ z_tb := z_in7 (List.mem_of_getElem? (i := 156) rfl) rfl
theorem mi_M_tourStep : z_mi m_M_tourStep 0 := ⟨cl_M.1, z_in7 (List.mem_of_getElem? (i := 154) rfl) rfl, z_in1 (List.mem_of_getElem? (i := 13) rfl) rfl, cl_M.2, by decide +kernel⟩
theorem mv_M_tourStep : Cond.instanceMethod (z_y m_M_tourStep) ∈ z_tb := z_in7 (List.mem_of_getElem? (i := 153) rfl) rfl
theorem se_M_tourStep : Cond.selects (z_y m_M_tourStep).cls (z_y m_M_tourStep) (z_y m_M_tourStep) ∈ z_tb := z_inp (List.mem_of_getElem? (i := 58) rfl) rfl
theorem mi_M_tours : z_mi m_M_tours 1 := ⟨cl_M.1, z_in7 (List.mem_of_getElem? (i := 150) rfl) rfl, z_in1 (List.mem_of_getElem? (i := 13) rfl) rfl, cl_M.2, by decide +kernel⟩
theorem mv_M_tours : Cond.instanceMethod (z_y m_M_tours) ∈ z_tb := z_in7 (List.mem_of_getElem? (i := 148) rfl) rfl
theorem se_M_tours : Cond.selects (z_y m_M_tours).cls (z_y m_M_tours) (z_y m_M_tours) ∈ z_tb := z_in7 (List.mem_of_getElem? (i := 149) rfl) rfl
theorem mi_M_puts : z_mi m_M_puts 2 := ⟨cl_M.1, z_in7 (List.mem_of_getElem? (i := 200) rfl) rfl, z_in1 (List.mem_of_getElem? (i := 13) rfl) rfl, cl_M.2, by decide +kernel⟩
theorem mv_M_puts : Cond.instanceMethod (z_y m_M_puts) ∈ z_tb := z_in7 (List.mem_of_getElem? (i := 199) rfl) rfl
theorem se_M_puts : Cond.selects (z_y m_M_puts).cls (z_y m_M_puts) (z_y m_M_puts) ∈ z_tb := z_inp (List.mem_of_getElem? (i := 67) rfl) rfl
theorem mi_M_lays : z_mi m_M_lays 1 := ⟨cl_M.1, z_in7 (List.mem_of_getElem? (i := 196) rfl) rfl, z_in1 (List.mem_of_getElem? (i := 13) rfl) rfl, cl_M.2, by decide +kernel⟩
theorem mv_M_lays : Cond.instanceMethod (z_y m_M_lays) ∈ z_tb := z_in7 (List.mem_of_getElem? (i := 195) rfl) rfl
theorem se_M_lays : Cond.selects (z_y m_M_lays).cls (z_y m_M_lays) (z_y m_M_lays) ∈ z_tb := z_inp (List.mem_of_getElem? (i := 66) rfl) rfl
theorem mi_M_laysRow : z_mi m_M_laysRow 0 := ⟨cl_M.1, z_in7 (List.mem_of_getElem? (i := 192) rfl) rfl, z_in1 (List.mem_of_getElem? (i := 13) rfl) rfl, cl_M.2, by decide +kernel⟩
theorem mv_M_laysRow : Cond.instanceMethod (z_y m_M_laysRow) ∈ z_tb := z_in7 (List.mem_of_getElem? (i := 191) rfl) rfl
theorem se_M_laysRow : Cond.selects (z_y m_M_laysRow).cls (z_y m_M_laysRow) (z_y m_M_laysRow) ∈ z_tb := z_inp (List.mem_of_getElem? (i := 65) rfl) rfl
theorem mi_M_isValue : z_mi m_M_isValue 2 := ⟨cl_M.1, z_in7 (List.mem_of_getElem? (i := 239) rfl) rfl, z_in1 (List.mem_of_getElem? (i := 13) rfl) rfl, cl_M.2, by decide +kernel⟩
theorem ms_M_isValue : Cond.static (z_y m_M_isValue) ∈ z_tb := z_in7 (List.mem_of_getElem? (i := 238) rfl) rfl
theorem mi_M_isOfTree : z_mi m_M_isOfTree 2 := ⟨cl_M.1, z_in8 (List.mem_of_getElem? (i := 55) rfl) rfl, z_in1 (List.mem_of_getElem? (i := 13) rfl) rfl, cl_M.2, by decide +kernel⟩
theorem ms_M_isOfTree : Cond.static (z_y m_M_isOfTree) ∈ z_tb := z_in8 (List.mem_of_getElem? (i := 54) rfl) rfl
theorem mi_M_lessThan : z_mi m_M_lessThan 2 := ⟨cl_M.1, z_in8 (List.mem_of_getElem? (i := 3) rfl) rfl, z_in1 (List.mem_of_getElem? (i := 13) rfl) rfl, cl_M.2, by decide +kernel⟩
theorem mv_M_lessThan : Cond.instanceMethod (z_y m_M_lessThan) ∈ z_tb := z_in8 (List.mem_of_getElem? (i := 2) rfl) rfl
theorem se_M_lessThan : Cond.selects (z_y m_M_lessThan).cls (z_y m_M_lessThan) (z_y m_M_lessThan) ∈ z_tb := z_inp (List.mem_of_getElem? (i := 73) rfl) rfl
theorem mi_M_isAt : z_mi m_M_isAt 3 := ⟨cl_M.1, z_in8 (List.mem_of_getElem? (i := 7) rfl) rfl, z_in1 (List.mem_of_getElem? (i := 13) rfl) rfl, cl_M.2, by decide +kernel⟩
theorem mv_M_isAt : Cond.instanceMethod (z_y m_M_isAt) ∈ z_tb := z_in8 (List.mem_of_getElem? (i := 6) rfl) rfl
theorem se_M_isAt : Cond.selects (z_y m_M_isAt).cls (z_y m_M_isAt) (z_y m_M_isAt) ∈ z_tb := z_inp (List.mem_of_getElem? (i := 74) rfl) rfl
theorem mi_M_tellsRow : z_mi m_M_tellsRow 1 := ⟨cl_M.1, z_in7 (List.mem_of_getElem? (i := 228) rfl) rfl, z_in1 (List.mem_of_getElem? (i := 13) rfl) rfl, cl_M.2, by decide +kernel⟩
theorem mv_M_tellsRow : Cond.instanceMethod (z_y m_M_tellsRow) ∈ z_tb := z_in7 (List.mem_of_getElem? (i := 227) rfl) rfl
theorem se_M_tellsRow : Cond.selects (z_y m_M_tellsRow).cls (z_y m_M_tellsRow) (z_y m_M_tellsRow) ∈ z_tb := z_inp (List.mem_of_getElem? (i := 71) rfl) rfl
theorem mi_M_told : z_mi m_M_told 1 := ⟨cl_M.1, z_in7 (List.mem_of_getElem? (i := 169) rfl) rfl, z_in1 (List.mem_of_getElem? (i := 13) rfl) rfl, cl_M.2, by decide +kernel⟩
theorem mv_M_told : Cond.instanceMethod (z_y m_M_told) ∈ z_tb := z_in7 (List.mem_of_getElem? (i := 167) rfl) rfl
theorem se_M_told : Cond.selects (z_y m_M_told).cls (z_y m_M_told) (z_y m_M_told) ∈ z_tb := z_in7 (List.mem_of_getElem? (i := 168) rfl) rfl
theorem mi_M_size : z_mi m_M_size 1 := ⟨cl_M.1, z_in7 (List.mem_of_getElem? (i := 216) rfl) rfl, z_in1 (List.mem_of_getElem? (i := 13) rfl) rfl, cl_M.2, by decide +kernel⟩
theorem mv_M_size : Cond.instanceMethod (z_y m_M_size) ∈ z_tb := z_in7 (List.mem_of_getElem? (i := 214) rfl) rfl
theorem se_M_size : Cond.selects (z_y m_M_size).cls (z_y m_M_size) (z_y m_M_size) ∈ z_tb := z_in7 (List.mem_of_getElem? (i := 215) rfl) rfl
theorem mi_M_fraction : z_mi m_M_fraction 1 := ⟨cl_M.1, z_in7 (List.mem_of_getElem? (i := 224) rfl) rfl, z_in1 (List.mem_of_getElem? (i := 13) rfl) rfl, cl_M.2, by decide +kernel⟩
theorem mv_M_fraction : Cond.instanceMethod (z_y m_M_fraction) ∈ z_tb := z_in7 (List.mem_of_getElem? (i := 222) rfl) rfl
theorem se_M_fraction : Cond.selects (z_y m_M_fraction).cls (z_y m_M_fraction) (z_y m_M_fraction) ∈ z_tb := z_in7 (List.mem_of_getElem? (i := 223) rfl) rfl
theorem mi_M_place : z_mi m_M_place 2 := ⟨cl_M.1, z_in7 (List.mem_of_getElem? (i := 236) rfl) rfl, z_in1 (List.mem_of_getElem? (i := 13) rfl) rfl, cl_M.2, by decide +kernel⟩
theorem mv_M_place : Cond.instanceMethod (z_y m_M_place) ∈ z_tb := z_in7 (List.mem_of_getElem? (i := 234) rfl) rfl
theorem se_M_place : Cond.selects (z_y m_M_place).cls (z_y m_M_place) (z_y m_M_place) ∈ z_tb := z_in7 (List.mem_of_getElem? (i := 235) rfl) rfl
theorem mi_M_rank : z_mi m_M_rank 2 := ⟨cl_M.1, z_in8 (List.mem_of_getElem? (i := 11) rfl) rfl, z_in1 (List.mem_of_getElem? (i := 13) rfl) rfl, cl_M.2, by decide +kernel⟩
theorem mv_M_rank : Cond.instanceMethod (z_y m_M_rank) ∈ z_tb := z_in8 (List.mem_of_getElem? (i := 9) rfl) rfl
theorem se_M_rank : Cond.selects (z_y m_M_rank).cls (z_y m_M_rank) (z_y m_M_rank) ∈ z_tb := z_in8 (List.mem_of_getElem? (i := 10) rfl) rfl
theorem mi_M_below : z_mi m_M_below 2 := ⟨cl_M.1, z_in8 (List.mem_of_getElem? (i := 15) rfl) rfl, z_in1 (List.mem_of_getElem? (i := 13) rfl) rfl, cl_M.2, by decide +kernel⟩
theorem mv_M_below : Cond.instanceMethod (z_y m_M_below) ∈ z_tb := z_in8 (List.mem_of_getElem? (i := 13) rfl) rfl
theorem se_M_below : Cond.selects (z_y m_M_below).cls (z_y m_M_below) (z_y m_M_below) ∈ z_tb := z_in8 (List.mem_of_getElem? (i := 14) rfl) rfl
theorem mi_M_above : z_mi m_M_above 2 := ⟨cl_M.1, z_in8 (List.mem_of_getElem? (i := 21) rfl) rfl, z_in1 (List.mem_of_getElem? (i := 13) rfl) rfl, cl_M.2, by decide +kernel⟩
theorem mv_M_above : Cond.instanceMethod (z_y m_M_above) ∈ z_tb := z_in8 (List.mem_of_getElem? (i := 19) rfl) rfl
theorem se_M_above : Cond.selects (z_y m_M_above).cls (z_y m_M_above) (z_y m_M_above) ∈ z_tb := z_in8 (List.mem_of_getElem? (i := 20) rfl) rfl
theorem mi_M_ahead : z_mi m_M_ahead 2 := ⟨cl_M.1, z_in8 (List.mem_of_getElem? (i := 25) rfl) rfl, z_in1 (List.mem_of_getElem? (i := 13) rfl) rfl, cl_M.2, by decide +kernel⟩
theorem mv_M_ahead : Cond.instanceMethod (z_y m_M_ahead) ∈ z_tb := z_in8 (List.mem_of_getElem? (i := 23) rfl) rfl
theorem se_M_ahead : Cond.selects (z_y m_M_ahead).cls (z_y m_M_ahead) (z_y m_M_ahead) ∈ z_tb := z_in8 (List.mem_of_getElem? (i := 24) rfl) rfl
theorem mi_M_nearest : z_mi m_M_nearest 2 := ⟨cl_M.1, z_in8 (List.mem_of_getElem? (i := 29) rfl) rfl, z_in1 (List.mem_of_getElem? (i := 13) rfl) rfl, cl_M.2, by decide +kernel⟩
theorem mv_M_nearest : Cond.instanceMethod (z_y m_M_nearest) ∈ z_tb := z_in8 (List.mem_of_getElem? (i := 27) rfl) rfl
theorem se_M_nearest : Cond.selects (z_y m_M_nearest).cls (z_y m_M_nearest) (z_y m_M_nearest) ∈ z_tb := z_in8 (List.mem_of_getElem? (i := 28) rfl) rfl
theorem mi_M_between : z_mi m_M_between 4 := ⟨cl_M.1, z_in8 (List.mem_of_getElem? (i := 33) rfl) rfl, z_in1 (List.mem_of_getElem? (i := 13) rfl) rfl, cl_M.2, by decide +kernel⟩
theorem mv_M_between : Cond.instanceMethod (z_y m_M_between) ∈ z_tb := z_in8 (List.mem_of_getElem? (i := 31) rfl) rfl
theorem se_M_between : Cond.selects (z_y m_M_between).cls (z_y m_M_between) (z_y m_M_between) ∈ z_tb := z_in8 (List.mem_of_getElem? (i := 32) rfl) rfl
theorem mi_M_coprimes : z_mi m_M_coprimes 2 := ⟨cl_M.1, z_in8 (List.mem_of_getElem? (i := 37) rfl) rfl, z_in1 (List.mem_of_getElem? (i := 13) rfl) rfl, cl_M.2, by decide +kernel⟩
theorem mv_M_coprimes : Cond.instanceMethod (z_y m_M_coprimes) ∈ z_tb := z_in8 (List.mem_of_getElem? (i := 35) rfl) rfl
theorem se_M_coprimes : Cond.selects (z_y m_M_coprimes).cls (z_y m_M_coprimes) (z_y m_M_coprimes) ∈ z_tb := z_in8 (List.mem_of_getElem? (i := 36) rfl) rfl
theorem mi_M_simplest : z_mi m_M_simplest 4 := ⟨cl_M.1, z_in8 (List.mem_of_getElem? (i := 41) rfl) rfl, z_in1 (List.mem_of_getElem? (i := 13) rfl) rfl, cl_M.2, by decide +kernel⟩
theorem mv_M_simplest : Cond.instanceMethod (z_y m_M_simplest) ∈ z_tb := z_in8 (List.mem_of_getElem? (i := 39) rfl) rfl
theorem se_M_simplest : Cond.selects (z_y m_M_simplest).cls (z_y m_M_simplest) (z_y m_M_simplest) ∈ z_tb := z_in8 (List.mem_of_getElem? (i := 40) rfl) rfl
theorem mi_M_wide : z_mi m_M_wide 4 := ⟨cl_M.1, z_in8 (List.mem_of_getElem? (i := 45) rfl) rfl, z_in1 (List.mem_of_getElem? (i := 13) rfl) rfl, cl_M.2, by decide +kernel⟩
theorem mv_M_wide : Cond.instanceMethod (z_y m_M_wide) ∈ z_tb := z_in8 (List.mem_of_getElem? (i := 43) rfl) rfl
theorem se_M_wide : Cond.selects (z_y m_M_wide).cls (z_y m_M_wide) (z_y m_M_wide) ∈ z_tb := z_in8 (List.mem_of_getElem? (i := 44) rfl) rfl
theorem mi_M_laysTerms : z_mi m_M_laysTerms 2 := ⟨cl_M.1, z_in7 (List.mem_of_getElem? (i := 208) rfl) rfl, z_in1 (List.mem_of_getElem? (i := 13) rfl) rfl, cl_M.2, by decide +kernel⟩
theorem mv_M_laysTerms : Cond.instanceMethod (z_y m_M_laysTerms) ∈ z_tb := z_in7 (List.mem_of_getElem? (i := 207) rfl) rfl
theorem se_M_laysTerms : Cond.selects (z_y m_M_laysTerms).cls (z_y m_M_laysTerms) (z_y m_M_laysTerms) ∈ z_tb := z_inp (List.mem_of_getElem? (i := 69) rfl) rfl
theorem mi_M_turnsOf : z_mi m_M_turnsOf 1 := ⟨cl_M.1, z_in7 (List.mem_of_getElem? (i := 212) rfl) rfl, z_in1 (List.mem_of_getElem? (i := 13) rfl) rfl, cl_M.2, by decide +kernel⟩
theorem mv_M_turnsOf : Cond.instanceMethod (z_y m_M_turnsOf) ∈ z_tb := z_in7 (List.mem_of_getElem? (i := 211) rfl) rfl
theorem se_M_turnsOf : Cond.selects (z_y m_M_turnsOf).cls (z_y m_M_turnsOf) (z_y m_M_turnsOf) ∈ z_tb := z_inp (List.mem_of_getElem? (i := 70) rfl) rfl
theorem mi_M_depthOf : z_mi m_M_depthOf 2 := ⟨cl_M.1, z_in7 (List.mem_of_getElem? (i := 204) rfl) rfl, z_in1 (List.mem_of_getElem? (i := 13) rfl) rfl, cl_M.2, by decide +kernel⟩
theorem mv_M_depthOf : Cond.instanceMethod (z_y m_M_depthOf) ∈ z_tb := z_in7 (List.mem_of_getElem? (i := 203) rfl) rfl
theorem se_M_depthOf : Cond.selects (z_y m_M_depthOf).cls (z_y m_M_depthOf) (z_y m_M_depthOf) ∈ z_tb := z_inp (List.mem_of_getElem? (i := 68) rfl) rfl
theorem mi_M_depth : z_mi m_M_depth 2 := ⟨cl_M.1, z_in8 (List.mem_of_getElem? (i := 52) rfl) rfl, z_in1 (List.mem_of_getElem? (i := 13) rfl) rfl, cl_M.2, by decide +kernel⟩
theorem mv_M_depth : Cond.instanceMethod (z_y m_M_depth) ∈ z_tb := z_in8 (List.mem_of_getElem? (i := 50) rfl) rfl
theorem se_M_depth : Cond.selects (z_y m_M_depth).cls (z_y m_M_depth) (z_y m_M_depth) ∈ z_tb := z_in8 (List.mem_of_getElem? (i := 51) rfl) rfl
theorem mi_M_turnAt : z_mi m_M_turnAt 3 := ⟨cl_M.1, z_in8 (List.mem_of_getElem? (i := 59) rfl) rfl, z_in1 (List.mem_of_getElem? (i := 13) rfl) rfl, cl_M.2, by decide +kernel⟩
theorem mv_M_turnAt : Cond.instanceMethod (z_y m_M_turnAt) ∈ z_tb := z_in8 (List.mem_of_getElem? (i := 57) rfl) rfl
theorem se_M_turnAt : Cond.selects (z_y m_M_turnAt).cls (z_y m_M_turnAt) (z_y m_M_turnAt) ∈ z_tb := z_in8 (List.mem_of_getElem? (i := 58) rfl) rfl
theorem mi_M_findsParent : z_mi m_M_findsParent 2 := ⟨cl_M.1, z_in8 (List.mem_of_getElem? (i := 67) rfl) rfl, z_in1 (List.mem_of_getElem? (i := 13) rfl) rfl, cl_M.2, by decide +kernel⟩
theorem mv_M_findsParent : Cond.instanceMethod (z_y m_M_findsParent) ∈ z_tb := z_in8 (List.mem_of_getElem? (i := 66) rfl) rfl
theorem se_M_findsParent : Cond.selects (z_y m_M_findsParent).cls (z_y m_M_findsParent) (z_y m_M_findsParent) ∈ z_tb := z_inp (List.mem_of_getElem? (i := 75) rfl) rfl
theorem mi_M_parent : z_mi m_M_parent 2 := ⟨cl_M.1, z_in8 (List.mem_of_getElem? (i := 63) rfl) rfl, z_in1 (List.mem_of_getElem? (i := 13) rfl) rfl, cl_M.2, by decide +kernel⟩
theorem mv_M_parent : Cond.instanceMethod (z_y m_M_parent) ∈ z_tb := z_in8 (List.mem_of_getElem? (i := 61) rfl) rfl
theorem se_M_parent : Cond.selects (z_y m_M_parent).cls (z_y m_M_parent) (z_y m_M_parent) ∈ z_tb := z_in8 (List.mem_of_getElem? (i := 62) rfl) rfl
theorem mi_M_findsChild : z_mi m_M_findsChild 3 := ⟨cl_M.1, z_in8 (List.mem_of_getElem? (i := 114) rfl) rfl, z_in1 (List.mem_of_getElem? (i := 13) rfl) rfl, cl_M.2, by decide +kernel⟩
theorem mv_M_findsChild : Cond.instanceMethod (z_y m_M_findsChild) ∈ z_tb := z_in8 (List.mem_of_getElem? (i := 113) rfl) rfl
theorem se_M_findsChild : Cond.selects (z_y m_M_findsChild).cls (z_y m_M_findsChild) (z_y m_M_findsChild) ∈ z_tb := z_inp (List.mem_of_getElem? (i := 79) rfl) rfl
theorem mi_M_follow : z_mi m_M_follow 2 := ⟨cl_M.1, z_in8 (List.mem_of_getElem? (i := 71) rfl) rfl, z_in1 (List.mem_of_getElem? (i := 13) rfl) rfl, cl_M.2, by decide +kernel⟩
theorem mv_M_follow : Cond.instanceMethod (z_y m_M_follow) ∈ z_tb := z_in8 (List.mem_of_getElem? (i := 69) rfl) rfl
theorem se_M_follow : Cond.selects (z_y m_M_follow).cls (z_y m_M_follow) (z_y m_M_follow) ∈ z_tb := z_in8 (List.mem_of_getElem? (i := 70) rfl) rfl
theorem mi_M_terms : z_mi m_M_terms 2 := ⟨cl_M.1, z_in8 (List.mem_of_getElem? (i := 76) rfl) rfl, z_in1 (List.mem_of_getElem? (i := 13) rfl) rfl, cl_M.2, by decide +kernel⟩
theorem mv_M_terms : Cond.instanceMethod (z_y m_M_terms) ∈ z_tb := z_in8 (List.mem_of_getElem? (i := 74) rfl) rfl
theorem se_M_terms : Cond.selects (z_y m_M_terms).cls (z_y m_M_terms) (z_y m_M_terms) ∈ z_tb := z_in8 (List.mem_of_getElem? (i := 75) rfl) rfl
theorem mi_M_termAt : z_mi m_M_termAt 3 := ⟨cl_M.1, z_in8 (List.mem_of_getElem? (i := 80) rfl) rfl, z_in1 (List.mem_of_getElem? (i := 13) rfl) rfl, cl_M.2, by decide +kernel⟩
theorem mv_M_termAt : Cond.instanceMethod (z_y m_M_termAt) ∈ z_tb := z_in8 (List.mem_of_getElem? (i := 78) rfl) rfl
theorem se_M_termAt : Cond.selects (z_y m_M_termAt).cls (z_y m_M_termAt) (z_y m_M_termAt) ∈ z_tb := z_in8 (List.mem_of_getElem? (i := 79) rfl) rfl
theorem mi_M_times : z_mi m_M_times 1 := ⟨cl_M.1, z_in8 (List.mem_of_getElem? (i := 88) rfl) rfl, z_in1 (List.mem_of_getElem? (i := 13) rfl) rfl, cl_M.2, by decide +kernel⟩
theorem mv_M_times : Cond.instanceMethod (z_y m_M_times) ∈ z_tb := z_in8 (List.mem_of_getElem? (i := 87) rfl) rfl
theorem se_M_times : Cond.selects (z_y m_M_times).cls (z_y m_M_times) (z_y m_M_times) ∈ z_tb := z_inp (List.mem_of_getElem? (i := 76) rfl) rfl
theorem mi_M_periodOf : z_mi m_M_periodOf 1 := ⟨cl_M.1, z_in8 (List.mem_of_getElem? (i := 93) rfl) rfl, z_in1 (List.mem_of_getElem? (i := 13) rfl) rfl, cl_M.2, by decide +kernel⟩
theorem mv_M_periodOf : Cond.instanceMethod (z_y m_M_periodOf) ∈ z_tb := z_in8 (List.mem_of_getElem? (i := 92) rfl) rfl
theorem se_M_periodOf : Cond.selects (z_y m_M_periodOf).cls (z_y m_M_periodOf) (z_y m_M_periodOf) ∈ z_tb := z_inp (List.mem_of_getElem? (i := 77) rfl) rfl
theorem mi_M_digits : z_mi m_M_digits 3 := ⟨cl_M.1, z_in8 (List.mem_of_getElem? (i := 84) rfl) rfl, z_in1 (List.mem_of_getElem? (i := 13) rfl) rfl, cl_M.2, by decide +kernel⟩
theorem mv_M_digits : Cond.instanceMethod (z_y m_M_digits) ∈ z_tb := z_in8 (List.mem_of_getElem? (i := 82) rfl) rfl
theorem se_M_digits : Cond.selects (z_y m_M_digits).cls (z_y m_M_digits) (z_y m_M_digits) ∈ z_tb := z_in8 (List.mem_of_getElem? (i := 83) rfl) rfl
theorem mi_M_digitAt : z_mi m_M_digitAt 3 := ⟨cl_M.1, z_in8 (List.mem_of_getElem? (i := 97) rfl) rfl, z_in1 (List.mem_of_getElem? (i := 13) rfl) rfl, cl_M.2, by decide +kernel⟩
theorem mv_M_digitAt : Cond.instanceMethod (z_y m_M_digitAt) ∈ z_tb := z_in8 (List.mem_of_getElem? (i := 95) rfl) rfl
theorem se_M_digitAt : Cond.selects (z_y m_M_digitAt).cls (z_y m_M_digitAt) (z_y m_M_digitAt) ∈ z_tb := z_in8 (List.mem_of_getElem? (i := 96) rfl) rfl
theorem mi_M_here : z_mi m_M_here 0 := ⟨cl_M.1, z_in8 (List.mem_of_getElem? (i := 102) rfl) rfl, z_in1 (List.mem_of_getElem? (i := 13) rfl) rfl, cl_M.2, by decide +kernel⟩
theorem mv_M_here : Cond.instanceMethod (z_y m_M_here) ∈ z_tb := z_in8 (List.mem_of_getElem? (i := 100) rfl) rfl
theorem se_M_here : Cond.selects (z_y m_M_here).cls (z_y m_M_here) (z_y m_M_here) ∈ z_tb := z_in8 (List.mem_of_getElem? (i := 101) rfl) rfl
theorem mi_M_comes : z_mi m_M_comes 2 := ⟨cl_M.1, z_in8 (List.mem_of_getElem? (i := 118) rfl) rfl, z_in1 (List.mem_of_getElem? (i := 13) rfl) rfl, cl_M.2, by decide +kernel⟩
theorem mv_M_comes : Cond.instanceMethod (z_y m_M_comes) ∈ z_tb := z_in8 (List.mem_of_getElem? (i := 117) rfl) rfl
theorem se_M_comes : Cond.selects (z_y m_M_comes).cls (z_y m_M_comes) (z_y m_M_comes) ∈ z_tb := z_inp (List.mem_of_getElem? (i := 80) rfl) rfl
theorem mi_M_goes : z_mi m_M_goes 1 := ⟨cl_M.1, z_in8 (List.mem_of_getElem? (i := 110) rfl) rfl, z_in1 (List.mem_of_getElem? (i := 13) rfl) rfl, cl_M.2, by decide +kernel⟩
theorem mv_M_goes : Cond.instanceMethod (z_y m_M_goes) ∈ z_tb := z_in8 (List.mem_of_getElem? (i := 109) rfl) rfl
theorem se_M_goes : Cond.selects (z_y m_M_goes).cls (z_y m_M_goes) (z_y m_M_goes) ∈ z_tb := z_inp (List.mem_of_getElem? (i := 78) rfl) rfl
theorem mi_M_goesUp : z_mi m_M_goesUp 0 := ⟨cl_M.1, z_in8 (List.mem_of_getElem? (i := 130) rfl) rfl, z_in1 (List.mem_of_getElem? (i := 13) rfl) rfl, cl_M.2, by decide +kernel⟩
theorem mv_M_goesUp : Cond.instanceMethod (z_y m_M_goesUp) ∈ z_tb := z_in8 (List.mem_of_getElem? (i := 129) rfl) rfl
theorem se_M_goesUp : Cond.selects (z_y m_M_goesUp).cls (z_y m_M_goesUp) (z_y m_M_goesUp) ∈ z_tb := z_inp (List.mem_of_getElem? (i := 82) rfl) rfl
theorem mi_M_flips : z_mi m_M_flips 0 := ⟨cl_M.1, z_in8 (List.mem_of_getElem? (i := 138) rfl) rfl, z_in1 (List.mem_of_getElem? (i := 13) rfl) rfl, cl_M.2, by decide +kernel⟩
theorem mv_M_flips : Cond.instanceMethod (z_y m_M_flips) ∈ z_tb := z_in8 (List.mem_of_getElem? (i := 137) rfl) rfl
theorem se_M_flips : Cond.selects (z_y m_M_flips).cls (z_y m_M_flips) (z_y m_M_flips) ∈ z_tb := z_inp (List.mem_of_getElem? (i := 83) rfl) rfl
theorem mi_M_depthNow : z_mi m_M_depthNow 0 := ⟨cl_M.1, z_in8 (List.mem_of_getElem? (i := 122) rfl) rfl, z_in1 (List.mem_of_getElem? (i := 13) rfl) rfl, cl_M.2, by decide +kernel⟩
theorem mv_M_depthNow : Cond.instanceMethod (z_y m_M_depthNow) ∈ z_tb := z_in8 (List.mem_of_getElem? (i := 121) rfl) rfl
theorem se_M_depthNow : Cond.selects (z_y m_M_depthNow).cls (z_y m_M_depthNow) (z_y m_M_depthNow) ∈ z_tb := z_inp (List.mem_of_getElem? (i := 81) rfl) rfl
theorem mi_M_go : z_mi m_M_go 1 := ⟨cl_M.1, z_in8 (List.mem_of_getElem? (i := 106) rfl) rfl, z_in1 (List.mem_of_getElem? (i := 13) rfl) rfl, cl_M.2, by decide +kernel⟩
theorem mv_M_go : Cond.instanceMethod (z_y m_M_go) ∈ z_tb := z_in8 (List.mem_of_getElem? (i := 104) rfl) rfl
theorem se_M_go : Cond.selects (z_y m_M_go).cls (z_y m_M_go) (z_y m_M_go) ∈ z_tb := z_in8 (List.mem_of_getElem? (i := 105) rfl) rfl
theorem mi_M_up : z_mi m_M_up 0 := ⟨cl_M.1, z_in8 (List.mem_of_getElem? (i := 126) rfl) rfl, z_in1 (List.mem_of_getElem? (i := 13) rfl) rfl, cl_M.2, by decide +kernel⟩
theorem mv_M_up : Cond.instanceMethod (z_y m_M_up) ∈ z_tb := z_in8 (List.mem_of_getElem? (i := 124) rfl) rfl
theorem se_M_up : Cond.selects (z_y m_M_up).cls (z_y m_M_up) (z_y m_M_up) ∈ z_tb := z_in8 (List.mem_of_getElem? (i := 125) rfl) rfl
theorem mi_M_flip : z_mi m_M_flip 0 := ⟨cl_M.1, z_in8 (List.mem_of_getElem? (i := 134) rfl) rfl, z_in1 (List.mem_of_getElem? (i := 13) rfl) rfl, cl_M.2, by decide +kernel⟩
theorem mv_M_flip : Cond.instanceMethod (z_y m_M_flip) ∈ z_tb := z_in8 (List.mem_of_getElem? (i := 132) rfl) rfl
theorem se_M_flip : Cond.selects (z_y m_M_flip).cls (z_y m_M_flip) (z_y m_M_flip) ∈ z_tb := z_in8 (List.mem_of_getElem? (i := 133) rfl) rfl
theorem mi_M_jump : z_mi m_M_jump 2 := ⟨cl_M.1, z_in8 (List.mem_of_getElem? (i := 142) rfl) rfl, z_in1 (List.mem_of_getElem? (i := 13) rfl) rfl, cl_M.2, by decide +kernel⟩
theorem mv_M_jump : Cond.instanceMethod (z_y m_M_jump) ∈ z_tb := z_in8 (List.mem_of_getElem? (i := 140) rfl) rfl
theorem se_M_jump : Cond.selects (z_y m_M_jump).cls (z_y m_M_jump) (z_y m_M_jump) ∈ z_tb := z_in8 (List.mem_of_getElem? (i := 141) rfl) rfl
theorem mi_M_wasAt : z_mi m_M_wasAt 2 := ⟨cl_M.1, z_in8 (List.mem_of_getElem? (i := 146) rfl) rfl, z_in1 (List.mem_of_getElem? (i := 13) rfl) rfl, cl_M.2, by decide +kernel⟩
theorem mv_M_wasAt : Cond.instanceMethod (z_y m_M_wasAt) ∈ z_tb := z_in8 (List.mem_of_getElem? (i := 144) rfl) rfl
theorem se_M_wasAt : Cond.selects (z_y m_M_wasAt).cls (z_y m_M_wasAt) (z_y m_M_wasAt) ∈ z_tb := z_in8 (List.mem_of_getElem? (i := 145) rfl) rfl
theorem mi_M_rule : z_mi m_M_rule 2 := ⟨cl_M.1, z_in8 (List.mem_of_getElem? (i := 150) rfl) rfl, z_in1 (List.mem_of_getElem? (i := 13) rfl) rfl, cl_M.2, by decide +kernel⟩
theorem mv_M_rule : Cond.instanceMethod (z_y m_M_rule) ∈ z_tb := z_in8 (List.mem_of_getElem? (i := 148) rfl) rfl
theorem se_M_rule : Cond.selects (z_y m_M_rule).cls (z_y m_M_rule) (z_y m_M_rule) ∈ z_tb := z_in8 (List.mem_of_getElem? (i := 149) rfl) rfl
theorem mi_M_rowOf : z_mi m_M_rowOf 1 := ⟨cl_M.1, z_in7 (List.mem_of_getElem? (i := 180) rfl) rfl, z_in1 (List.mem_of_getElem? (i := 13) rfl) rfl, cl_M.2, by decide +kernel⟩
theorem ms_M_rowOf : Cond.static (z_y m_M_rowOf) ∈ z_tb := z_in7 (List.mem_of_getElem? (i := 179) rfl) rfl
theorem mi_M_topOf : z_mi m_M_topOf 1 := ⟨cl_M.1, z_in7 (List.mem_of_getElem? (i := 177) rfl) rfl, z_in1 (List.mem_of_getElem? (i := 13) rfl) rfl, cl_M.2, by decide +kernel⟩
theorem mv_M_topOf : Cond.instanceMethod (z_y m_M_topOf) ∈ z_tb := z_in7 (List.mem_of_getElem? (i := 176) rfl) rfl
theorem se_M_topOf : Cond.selects (z_y m_M_topOf).cls (z_y m_M_topOf) (z_y m_M_topOf) ∈ z_tb := z_inp (List.mem_of_getElem? (i := 62) rfl) rfl
theorem mi_M_bottomOf : z_mi m_M_bottomOf 1 := ⟨cl_M.1, z_in7 (List.mem_of_getElem? (i := 184) rfl) rfl, z_in1 (List.mem_of_getElem? (i := 13) rfl) rfl, cl_M.2, by decide +kernel⟩
theorem mv_M_bottomOf : Cond.instanceMethod (z_y m_M_bottomOf) ∈ z_tb := z_in7 (List.mem_of_getElem? (i := 183) rfl) rfl
theorem se_M_bottomOf : Cond.selects (z_y m_M_bottomOf).cls (z_y m_M_bottomOf) (z_y m_M_bottomOf) ∈ z_tb := z_inp (List.mem_of_getElem? (i := 63) rfl) rfl
theorem mi_M_weightOf : z_mi m_M_weightOf 1 := ⟨cl_M.1, z_in7 (List.mem_of_getElem? (i := 188) rfl) rfl, z_in1 (List.mem_of_getElem? (i := 13) rfl) rfl, cl_M.2, by decide +kernel⟩
theorem mv_M_weightOf : Cond.instanceMethod (z_y m_M_weightOf) ∈ z_tb := z_in7 (List.mem_of_getElem? (i := 187) rfl) rfl
theorem se_M_weightOf : Cond.selects (z_y m_M_weightOf).cls (z_y m_M_weightOf) (z_y m_M_weightOf) ∈ z_tb := z_inp (List.mem_of_getElem? (i := 64) rfl) rfl
theorem mi_M_pinOf : z_mi m_M_pinOf 2 := ⟨cl_M.1, z_in8 (List.mem_of_getElem? (i := 164) rfl) rfl, z_in1 (List.mem_of_getElem? (i := 13) rfl) rfl, cl_M.2, by decide +kernel⟩
theorem mv_M_pinOf : Cond.instanceMethod (z_y m_M_pinOf) ∈ z_tb := z_in8 (List.mem_of_getElem? (i := 163) rfl) rfl
theorem se_M_pinOf : Cond.selects (z_y m_M_pinOf).cls (z_y m_M_pinOf) (z_y m_M_pinOf) ∈ z_tb := z_inp (List.mem_of_getElem? (i := 85) rfl) rfl
theorem mi_M_pins : z_mi m_M_pins 3 := ⟨cl_M.1, z_in8 (List.mem_of_getElem? (i := 160) rfl) rfl, z_in1 (List.mem_of_getElem? (i := 13) rfl) rfl, cl_M.2, by decide +kernel⟩
theorem mv_M_pins : Cond.instanceMethod (z_y m_M_pins) ∈ z_tb := z_in8 (List.mem_of_getElem? (i := 159) rfl) rfl
theorem se_M_pins : Cond.selects (z_y m_M_pins).cls (z_y m_M_pins) (z_y m_M_pins) ∈ z_tb := z_inp (List.mem_of_getElem? (i := 84) rfl) rfl
theorem mi_M_pin : z_mi m_M_pin 3 := ⟨cl_M.1, z_in8 (List.mem_of_getElem? (i := 155) rfl) rfl, z_in1 (List.mem_of_getElem? (i := 13) rfl) rfl, cl_M.2, by decide +kernel⟩
theorem mv_M_pin : Cond.instanceMethod (z_y m_M_pin) ∈ z_tb := z_in8 (List.mem_of_getElem? (i := 153) rfl) rfl
theorem se_M_pin : Cond.selects (z_y m_M_pin).cls (z_y m_M_pin) (z_y m_M_pin) ∈ z_tb := z_in8 (List.mem_of_getElem? (i := 154) rfl) rfl
theorem mi_M_lifts : z_mi m_M_lifts 2 := ⟨cl_M.1, z_in8 (List.mem_of_getElem? (i := 172) rfl) rfl, z_in1 (List.mem_of_getElem? (i := 13) rfl) rfl, cl_M.2, by decide +kernel⟩
theorem mv_M_lifts : Cond.instanceMethod (z_y m_M_lifts) ∈ z_tb := z_in8 (List.mem_of_getElem? (i := 171) rfl) rfl
theorem se_M_lifts : Cond.selects (z_y m_M_lifts).cls (z_y m_M_lifts) (z_y m_M_lifts) ∈ z_tb := z_inp (List.mem_of_getElem? (i := 86) rfl) rfl
theorem mi_M_lift : z_mi m_M_lift 2 := ⟨cl_M.1, z_in8 (List.mem_of_getElem? (i := 168) rfl) rfl, z_in1 (List.mem_of_getElem? (i := 13) rfl) rfl, cl_M.2, by decide +kernel⟩
theorem mv_M_lift : Cond.instanceMethod (z_y m_M_lift) ∈ z_tb := z_in8 (List.mem_of_getElem? (i := 166) rfl) rfl
theorem se_M_lift : Cond.selects (z_y m_M_lift).cls (z_y m_M_lift) (z_y m_M_lift) ∈ z_tb := z_in8 (List.mem_of_getElem? (i := 167) rfl) rfl
theorem mi_M_weight : z_mi m_M_weight 2 := ⟨cl_M.1, z_in8 (List.mem_of_getElem? (i := 180) rfl) rfl, z_in1 (List.mem_of_getElem? (i := 13) rfl) rfl, cl_M.2, by decide +kernel⟩
theorem mv_M_weight : Cond.instanceMethod (z_y m_M_weight) ∈ z_tb := z_in8 (List.mem_of_getElem? (i := 178) rfl) rfl
theorem se_M_weight : Cond.selects (z_y m_M_weight).cls (z_y m_M_weight) (z_y m_M_weight) ∈ z_tb := z_in8 (List.mem_of_getElem? (i := 179) rfl) rfl
theorem mi_M_tellsPin : z_mi m_M_tellsPin 1 := ⟨cl_M.1, z_in8 (List.mem_of_getElem? (i := 188) rfl) rfl, z_in1 (List.mem_of_getElem? (i := 13) rfl) rfl, cl_M.2, by decide +kernel⟩
theorem mv_M_tellsPin : Cond.instanceMethod (z_y m_M_tellsPin) ∈ z_tb := z_in8 (List.mem_of_getElem? (i := 187) rfl) rfl
theorem se_M_tellsPin : Cond.selects (z_y m_M_tellsPin).cls (z_y m_M_tellsPin) (z_y m_M_tellsPin) ∈ z_tb := z_inp (List.mem_of_getElem? (i := 88) rfl) rfl
theorem mi_M_pinAt : z_mi m_M_pinAt 1 := ⟨cl_M.1, z_in8 (List.mem_of_getElem? (i := 184) rfl) rfl, z_in1 (List.mem_of_getElem? (i := 13) rfl) rfl, cl_M.2, by decide +kernel⟩
theorem mv_M_pinAt : Cond.instanceMethod (z_y m_M_pinAt) ∈ z_tb := z_in8 (List.mem_of_getElem? (i := 182) rfl) rfl
theorem se_M_pinAt : Cond.selects (z_y m_M_pinAt).cls (z_y m_M_pinAt) (z_y m_M_pinAt) ∈ z_tb := z_in8 (List.mem_of_getElem? (i := 183) rfl) rfl
theorem mi_M_isLess : z_mi m_M_isLess 2 := ⟨cl_M.1, z_in8 (List.mem_of_getElem? (i := 200) rfl) rfl, z_in1 (List.mem_of_getElem? (i := 13) rfl) rfl, cl_M.2, by decide +kernel⟩
theorem mv_M_isLess : Cond.instanceMethod (z_y m_M_isLess) ∈ z_tb := z_in8 (List.mem_of_getElem? (i := 199) rfl) rfl
theorem se_M_isLess : Cond.selects (z_y m_M_isLess).cls (z_y m_M_isLess) (z_y m_M_isLess) ∈ z_tb := z_inp (List.mem_of_getElem? (i := 90) rfl) rfl
theorem mi_M_rising : z_mi m_M_rising 1 := ⟨cl_M.1, z_in8 (List.mem_of_getElem? (i := 196) rfl) rfl, z_in1 (List.mem_of_getElem? (i := 13) rfl) rfl, cl_M.2, by decide +kernel⟩
theorem mv_M_rising : Cond.instanceMethod (z_y m_M_rising) ∈ z_tb := z_in8 (List.mem_of_getElem? (i := 195) rfl) rfl
theorem se_M_rising : Cond.selects (z_y m_M_rising).cls (z_y m_M_rising) (z_y m_M_rising) ∈ z_tb := z_inp (List.mem_of_getElem? (i := 89) rfl) rfl
theorem mi_M_risingAt : z_mi m_M_risingAt 1 := ⟨cl_M.1, z_in8 (List.mem_of_getElem? (i := 192) rfl) rfl, z_in1 (List.mem_of_getElem? (i := 13) rfl) rfl, cl_M.2, by decide +kernel⟩
theorem mv_M_risingAt : Cond.instanceMethod (z_y m_M_risingAt) ∈ z_tb := z_in8 (List.mem_of_getElem? (i := 190) rfl) rfl
theorem se_M_risingAt : Cond.selects (z_y m_M_risingAt).cls (z_y m_M_risingAt) (z_y m_M_risingAt) ∈ z_tb := z_in8 (List.mem_of_getElem? (i := 191) rfl) rfl
theorem mi_M_heaviest : z_mi m_M_heaviest 0 := ⟨cl_M.1, z_in8 (List.mem_of_getElem? (i := 204) rfl) rfl, z_in1 (List.mem_of_getElem? (i := 13) rfl) rfl, cl_M.2, by decide +kernel⟩
theorem mv_M_heaviest : Cond.instanceMethod (z_y m_M_heaviest) ∈ z_tb := z_in8 (List.mem_of_getElem? (i := 202) rfl) rfl
theorem se_M_heaviest : Cond.selects (z_y m_M_heaviest).cls (z_y m_M_heaviest) (z_y m_M_heaviest) ∈ z_tb := z_in8 (List.mem_of_getElem? (i := 203) rfl) rfl
theorem mi_M_weightTo : z_mi m_M_weightTo 2 := ⟨cl_M.1, z_in7 (List.mem_of_getElem? (i := 173) rfl) rfl, z_in1 (List.mem_of_getElem? (i := 13) rfl) rfl, cl_M.2, by decide +kernel⟩
theorem mv_M_weightTo : Cond.instanceMethod (z_y m_M_weightTo) ∈ z_tb := z_in7 (List.mem_of_getElem? (i := 172) rfl) rfl
theorem se_M_weightTo : Cond.selects (z_y m_M_weightTo).cls (z_y m_M_weightTo) (z_y m_M_weightTo) ∈ z_tb := z_inp (List.mem_of_getElem? (i := 61) rfl) rfl
theorem mi_M_middle : z_mi m_M_middle 0 := ⟨cl_M.1, z_in8 (List.mem_of_getElem? (i := 208) rfl) rfl, z_in1 (List.mem_of_getElem? (i := 13) rfl) rfl, cl_M.2, by decide +kernel⟩
theorem mv_M_middle : Cond.instanceMethod (z_y m_M_middle) ∈ z_tb := z_in8 (List.mem_of_getElem? (i := 206) rfl) rfl
theorem se_M_middle : Cond.selects (z_y m_M_middle).cls (z_y m_M_middle) (z_y m_M_middle) ∈ z_tb := z_in8 (List.mem_of_getElem? (i := 207) rfl) rfl
theorem mi_M_gap : z_mi m_M_gap 0 := ⟨cl_M.1, z_in8 (List.mem_of_getElem? (i := 212) rfl) rfl, z_in1 (List.mem_of_getElem? (i := 13) rfl) rfl, cl_M.2, by decide +kernel⟩
theorem mv_M_gap : Cond.instanceMethod (z_y m_M_gap) ∈ z_tb := z_in8 (List.mem_of_getElem? (i := 210) rfl) rfl
theorem se_M_gap : Cond.selects (z_y m_M_gap).cls (z_y m_M_gap) (z_y m_M_gap) ∈ z_tb := z_in8 (List.mem_of_getElem? (i := 211) rfl) rfl
theorem mi_M_share : z_mi m_M_share 2 := ⟨cl_M.1, z_in8 (List.mem_of_getElem? (i := 216) rfl) rfl, z_in1 (List.mem_of_getElem? (i := 13) rfl) rfl, cl_M.2, by decide +kernel⟩
theorem mv_M_share : Cond.instanceMethod (z_y m_M_share) ∈ z_tb := z_in8 (List.mem_of_getElem? (i := 214) rfl) rfl
theorem se_M_share : Cond.selects (z_y m_M_share).cls (z_y m_M_share) (z_y m_M_share) ∈ z_tb := z_in8 (List.mem_of_getElem? (i := 215) rfl) rfl
theorem mi_M_pinsOfRow : z_mi m_M_pinsOfRow 0 := ⟨cl_M.1, z_in8 (List.mem_of_getElem? (i := 220) rfl) rfl, z_in1 (List.mem_of_getElem? (i := 13) rfl) rfl, cl_M.2, by decide +kernel⟩
theorem mv_M_pinsOfRow : Cond.instanceMethod (z_y m_M_pinsOfRow) ∈ z_tb := z_in8 (List.mem_of_getElem? (i := 218) rfl) rfl
theorem se_M_pinsOfRow : Cond.selects (z_y m_M_pinsOfRow).cls (z_y m_M_pinsOfRow) (z_y m_M_pinsOfRow) ∈ z_tb := z_in8 (List.mem_of_getElem? (i := 219) rfl) rfl
theorem mi_M_copyPins : z_mi m_M_copyPins 1 := ⟨cl_M.1, z_in8 (List.mem_of_getElem? (i := 224) rfl) rfl, z_in1 (List.mem_of_getElem? (i := 13) rfl) rfl, cl_M.2, by decide +kernel⟩
theorem mv_M_copyPins : Cond.instanceMethod (z_y m_M_copyPins) ∈ z_tb := z_in8 (List.mem_of_getElem? (i := 222) rfl) rfl
theorem se_M_copyPins : Cond.selects (z_y m_M_copyPins).cls (z_y m_M_copyPins) (z_y m_M_copyPins) ∈ z_tb := z_in8 (List.mem_of_getElem? (i := 223) rfl) rfl
theorem mi_M_plays : z_mi m_M_plays 3 := ⟨cl_M.1, z_in8 (List.mem_of_getElem? (i := 237) rfl) rfl, z_in1 (List.mem_of_getElem? (i := 13) rfl) rfl, cl_M.2, by decide +kernel⟩
theorem mv_M_plays : Cond.instanceMethod (z_y m_M_plays) ∈ z_tb := z_in8 (List.mem_of_getElem? (i := 236) rfl) rfl
theorem se_M_plays : Cond.selects (z_y m_M_plays).cls (z_y m_M_plays) (z_y m_M_plays) ∈ z_tb := z_inp (List.mem_of_getElem? (i := 92) rfl) rfl
theorem mi_M_wrongGame : z_mi m_M_wrongGame 4 := ⟨cl_M.1, z_in8 (List.mem_of_getElem? (i := 232) rfl) rfl, z_in1 (List.mem_of_getElem? (i := 13) rfl) rfl, cl_M.2, by decide +kernel⟩
theorem mv_M_wrongGame : Cond.instanceMethod (z_y m_M_wrongGame) ∈ z_tb := z_in8 (List.mem_of_getElem? (i := 231) rfl) rfl
theorem se_M_wrongGame : Cond.selects (z_y m_M_wrongGame).cls (z_y m_M_wrongGame) (z_y m_M_wrongGame) ∈ z_tb := z_inp (List.mem_of_getElem? (i := 91) rfl) rfl
theorem mi_M_game : z_mi m_M_game 3 := ⟨cl_M.1, z_in8 (List.mem_of_getElem? (i := 228) rfl) rfl, z_in1 (List.mem_of_getElem? (i := 13) rfl) rfl, cl_M.2, by decide +kernel⟩
theorem mv_M_game : Cond.instanceMethod (z_y m_M_game) ∈ z_tb := z_in8 (List.mem_of_getElem? (i := 226) rfl) rfl
theorem se_M_game : Cond.selects (z_y m_M_game).cls (z_y m_M_game) (z_y m_M_game) ∈ z_tb := z_in8 (List.mem_of_getElem? (i := 227) rfl) rfl
theorem mi_M_moveOf : z_mi m_M_moveOf 3 := ⟨cl_M.1, z_in9 (List.mem_of_getElem? (i := 1) rfl) rfl, z_in1 (List.mem_of_getElem? (i := 13) rfl) rfl, cl_M.2, by decide +kernel⟩
theorem mv_M_moveOf : Cond.instanceMethod (z_y m_M_moveOf) ∈ z_tb := z_in8 (List.mem_of_getElem? (i := 239) rfl) rfl
theorem se_M_moveOf : Cond.selects (z_y m_M_moveOf).cls (z_y m_M_moveOf) (z_y m_M_moveOf) ∈ z_tb := z_in9 (List.mem_of_getElem? (i := 0) rfl) rfl
theorem mi_M_wrong : z_mi m_M_wrong 2 := ⟨cl_M.1, z_in9 (List.mem_of_getElem? (i := 5) rfl) rfl, z_in1 (List.mem_of_getElem? (i := 13) rfl) rfl, cl_M.2, by decide +kernel⟩
theorem mv_M_wrong : Cond.instanceMethod (z_y m_M_wrong) ∈ z_tb := z_in9 (List.mem_of_getElem? (i := 3) rfl) rfl
theorem se_M_wrong : Cond.selects (z_y m_M_wrong).cls (z_y m_M_wrong) (z_y m_M_wrong) ∈ z_tb := z_in9 (List.mem_of_getElem? (i := 4) rfl) rfl
theorem mi_M_part : z_mi m_M_part 1 := ⟨cl_M.1, z_in9 (List.mem_of_getElem? (i := 10) rfl) rfl, z_in1 (List.mem_of_getElem? (i := 13) rfl) rfl, cl_M.2, by decide +kernel⟩
theorem mv_M_part : Cond.instanceMethod (z_y m_M_part) ∈ z_tb := z_in9 (List.mem_of_getElem? (i := 8) rfl) rfl
theorem se_M_part : Cond.selects (z_y m_M_part).cls (z_y m_M_part) (z_y m_M_part) ∈ z_tb := z_in9 (List.mem_of_getElem? (i := 9) rfl) rfl
theorem mi_M_draw : z_mi m_M_draw 1 := ⟨cl_M.1, z_in9 (List.mem_of_getElem? (i := 38) rfl) rfl, z_in1 (List.mem_of_getElem? (i := 13) rfl) rfl, cl_M.2, by decide +kernel⟩
theorem mv_M_draw : Cond.instanceMethod (z_y m_M_draw) ∈ z_tb := z_in9 (List.mem_of_getElem? (i := 37) rfl) rfl
theorem se_M_draw : Cond.selects (z_y m_M_draw).cls (z_y m_M_draw) (z_y m_M_draw) ∈ z_tb := z_inp (List.mem_of_getElem? (i := 98) rfl) rfl
theorem mi_M_ranIf : z_mi m_M_ranIf 2 := ⟨cl_M.1, z_in9 (List.mem_of_getElem? (i := 26) rfl) rfl, z_in1 (List.mem_of_getElem? (i := 13) rfl) rfl, cl_M.2, by decide +kernel⟩
theorem mv_M_ranIf : Cond.instanceMethod (z_y m_M_ranIf) ∈ z_tb := z_in9 (List.mem_of_getElem? (i := 25) rfl) rfl
theorem se_M_ranIf : Cond.selects (z_y m_M_ranIf).cls (z_y m_M_ranIf) (z_y m_M_ranIf) ∈ z_tb := z_inp (List.mem_of_getElem? (i := 95) rfl) rfl
theorem mi_M_doesAny : z_mi m_M_doesAny 0 := ⟨cl_M.1, z_in9 (List.mem_of_getElem? (i := 34) rfl) rfl, z_in1 (List.mem_of_getElem? (i := 13) rfl) rfl, cl_M.2, by decide +kernel⟩
theorem mv_M_doesAny : Cond.instanceMethod (z_y m_M_doesAny) ∈ z_tb := z_in9 (List.mem_of_getElem? (i := 33) rfl) rfl
theorem se_M_doesAny : Cond.selects (z_y m_M_doesAny).cls (z_y m_M_doesAny) (z_y m_M_doesAny) ∈ z_tb := z_inp (List.mem_of_getElem? (i := 97) rfl) rfl
theorem mi_M_orders : z_mi m_M_orders 1 := ⟨cl_M.1, z_in9 (List.mem_of_getElem? (i := 30) rfl) rfl, z_in1 (List.mem_of_getElem? (i := 13) rfl) rfl, cl_M.2, by decide +kernel⟩
theorem mv_M_orders : Cond.instanceMethod (z_y m_M_orders) ∈ z_tb := z_in9 (List.mem_of_getElem? (i := 29) rfl) rfl
theorem se_M_orders : Cond.selects (z_y m_M_orders).cls (z_y m_M_orders) (z_y m_M_orders) ∈ z_tb := z_inp (List.mem_of_getElem? (i := 96) rfl) rfl
theorem mi_M_does : z_mi m_M_does 1 := ⟨cl_M.1, z_in9 (List.mem_of_getElem? (i := 22) rfl) rfl, z_in1 (List.mem_of_getElem? (i := 13) rfl) rfl, cl_M.2, by decide +kernel⟩
theorem mv_M_does : Cond.instanceMethod (z_y m_M_does) ∈ z_tb := z_in9 (List.mem_of_getElem? (i := 21) rfl) rfl
theorem se_M_does : Cond.selects (z_y m_M_does).cls (z_y m_M_does) (z_y m_M_does) ∈ z_tb := z_inp (List.mem_of_getElem? (i := 94) rfl) rfl
theorem mi_M_holds : z_mi m_M_holds 1 := ⟨cl_M.1, z_in9 (List.mem_of_getElem? (i := 43) rfl) rfl, z_in1 (List.mem_of_getElem? (i := 13) rfl) rfl, cl_M.2, by decide +kernel⟩
theorem mv_M_holds : Cond.instanceMethod (z_y m_M_holds) ∈ z_tb := z_in9 (List.mem_of_getElem? (i := 42) rfl) rfl
theorem se_M_holds : Cond.selects (z_y m_M_holds).cls (z_y m_M_holds) (z_y m_M_holds) ∈ z_tb := z_inp (List.mem_of_getElem? (i := 99) rfl) rfl
theorem mi_M_behindEnds : z_mi m_M_behindEnds 1 := ⟨cl_M.1, z_in9 (List.mem_of_getElem? (i := 47) rfl) rfl, z_in1 (List.mem_of_getElem? (i := 13) rfl) rfl, cl_M.2, by decide +kernel⟩
theorem mv_M_behindEnds : Cond.instanceMethod (z_y m_M_behindEnds) ∈ z_tb := z_in9 (List.mem_of_getElem? (i := 46) rfl) rfl
theorem se_M_behindEnds : Cond.selects (z_y m_M_behindEnds).cls (z_y m_M_behindEnds) (z_y m_M_behindEnds) ∈ z_tb := z_inp (List.mem_of_getElem? (i := 100) rfl) rfl
theorem mi_M_lives : z_mi m_M_lives 1 := ⟨cl_M.1, z_in9 (List.mem_of_getElem? (i := 18) rfl) rfl, z_in1 (List.mem_of_getElem? (i := 13) rfl) rfl, cl_M.2, by decide +kernel⟩
theorem mv_M_lives : Cond.instanceMethod (z_y m_M_lives) ∈ z_tb := z_in9 (List.mem_of_getElem? (i := 17) rfl) rfl
theorem se_M_lives : Cond.selects (z_y m_M_lives).cls (z_y m_M_lives) (z_y m_M_lives) ∈ z_tb := z_inp (List.mem_of_getElem? (i := 93) rfl) rfl
theorem mi_M_live : z_mi m_M_live 1 := ⟨cl_M.1, z_in9 (List.mem_of_getElem? (i := 14) rfl) rfl, z_in1 (List.mem_of_getElem? (i := 13) rfl) rfl, cl_M.2, by decide +kernel⟩
theorem mv_M_live : Cond.instanceMethod (z_y m_M_live) ∈ z_tb := z_in9 (List.mem_of_getElem? (i := 12) rfl) rfl
theorem se_M_live : Cond.selects (z_y m_M_live).cls (z_y m_M_live) (z_y m_M_live) ∈ z_tb := z_in9 (List.mem_of_getElem? (i := 13) rfl) rfl
theorem mi_M_lived : z_mi m_M_lived 1 := ⟨cl_M.1, z_in9 (List.mem_of_getElem? (i := 51) rfl) rfl, z_in1 (List.mem_of_getElem? (i := 13) rfl) rfl, cl_M.2, by decide +kernel⟩
theorem mv_M_lived : Cond.instanceMethod (z_y m_M_lived) ∈ z_tb := z_in9 (List.mem_of_getElem? (i := 49) rfl) rfl
theorem se_M_lived : Cond.selects (z_y m_M_lived).cls (z_y m_M_lived) (z_y m_M_lived) ∈ z_tb := z_in9 (List.mem_of_getElem? (i := 50) rfl) rfl
theorem mi_M_mean : z_mi m_M_mean 2 := ⟨cl_M.1, z_in9 (List.mem_of_getElem? (i := 55) rfl) rfl, z_in1 (List.mem_of_getElem? (i := 13) rfl) rfl, cl_M.2, by decide +kernel⟩
theorem mv_M_mean : Cond.instanceMethod (z_y m_M_mean) ∈ z_tb := z_in9 (List.mem_of_getElem? (i := 53) rfl) rfl
theorem se_M_mean : Cond.selects (z_y m_M_mean).cls (z_y m_M_mean) (z_y m_M_mean) ∈ z_tb := z_in9 (List.mem_of_getElem? (i := 54) rfl) rfl
theorem mi_M_copies : z_mi m_M_copies 2 := ⟨cl_M.1, z_in9 (List.mem_of_getElem? (i := 63) rfl) rfl, z_in1 (List.mem_of_getElem? (i := 13) rfl) rfl, cl_M.2, by decide +kernel⟩
theorem mv_M_copies : Cond.instanceMethod (z_y m_M_copies) ∈ z_tb := z_in9 (List.mem_of_getElem? (i := 62) rfl) rfl
theorem se_M_copies : Cond.selects (z_y m_M_copies).cls (z_y m_M_copies) (z_y m_M_copies) ∈ z_tb := z_inp (List.mem_of_getElem? (i := 101) rfl) rfl
theorem mi_M_mark : z_mi m_M_mark 0 := ⟨cl_M.1, z_in9 (List.mem_of_getElem? (i := 59) rfl) rfl, z_in1 (List.mem_of_getElem? (i := 13) rfl) rfl, cl_M.2, by decide +kernel⟩
theorem mv_M_mark : Cond.instanceMethod (z_y m_M_mark) ∈ z_tb := z_in9 (List.mem_of_getElem? (i := 57) rfl) rfl
theorem se_M_mark : Cond.selects (z_y m_M_mark).cls (z_y m_M_mark) (z_y m_M_mark) ∈ z_tb := z_in9 (List.mem_of_getElem? (i := 58) rfl) rfl
theorem mi_M_undo : z_mi m_M_undo 0 := ⟨cl_M.1, z_in9 (List.mem_of_getElem? (i := 67) rfl) rfl, z_in1 (List.mem_of_getElem? (i := 13) rfl) rfl, cl_M.2, by decide +kernel⟩
theorem mv_M_undo : Cond.instanceMethod (z_y m_M_undo) ∈ z_tb := z_in9 (List.mem_of_getElem? (i := 65) rfl) rfl
theorem se_M_undo : Cond.selects (z_y m_M_undo).cls (z_y m_M_undo) (z_y m_M_undo) ∈ z_tb := z_in9 (List.mem_of_getElem? (i := 66) rfl) rfl
theorem mi_St_length : z_mi m_St_length 0 := ⟨cl_St.1, z_in3 (List.mem_of_getElem? (i := 139) rfl) rfl, z_in1 (List.mem_of_getElem? (i := 16) rfl) rfl, cl_St.2, by decide +kernel⟩
theorem mv_St_length : Cond.instanceMethod (z_y m_St_length) ∈ z_tb := z_in3 (List.mem_of_getElem? (i := 137) rfl) rfl
theorem se_St_length : Cond.selects (z_y m_St_length).cls (z_y m_St_length) (z_y m_St_length) ∈ z_tb := z_in3 (List.mem_of_getElem? (i := 138) rfl) rfl
theorem mi_St_charAt : z_mi m_St_charAt 1 := ⟨cl_St.1, z_in3 (List.mem_of_getElem? (i := 149) rfl) rfl, z_in1 (List.mem_of_getElem? (i := 16) rfl) rfl, cl_St.2, by decide +kernel⟩
theorem mv_St_charAt : Cond.instanceMethod (z_y m_St_charAt) ∈ z_tb := z_in3 (List.mem_of_getElem? (i := 147) rfl) rfl
theorem se_St_charAt : Cond.selects (z_y m_St_charAt).cls (z_y m_St_charAt) (z_y m_St_charAt) ∈ z_tb := z_in3 (List.mem_of_getElem? (i := 148) rfl) rfl
theorem mi_St_coder : z_mi m_St_coder 0 := ⟨cl_St.1, z_in3 (List.mem_of_getElem? (i := 143) rfl) rfl, z_in1 (List.mem_of_getElem? (i := 16) rfl) rfl, cl_St.2, by decide +kernel⟩
theorem mv_St_coder : Cond.instanceMethod (z_y m_St_coder) ∈ z_tb := z_in3 (List.mem_of_getElem? (i := 141) rfl) rfl
theorem se_St_coder : Cond.selects (z_y m_St_coder).cls (z_y m_St_coder) (z_y m_St_coder) ∈ z_tb := z_in3 (List.mem_of_getElem? (i := 142) rfl) rfl
theorem mi_St_isLatin1 : z_mi m_St_isLatin1 0 := ⟨cl_St.1, z_in3 (List.mem_of_getElem? (i := 153) rfl) rfl, z_in1 (List.mem_of_getElem? (i := 16) rfl) rfl, cl_St.2, by decide +kernel⟩
theorem mv_St_isLatin1 : Cond.instanceMethod (z_y m_St_isLatin1) ∈ z_tb := z_in3 (List.mem_of_getElem? (i := 151) rfl) rfl
theorem se_St_isLatin1 : Cond.selects (z_y m_St_isLatin1).cls (z_y m_St_isLatin1) (z_y m_St_isLatin1) ∈ z_tb := z_in3 (List.mem_of_getElem? (i := 152) rfl) rfl
theorem mi_St_checkIndex : z_mi m_St_checkIndex 2 := ⟨cl_St.1, z_in3 (List.mem_of_getElem? (i := 159) rfl) rfl, z_in1 (List.mem_of_getElem? (i := 16) rfl) rfl, cl_St.2, by decide +kernel⟩
theorem ms_St_checkIndex : Cond.static (z_y m_St_checkIndex) ∈ z_tb := z_in3 (List.mem_of_getElem? (i := 158) rfl) rfl
theorem ml_Law_9 : Cond.methodLink "FareyRankLaw" 9 (z_y m_F_init) ∈ z_tb := z_in1 (List.mem_of_getElem? (i := 22) rfl) rfl
theorem ml_F_22 : Cond.methodLink "FareyRank" 22 (z_y m_Tr_init) ∈ z_tb := z_in1 (List.mem_of_getElem? (i := 30) rfl) rfl
theorem ml_F_42 : Cond.methodLink "FareyRank" 42 (z_y m_Rw_init) ∈ z_tb := z_in1 (List.mem_of_getElem? (i := 172) rfl) rfl
theorem ml_F_59 : Cond.methodLink "FareyRank" 59 (z_y m_Sp_init) ∈ z_tb := z_in1 (List.mem_of_getElem? (i := 203) rfl) rfl
theorem ml_Sp_9 : Cond.methodLink "FareyRank$Spot" 9 (z_y m_Sp_toRoot) ∈ z_tb := z_in1 (List.mem_of_getElem? (i := 207) rfl) rfl
theorem ml_F_66 : Cond.methodLink "FareyRank" 66 (z_y m_Bd_init) ∈ z_tb := z_in1 (List.mem_of_getElem? (i := 233) rfl) rfl
theorem ml_Bd_11 : Cond.methodLink "FareyRank$Board" 11 (z_y m_Sp_init) ∈ z_tb := z_in1 (List.mem_of_getElem? (i := 238) rfl) rfl
theorem ml_Bd_39 : Cond.methodLink "FareyRank$Board" 39 (z_y m_Bd_clear) ∈ z_tb := z_in2 (List.mem_of_getElem? (i := 80) rfl) rfl
theorem ml_Bd_49 : Cond.methodLink "FareyRank$Board" 49 (z_y m_Sp_toRoot) ∈ z_tb := z_in2 (List.mem_of_getElem? (i := 84) rfl) rfl
theorem ml_Bd_55 : Cond.methodLink "FareyRank$Board" 55 (z_y m_Vi_startAt) ∈ z_tb := z_in2 (List.mem_of_getElem? (i := 85) rfl) rfl
theorem ml_Vi_25 : Cond.methodLink "FareyRank$Visits" 25 (z_y m_Vi_enter) ∈ z_tb := z_in2 (List.mem_of_getElem? (i := 89) rfl) rfl
theorem ml_Vi_29 : Cond.methodLink "FareyRank$Visits" 29 (z_y m_Sp_ownTop) ∈ z_tb := z_in2 (List.mem_of_getElem? (i := 93) rfl) rfl
theorem ml_Vi_35 : Cond.methodLink "FareyRank$Visits" 35 (z_y m_Sp_ownBottom) ∈ z_tb := z_in2 (List.mem_of_getElem? (i := 97) rfl) rfl
theorem ml_Vi_38 : Cond.methodLink "FareyRank$Visits" 38 (z_y m_Vi_keyOf) ∈ z_tb := z_in2 (List.mem_of_getElem? (i := 101) rfl) rfl
theorem ml_Vi_42 : Cond.methodLink "FareyRank$Visits" 42 (z_y m_Vi_placeOf) ∈ z_tb := z_in2 (List.mem_of_getElem? (i := 104) rfl) rfl
theorem ml_Bd_59 : Cond.methodLink "FareyRank$Board" 59 (z_y m_Pg_clear) ∈ z_tb := z_in2 (List.mem_of_getElem? (i := 108) rfl) rfl
theorem ml_Law_13 : Cond.methodLink "FareyRankLaw" 13 (z_y m_F_status) ∈ z_tb := z_in3 (List.mem_of_getElem? (i := 0) rfl) rfl
theorem ml_Law_18 : Cond.methodLink "FareyRankLaw" 18 (z_y m_F_top) ∈ z_tb := z_in3 (List.mem_of_getElem? (i := 4) rfl) rfl
theorem ml_Law_23 : Cond.methodLink "FareyRankLaw" 23 (z_y m_F_bottom) ∈ z_tb := z_in3 (List.mem_of_getElem? (i := 8) rfl) rfl
theorem ml_Law_27 : Cond.methodLink "FareyRankLaw" 27 (z_y m_F_tray) ∈ z_tb := z_in3 (List.mem_of_getElem? (i := 12) rfl) rfl
theorem ml_F_95 : Cond.methodLink "FareyRank" 95 (z_y m_Tr_isTray) ∈ z_tb := z_in3 (List.mem_of_getElem? (i := 16) rfl) rfl
theorem ml_F_99 : Cond.methodLink "FareyRank" 99 (z_y m_Tr_isSort) ∈ z_tb := z_in3 (List.mem_of_getElem? (i := 20) rfl) rfl
theorem ml_F_102 : Cond.methodLink "FareyRank" 102 (z_y m_F_refuse) ∈ z_tb := z_in3 (List.mem_of_getElem? (i := 24) rfl) rfl
theorem ml_F_105 : Cond.methodLink "FareyRank" 105 (z_y m_Tr_lay) ∈ z_tb := z_in3 (List.mem_of_getElem? (i := 28) rfl) rfl
theorem ml_Tr_21 : Cond.methodLink "FareyRank$Trays" 21 (z_y m_Tr_isTray) ∈ z_tb := z_in3 (List.mem_of_getElem? (i := 32) rfl) rfl
theorem ml_F_109 : Cond.methodLink "FareyRank" 109 (z_y m_F_accept) ∈ z_tb := z_in3 (List.mem_of_getElem? (i := 33) rfl) rfl
theorem ml_Law_34 : Cond.methodLink "FareyRankLaw" 34 (z_y m_F_write) ∈ z_tb := z_in3 (List.mem_of_getElem? (i := 37) rfl) rfl
theorem ml_F_113 : Cond.methodLink "FareyRank" 113 (z_y m_F_whyNoPlace) ∈ z_tb := z_in3 (List.mem_of_getElem? (i := 41) rfl) rfl
theorem ml_F_129 : Cond.methodLink "FareyRank" 129 (z_y m_Tr_isMissing) ∈ z_tb := z_in3 (List.mem_of_getElem? (i := 45) rfl) rfl
theorem ml_F_135 : Cond.methodLink "FareyRank" 135 (z_y m_Tr_hasRoom) ∈ z_tb := z_in3 (List.mem_of_getElem? (i := 49) rfl) rfl
theorem ml_Tr_25 : Cond.methodLink "FareyRank$Trays" 25 (z_y m_Tr_isMissing) ∈ z_tb := z_in3 (List.mem_of_getElem? (i := 53) rfl) rfl
theorem ml_F_117 : Cond.methodLink "FareyRank" 117 (z_y m_Tr_put) ∈ z_tb := z_in3 (List.mem_of_getElem? (i := 54) rfl) rfl
theorem ml_Tr_28 : Cond.methodLink "FareyRank$Trays" 28 (z_y m_Tr_hasRoom) ∈ z_tb := z_in3 (List.mem_of_getElem? (i := 58) rfl) rfl
theorem ml_Tr_32 : Cond.methodLink "FareyRank$Trays" 32 (z_y m_Tr_cut) ∈ z_tb := z_in3 (List.mem_of_getElem? (i := 59) rfl) rfl
theorem ml_Law_39 : Cond.methodLink "FareyRankLaw" 39 (z_y m_F_read) ∈ z_tb := z_in3 (List.mem_of_getElem? (i := 62) rfl) rfl
theorem ml_F_121 : Cond.methodLink "FareyRank" 121 (z_y m_F_none) ∈ z_tb := z_in3 (List.mem_of_getElem? (i := 66) rfl) rfl
theorem ml_F_125 : Cond.methodLink "FareyRank" 125 (z_y m_Tr_look) ∈ z_tb := z_in3 (List.mem_of_getElem? (i := 70) rfl) rfl
theorem ml_Law_44 : Cond.methodLink "FareyRankLaw" 44 (z_y m_F_pour) ∈ z_tb := z_in3 (List.mem_of_getElem? (i := 74) rfl) rfl
theorem ml_F_132 : Cond.methodLink "FareyRank" 132 (z_y m_Tr_sortOf) ∈ z_tb := z_in3 (List.mem_of_getElem? (i := 78) rfl) rfl
theorem ml_F_139 : Cond.methodLink "FareyRank" 139 (z_y m_Tr_move) ∈ z_tb := z_in3 (List.mem_of_getElem? (i := 82) rfl) rfl
theorem ml_Law_49 : Cond.methodLink "FareyRankLaw" 49 (z_y m_F_feed) ∈ z_tb := z_in3 (List.mem_of_getElem? (i := 89) rfl) rfl
theorem ml_F_152 : Cond.methodLink "FareyRank" 152 (z_y m_Ta_takeInt) ∈ z_tb := z_in3 (List.mem_of_getElem? (i := 93) rfl) rfl
theorem ml_Law_54 : Cond.methodLink "FareyRankLaw" 54 (z_y m_F_study) ∈ z_tb := z_in3 (List.mem_of_getElem? (i := 97) rfl) rfl
theorem ml_F_156 : Cond.methodLink "FareyRank" 156 (z_y m_Pa_readStudy) ∈ z_tb := z_in3 (List.mem_of_getElem? (i := 101) rfl) rfl
theorem ml_Pa_29 : Cond.methodLink "FareyRank$Parser" 29 (z_y m_Bd_clear) ∈ z_tb := z_in3 (List.mem_of_getElem? (i := 105) rfl) rfl
theorem ml_Pa_44 : Cond.methodLink "FareyRank$Parser" 44 (z_y m_Ta_start) ∈ z_tb := z_in3 (List.mem_of_getElem? (i := 106) rfl) rfl
theorem ml_Ta_40 : Cond.methodLink "FareyRank$Tape" 40 (z_y m_Ta_advance) ∈ z_tb := z_in3 (List.mem_of_getElem? (i := 116) rfl) rfl
theorem ml_Ta_46 : Cond.methodLink "FareyRank$Tape" 46 (z_y m_Ta_sortOfSign) ∈ z_tb := z_in3 (List.mem_of_getElem? (i := 120) rfl) rfl
theorem ml_Pa_48 : Cond.methodLink "FareyRank$Parser" 48 (z_y m_Ta_isEnded) ∈ z_tb := z_in3 (List.mem_of_getElem? (i := 123) rfl) rfl
theorem ml_Pa_52 : Cond.methodLink "FareyRank$Parser" 52 (z_y m_Pa_readPart) ∈ z_tb := z_in3 (List.mem_of_getElem? (i := 127) rfl) rfl
theorem ml_Pa_72 : Cond.methodLink "FareyRank$Parser" 72 (z_y m_Ta_isWord) ∈ z_tb := z_in3 (List.mem_of_getElem? (i := 132) rfl) rfl
theorem ml_Ta_56 : Cond.methodLink "FareyRank$Tape" 56 (z_y m_St_length) ∈ z_tb := z_in3 (List.mem_of_getElem? (i := 136) rfl) rfl
theorem ml_St_335 : Cond.methodLink "java/lang/String" 335 (z_y m_St_coder) ∈ z_tb := z_in3 (List.mem_of_getElem? (i := 140) rfl) rfl
theorem ml_Ta_61 : Cond.methodLink "FareyRank$Tape" 61 (z_y m_St_charAt) ∈ z_tb := z_in3 (List.mem_of_getElem? (i := 146) rfl) rfl
theorem ml_St_492 : Cond.methodLink "java/lang/String" 492 (z_y m_St_isLatin1) ∈ z_tb := z_in3 (List.mem_of_getElem? (i := 150) rfl) rfl
theorem ml_Pa_76 : Cond.methodLink "FareyRank$Parser" 76 (z_y m_Pa_readOdds) ∈ z_tb := z_in3 (List.mem_of_getElem? (i := 184) rfl) rfl
theorem ml_Pa_105 : Cond.methodLink "FareyRank$Parser" 105 (z_y m_Ta_fail) ∈ z_tb := z_in3 (List.mem_of_getElem? (i := 188) rfl) rfl
theorem ml_Pa_109 : Cond.methodLink "FareyRank$Parser" 109 (z_y m_Ta_advance) ∈ z_tb := z_in3 (List.mem_of_getElem? (i := 192) rfl) rfl
theorem ml_Pa_112 : Cond.methodLink "FareyRank$Parser" 112 (z_y m_Ta_passNumber) ∈ z_tb := z_in3 (List.mem_of_getElem? (i := 193) rfl) rfl
theorem ml_Ta_73 : Cond.methodLink "FareyRank$Tape" 73 (z_y m_Ta_failHere) ∈ z_tb := z_in3 (List.mem_of_getElem? (i := 197) rfl) rfl
theorem ml_Ta_65 : Cond.methodLink "FareyRank$Tape" 65 (z_y m_Ta_fail) ∈ z_tb := z_in3 (List.mem_of_getElem? (i := 201) rfl) rfl
theorem ml_Pa_79 : Cond.methodLink "FareyRank$Parser" 79 (z_y m_Ta_passSign) ∈ z_tb := z_in3 (List.mem_of_getElem? (i := 202) rfl) rfl
theorem ml_Ta_77 : Cond.methodLink "FareyRank$Tape" 77 (z_y m_Ta_isThisSign) ∈ z_tb := z_in3 (List.mem_of_getElem? (i := 206) rfl) rfl
theorem ml_Pa_85 : Cond.methodLink "FareyRank$Parser" 85 (z_y m_Pa_readOrder) ∈ z_tb := z_in3 (List.mem_of_getElem? (i := 211) rfl) rfl
theorem ml_Pa_90 : Cond.methodLink "FareyRank$Parser" 90 (z_y m_Pa_readHere) ∈ z_tb := z_in3 (List.mem_of_getElem? (i := 216) rfl) rfl
theorem ml_Pa_122 : Cond.methodLink "FareyRank$Parser" 122 (z_y m_Pa_readValue) ∈ z_tb := z_in3 (List.mem_of_getElem? (i := 220) rfl) rfl
theorem ml_Pa_164 : Cond.methodLink "FareyRank$Parser" 164 (z_y m_Ta_passWord) ∈ z_tb := z_in3 (List.mem_of_getElem? (i := 225) rfl) rfl
theorem ml_Ta_69 : Cond.methodLink "FareyRank$Tape" 69 (z_y m_Ta_isWord) ∈ z_tb := z_in3 (List.mem_of_getElem? (i := 229) rfl) rfl
theorem ml_Pa_172 : Cond.methodLink "FareyRank$Parser" 172 (z_y m_Ch_unfold) ∈ z_tb := z_in3 (List.mem_of_getElem? (i := 231) rfl) rfl
theorem ml_Ch_42 : Cond.methodLink "FareyRank$Chain" 42 (z_y m_Ch_addTerm) ∈ z_tb := z_in3 (List.mem_of_getElem? (i := 235) rfl) rfl
theorem ml_Pa_125 : Cond.methodLink "FareyRank$Parser" 125 (z_y m_Ch_isOfTree) ∈ z_tb := z_in3 (List.mem_of_getElem? (i := 239) rfl) rfl
theorem ml_Pa_131 : Cond.methodLink "FareyRank$Parser" 131 (z_y m_Sp_standOn) ∈ z_tb := z_in4 (List.mem_of_getElem? (i := 3) rfl) rfl
theorem ml_Sp_48 : Cond.methodLink "FareyRank$Spot" 48 (z_y m_Ch_turns) ∈ z_tb := z_in4 (List.mem_of_getElem? (i := 10) rfl) rfl
theorem ml_Pa_95 : Cond.methodLink "FareyRank$Parser" 95 (z_y m_Pa_readPin) ∈ z_tb := z_in4 (List.mem_of_getElem? (i := 15) rfl) rfl
theorem ml_Pa_152 : Cond.methodLink "FareyRank$Parser" 152 (z_y m_Pi_find) ∈ z_tb := z_in4 (List.mem_of_getElem? (i := 19) rfl) rfl
theorem ml_Pa_158 : Cond.methodLink "FareyRank$Parser" 158 (z_y m_Pi_add) ∈ z_tb := z_in4 (List.mem_of_getElem? (i := 24) rfl) rfl
theorem ml_Pi_31 : Cond.methodLink "FareyRank$Pins" 31 (z_y m_Pi_find) ∈ z_tb := z_in4 (List.mem_of_getElem? (i := 28) rfl) rfl
theorem ml_Pa_98 : Cond.methodLink "FareyRank$Parser" 98 (z_y m_Ta_failHere) ∈ z_tb := z_in4 (List.mem_of_getElem? (i := 29) rfl) rfl
theorem ml_Pa_64 : Cond.methodLink "FareyRank$Parser" 64 (z_y m_Vi_startAt) ∈ z_tb := z_in4 (List.mem_of_getElem? (i := 30) rfl) rfl
theorem ml_F_160 : Cond.methodLink "FareyRank" 160 (z_y m_F_noteFault) ∈ z_tb := z_in4 (List.mem_of_getElem? (i := 31) rfl) rfl
theorem ml_F_163 : Cond.methodLink "FareyRank" 163 (z_y m_Bd_copyFrom) ∈ z_tb := z_in4 (List.mem_of_getElem? (i := 35) rfl) rfl
theorem ml_Bd_60 : Cond.methodLink "FareyRank$Board" 60 (z_y m_Sp_copyFrom) ∈ z_tb := z_in4 (List.mem_of_getElem? (i := 39) rfl) rfl
theorem ml_Bd_63 : Cond.methodLink "FareyRank$Board" 63 (z_y m_Pi_copyFrom) ∈ z_tb := z_in4 (List.mem_of_getElem? (i := 43) rfl) rfl
theorem ml_Bd_66 : Cond.methodLink "FareyRank$Board" 66 (z_y m_Vi_copyFrom) ∈ z_tb := z_in4 (List.mem_of_getElem? (i := 48) rfl) rfl
theorem ml_Bd_69 : Cond.methodLink "FareyRank$Board" 69 (z_y m_Pg_copyFrom) ∈ z_tb := z_in4 (List.mem_of_getElem? (i := 53) rfl) rfl
theorem ml_F_176 : Cond.methodLink "FareyRank" 176 (z_y m_F_give) ∈ z_tb := z_in4 (List.mem_of_getElem? (i := 58) rfl) rfl
theorem ml_Law_59 : Cond.methodLink "FareyRankLaw" 59 (z_y m_F_tours) ∈ z_tb := z_in4 (List.mem_of_getElem? (i := 63) rfl) rfl
theorem ml_F_183 : Cond.methodLink "FareyRank" 183 (z_y m_Pa_readTours) ∈ z_tb := z_in4 (List.mem_of_getElem? (i := 67) rfl) rfl
theorem ml_Pa_176 : Cond.methodLink "FareyRank$Parser" 176 (z_y m_Pg_clear) ∈ z_tb := z_in4 (List.mem_of_getElem? (i := 71) rfl) rfl
theorem ml_Pa_184 : Cond.methodLink "FareyRank$Parser" 184 (z_y m_Pa_readEnd) ∈ z_tb := z_in4 (List.mem_of_getElem? (i := 73) rfl) rfl
theorem ml_Pa_194 : Cond.methodLink "FareyRank$Parser" 194 (z_y m_Pg_addEnd) ∈ z_tb := z_in4 (List.mem_of_getElem? (i := 77) rfl) rfl
theorem ml_Pa_188 : Cond.methodLink "FareyRank$Parser" 188 (z_y m_Pa_readStep) ∈ z_tb := z_in4 (List.mem_of_getElem? (i := 81) rfl) rfl
theorem ml_Pa_197 : Cond.methodLink "FareyRank$Parser" 197 (z_y m_Pa_kindHere) ∈ z_tb := z_in4 (List.mem_of_getElem? (i := 85) rfl) rfl
theorem ml_Pa_231 : Cond.methodLink "FareyRank$Parser" 231 (z_y m_Pg_wordOf) ∈ z_tb := z_in4 (List.mem_of_getElem? (i := 89) rfl) rfl
theorem ml_Pa_213 : Cond.methodLink "FareyRank$Parser" 213 (z_y m_Pa_readTest) ∈ z_tb := z_in4 (List.mem_of_getElem? (i := 104) rfl) rfl
theorem ml_Pa_241 : Cond.methodLink "FareyRank$Parser" 241 (z_y m_Pa_readCompare) ∈ z_tb := z_in4 (List.mem_of_getElem? (i := 112) rfl) rfl
theorem ml_Pa_244 : Cond.methodLink "FareyRank$Parser" 244 (z_y m_Ta_isThisSign) ∈ z_tb := z_in4 (List.mem_of_getElem? (i := 116) rfl) rfl
theorem ml_Pa_216 : Cond.methodLink "FareyRank$Parser" 216 (z_y m_Pa_mostOf) ∈ z_tb := z_in4 (List.mem_of_getElem? (i := 117) rfl) rfl
theorem ml_Pa_220 : Cond.methodLink "FareyRank$Parser" 220 (z_y m_Pa_readFirst) ∈ z_tb := z_in4 (List.mem_of_getElem? (i := 120) rfl) rfl
theorem ml_Pa_227 : Cond.methodLink "FareyRank$Parser" 227 (z_y m_Pg_addStep) ∈ z_tb := z_in4 (List.mem_of_getElem? (i := 124) rfl) rfl
theorem ml_F_187 : Cond.methodLink "FareyRank" 187 (z_y m_Pg_copyFrom) ∈ z_tb := z_in4 (List.mem_of_getElem? (i := 128) rfl) rfl
theorem ml_Law_63 : Cond.methodLink "FareyRankLaw" 63 (z_y m_F_fault) ∈ z_tb := z_in4 (List.mem_of_getElem? (i := 129) rfl) rfl
theorem ml_Law_67 : Cond.methodLink "FareyRankLaw" 67 (z_y m_F_told) ∈ z_tb := z_in4 (List.mem_of_getElem? (i := 133) rfl) rfl
theorem ml_F_203 : Cond.methodLink "FareyRank" 203 (z_y m_Pi_weightOfAll) ∈ z_tb := z_in4 (List.mem_of_getElem? (i := 137) rfl) rfl
theorem ml_Pi_35 : Cond.methodLink "FareyRank$Pins" 35 (z_y m_Pi_weightUpTo) ∈ z_tb := z_in4 (List.mem_of_getElem? (i := 141) rfl) rfl
theorem ml_F_207 : Cond.methodLink "FareyRank" 207 (z_y m_Rw_valuesOf) ∈ z_tb := z_in4 (List.mem_of_getElem? (i := 146) rfl) rfl
theorem ml_Rw_18 : Cond.methodLink "FareyRank$Row" 18 (z_y m_Rw_pairs) ∈ z_tb := z_in4 (List.mem_of_getElem? (i := 150) rfl) rfl
theorem ml_Law_71 : Cond.methodLink "FareyRankLaw" 71 (z_y m_F_size) ∈ z_tb := z_in4 (List.mem_of_getElem? (i := 154) rfl) rfl
theorem ml_Law_75 : Cond.methodLink "FareyRankLaw" 75 (z_y m_F_fraction) ∈ z_tb := z_in4 (List.mem_of_getElem? (i := 158) rfl) rfl
theorem ml_F_223 : Cond.methodLink "FareyRank" 223 (z_y m_Rw_seek) ∈ z_tb := z_in4 (List.mem_of_getElem? (i := 162) rfl) rfl
theorem ml_Rw_44 : Cond.methodLink "FareyRank$Row" 44 (z_y m_Rw_sliceOf) ∈ z_tb := z_in4 (List.mem_of_getElem? (i := 166) rfl) rfl
theorem ml_Rw_51 : Cond.methodLink "FareyRank$Row" 51 (z_y m_Rw_countUnder) ∈ z_tb := z_in4 (List.mem_of_getElem? (i := 170) rfl) rfl
theorem ml_Rw_47 : Cond.methodLink "FareyRank$Row" 47 (z_y m_Rw_pinch) ∈ z_tb := z_in4 (List.mem_of_getElem? (i := 175) rfl) rfl
theorem ml_Rw_55 : Cond.methodLink "FareyRank$Row" 55 (z_y m_Rw_stepUp) ∈ z_tb := z_in4 (List.mem_of_getElem? (i := 180) rfl) rfl
theorem ml_F_233 : Cond.methodLink "FareyRank" 233 (z_y m_F_tell) ∈ z_tb := z_in4 (List.mem_of_getElem? (i := 184) rfl) rfl
theorem ml_F_436 : Cond.methodLink "FareyRank" 436 (z_y m_F_divisorOf) ∈ z_tb := z_in4 (List.mem_of_getElem? (i := 188) rfl) rfl
theorem ml_Law_80 : Cond.methodLink "FareyRankLaw" 80 (z_y m_F_place) ∈ z_tb := z_in4 (List.mem_of_getElem? (i := 191) rfl) rfl
theorem ml_F_237 : Cond.methodLink "FareyRank" 237 (z_y m_Ch_take) ∈ z_tb := z_in4 (List.mem_of_getElem? (i := 195) rfl) rfl
theorem ml_Ch_32 : Cond.methodLink "FareyRank$Chain" 32 (z_y m_Ch_unfold) ∈ z_tb := z_in4 (List.mem_of_getElem? (i := 202) rfl) rfl
theorem ml_F_247 : Cond.methodLink "FareyRank" 247 (z_y m_Rw_countUnder) ∈ z_tb := z_in4 (List.mem_of_getElem? (i := 203) rfl) rfl
theorem ml_Law_85 : Cond.methodLink "FareyRankLaw" 85 (z_y m_F_rank) ∈ z_tb := z_in4 (List.mem_of_getElem? (i := 204) rfl) rfl
theorem ml_Law_89 : Cond.methodLink "FareyRankLaw" 89 (z_y m_F_below) ∈ z_tb := z_in4 (List.mem_of_getElem? (i := 208) rfl) rfl
theorem ml_Law_94 : Cond.methodLink "FareyRankLaw" 94 (z_y m_F_above) ∈ z_tb := z_in4 (List.mem_of_getElem? (i := 213) rfl) rfl
theorem ml_F_253 : Cond.methodLink "FareyRank" 253 (z_y m_Rw_pinch) ∈ z_tb := z_in4 (List.mem_of_getElem? (i := 217) rfl) rfl
theorem ml_Law_99 : Cond.methodLink "FareyRankLaw" 99 (z_y m_F_ahead) ∈ z_tb := z_in4 (List.mem_of_getElem? (i := 218) rfl) rfl
theorem ml_Law_103 : Cond.methodLink "FareyRankLaw" 103 (z_y m_F_nearest) ∈ z_tb := z_in4 (List.mem_of_getElem? (i := 222) rfl) rfl
theorem ml_F_263 : Cond.methodLink "FareyRank" 263 (z_y m_F_cross) ∈ z_tb := z_in4 (List.mem_of_getElem? (i := 226) rfl) rfl
theorem ml_Law_107 : Cond.methodLink "FareyRankLaw" 107 (z_y m_F_between) ∈ z_tb := z_in4 (List.mem_of_getElem? (i := 227) rfl) rfl
theorem ml_F_267 : Cond.methodLink "FareyRank" 267 (z_y m_F_takeRising) ∈ z_tb := z_in4 (List.mem_of_getElem? (i := 231) rfl) rfl
theorem ml_F_288 : Cond.methodLink "FareyRank" 288 (z_y m_F_isValue) ∈ z_tb := z_in4 (List.mem_of_getElem? (i := 235) rfl) rfl
theorem ml_F_291 : Cond.methodLink "FareyRank" 291 (z_y m_Ch_unfold) ∈ z_tb := z_in4 (List.mem_of_getElem? (i := 236) rfl) rfl
theorem ml_F_271 : Cond.methodLink "FareyRank" 271 (z_y m_Ch_isAlike) ∈ z_tb := z_in4 (List.mem_of_getElem? (i := 237) rfl) rfl
theorem ml_Law_112 : Cond.methodLink "FareyRankLaw" 112 (z_y m_F_coprimes) ∈ z_tb := z_in5 (List.mem_of_getElem? (i := 1) rfl) rfl
theorem ml_F_275 : Cond.methodLink "FareyRank" 275 (z_y m_Rw_pairs) ∈ z_tb := z_in5 (List.mem_of_getElem? (i := 5) rfl) rfl
theorem ml_Law_116 : Cond.methodLink "FareyRankLaw" 116 (z_y m_F_simplest) ∈ z_tb := z_in5 (List.mem_of_getElem? (i := 6) rfl) rfl
theorem ml_F_278 : Cond.methodLink "FareyRank" 278 (z_y m_Sp_squeeze) ∈ z_tb := z_in5 (List.mem_of_getElem? (i := 10) rfl) rfl
theorem ml_Sp_55 : Cond.methodLink "FareyRank$Spot" 55 (z_y m_Sp_ownTop) ∈ z_tb := z_in5 (List.mem_of_getElem? (i := 14) rfl) rfl
theorem ml_Sp_52 : Cond.methodLink "FareyRank$Spot" 52 (z_y m_Sp_ownBottom) ∈ z_tb := z_in5 (List.mem_of_getElem? (i := 15) rfl) rfl
theorem ml_F_282 : Cond.methodLink "FareyRank" 282 (z_y m_Sp_ownTop) ∈ z_tb := z_in5 (List.mem_of_getElem? (i := 16) rfl) rfl
theorem ml_F_285 : Cond.methodLink "FareyRank" 285 (z_y m_Sp_ownBottom) ∈ z_tb := z_in5 (List.mem_of_getElem? (i := 17) rfl) rfl
theorem ml_Law_121 : Cond.methodLink "FareyRankLaw" 121 (z_y m_F_wide) ∈ z_tb := z_in5 (List.mem_of_getElem? (i := 18) rfl) rfl
theorem ml_Law_125 : Cond.methodLink "FareyRankLaw" 125 (z_y m_F_depth) ∈ z_tb := z_in5 (List.mem_of_getElem? (i := 22) rfl) rfl
theorem ml_F_294 : Cond.methodLink "FareyRank" 294 (z_y m_F_whyNotOfTree) ∈ z_tb := z_in5 (List.mem_of_getElem? (i := 26) rfl) rfl
theorem ml_F_338 : Cond.methodLink "FareyRank" 338 (z_y m_Ch_isOfTree) ∈ z_tb := z_in5 (List.mem_of_getElem? (i := 30) rfl) rfl
theorem ml_F_297 : Cond.methodLink "FareyRank" 297 (z_y m_Ch_turns) ∈ z_tb := z_in5 (List.mem_of_getElem? (i := 31) rfl) rfl
theorem ml_Law_129 : Cond.methodLink "FareyRankLaw" 129 (z_y m_F_turnAt) ∈ z_tb := z_in5 (List.mem_of_getElem? (i := 32) rfl) rfl
theorem ml_F_300 : Cond.methodLink "FareyRank" 300 (z_y m_Ch_turnOf) ∈ z_tb := z_in5 (List.mem_of_getElem? (i := 36) rfl) rfl
theorem ml_Ch_46 : Cond.methodLink "FareyRank$Chain" 46 (z_y m_Ch_termOf) ∈ z_tb := z_in5 (List.mem_of_getElem? (i := 40) rfl) rfl
theorem ml_Law_134 : Cond.methodLink "FareyRankLaw" 134 (z_y m_F_parent) ∈ z_tb := z_in5 (List.mem_of_getElem? (i := 44) rfl) rfl
theorem ml_F_303 : Cond.methodLink "FareyRank" 303 (z_y m_Sp_standOn) ∈ z_tb := z_in5 (List.mem_of_getElem? (i := 48) rfl) rfl
theorem ml_F_307 : Cond.methodLink "FareyRank" 307 (z_y m_Sp_climb) ∈ z_tb := z_in5 (List.mem_of_getElem? (i := 49) rfl) rfl
theorem ml_Law_138 : Cond.methodLink "FareyRankLaw" 138 (z_y m_F_follow) ∈ z_tb := z_in5 (List.mem_of_getElem? (i := 53) rfl) rfl
theorem ml_F_310 : Cond.methodLink "FareyRank" 310 (z_y m_Sp_toRoot) ∈ z_tb := z_in5 (List.mem_of_getElem? (i := 57) rfl) rfl
theorem ml_F_313 : Cond.methodLink "FareyRank" 313 (z_y m_Sp_descend) ∈ z_tb := z_in5 (List.mem_of_getElem? (i := 58) rfl) rfl
theorem ml_Law_142 : Cond.methodLink "FareyRankLaw" 142 (z_y m_F_terms) ∈ z_tb := z_in5 (List.mem_of_getElem? (i := 62) rfl) rfl
theorem ml_Law_146 : Cond.methodLink "FareyRankLaw" 146 (z_y m_F_termAt) ∈ z_tb := z_in5 (List.mem_of_getElem? (i := 66) rfl) rfl
theorem ml_F_317 : Cond.methodLink "FareyRank" 317 (z_y m_Ch_termOf) ∈ z_tb := z_in5 (List.mem_of_getElem? (i := 70) rfl) rfl
theorem ml_Law_150 : Cond.methodLink "FareyRankLaw" 150 (z_y m_F_digits) ∈ z_tb := z_in5 (List.mem_of_getElem? (i := 71) rfl) rfl
theorem ml_F_320 : Cond.methodLink "FareyRank" 320 (z_y m_F_timesWithin) ∈ z_tb := z_in5 (List.mem_of_getElem? (i := 75) rfl) rfl
theorem ml_F_328 : Cond.methodLink "FareyRank" 328 (z_y m_F_without) ∈ z_tb := z_in5 (List.mem_of_getElem? (i := 79) rfl) rfl
theorem ml_F_332 : Cond.methodLink "FareyRank" 332 (z_y m_F_periodOf) ∈ z_tb := z_in5 (List.mem_of_getElem? (i := 82) rfl) rfl
theorem ml_Law_154 : Cond.methodLink "FareyRankLaw" 154 (z_y m_F_digitAt) ∈ z_tb := z_in5 (List.mem_of_getElem? (i := 85) rfl) rfl
theorem ml_F_335 : Cond.methodLink "FareyRank" 335 (z_y m_F_restOf) ∈ z_tb := z_in5 (List.mem_of_getElem? (i := 89) rfl) rfl
theorem ml_Law_158 : Cond.methodLink "FareyRankLaw" 158 (z_y m_F_here) ∈ z_tb := z_in5 (List.mem_of_getElem? (i := 92) rfl) rfl
theorem ml_Law_163 : Cond.methodLink "FareyRankLaw" 163 (z_y m_F_go) ∈ z_tb := z_in5 (List.mem_of_getElem? (i := 96) rfl) rfl
theorem ml_F_341 : Cond.methodLink "FareyRank" 341 (z_y m_Bd_goDown) ∈ z_tb := z_in5 (List.mem_of_getElem? (i := 100) rfl) rfl
theorem ml_Bd_72 : Cond.methodLink "FareyRank$Board" 72 (z_y m_Sp_bottomBehind) ∈ z_tb := z_in5 (List.mem_of_getElem? (i := 104) rfl) rfl
theorem ml_Bd_76 : Cond.methodLink "FareyRank$Board" 76 (z_y m_Sp_descend) ∈ z_tb := z_in5 (List.mem_of_getElem? (i := 108) rfl) rfl
theorem ml_Bd_80 : Cond.methodLink "FareyRank$Board" 80 (z_y m_Vi_enter) ∈ z_tb := z_in5 (List.mem_of_getElem? (i := 109) rfl) rfl
theorem ml_Law_167 : Cond.methodLink "FareyRankLaw" 167 (z_y m_F_up) ∈ z_tb := z_in5 (List.mem_of_getElem? (i := 110) rfl) rfl
theorem ml_F_344 : Cond.methodLink "FareyRank" 344 (z_y m_Bd_goUp) ∈ z_tb := z_in5 (List.mem_of_getElem? (i := 114) rfl) rfl
theorem ml_Bd_83 : Cond.methodLink "FareyRank$Board" 83 (z_y m_Sp_climb) ∈ z_tb := z_in5 (List.mem_of_getElem? (i := 118) rfl) rfl
theorem ml_Law_171 : Cond.methodLink "FareyRankLaw" 171 (z_y m_F_flip) ∈ z_tb := z_in5 (List.mem_of_getElem? (i := 119) rfl) rfl
theorem ml_F_347 : Cond.methodLink "FareyRank" 347 (z_y m_Bd_goAcross) ∈ z_tb := z_in5 (List.mem_of_getElem? (i := 123) rfl) rfl
theorem ml_Bd_87 : Cond.methodLink "FareyRank$Board" 87 (z_y m_Sp_mirror) ∈ z_tb := z_in5 (List.mem_of_getElem? (i := 127) rfl) rfl
theorem ml_Law_175 : Cond.methodLink "FareyRankLaw" 175 (z_y m_F_jump) ∈ z_tb := z_in5 (List.mem_of_getElem? (i := 131) rfl) rfl
theorem ml_F_350 : Cond.methodLink "FareyRank" 350 (z_y m_Bd_goTo) ∈ z_tb := z_in5 (List.mem_of_getElem? (i := 135) rfl) rfl
theorem ml_Bd_90 : Cond.methodLink "FareyRank$Board" 90 (z_y m_Sp_standOn) ∈ z_tb := z_in5 (List.mem_of_getElem? (i := 139) rfl) rfl
theorem ml_Law_179 : Cond.methodLink "FareyRankLaw" 179 (z_y m_F_wasAt) ∈ z_tb := z_in5 (List.mem_of_getElem? (i := 140) rfl) rfl
theorem ml_F_353 : Cond.methodLink "FareyRank" 353 (z_y m_Vi_holds) ∈ z_tb := z_in5 (List.mem_of_getElem? (i := 144) rfl) rfl
theorem ml_Law_183 : Cond.methodLink "FareyRankLaw" 183 (z_y m_F_rule) ∈ z_tb := z_in5 (List.mem_of_getElem? (i := 148) rfl) rfl
theorem ml_Law_187 : Cond.methodLink "FareyRankLaw" 187 (z_y m_F_pin) ∈ z_tb := z_in5 (List.mem_of_getElem? (i := 152) rfl) rfl
theorem ml_F_356 : Cond.methodLink "FareyRank" 356 (z_y m_Pi_whyNotMore) ∈ z_tb := z_in5 (List.mem_of_getElem? (i := 156) rfl) rfl
theorem ml_F_359 : Cond.methodLink "FareyRank" 359 (z_y m_Pi_add) ∈ z_tb := z_in5 (List.mem_of_getElem? (i := 160) rfl) rfl
theorem ml_Law_191 : Cond.methodLink "FareyRankLaw" 191 (z_y m_F_lift) ∈ z_tb := z_in5 (List.mem_of_getElem? (i := 161) rfl) rfl
theorem ml_F_362 : Cond.methodLink "FareyRank" 362 (z_y m_Pi_find) ∈ z_tb := z_in5 (List.mem_of_getElem? (i := 165) rfl) rfl
theorem ml_F_365 : Cond.methodLink "FareyRank" 365 (z_y m_Pi_drop) ∈ z_tb := z_in5 (List.mem_of_getElem? (i := 166) rfl) rfl
theorem ml_Law_195 : Cond.methodLink "FareyRankLaw" 195 (z_y m_F_weight) ∈ z_tb := z_in5 (List.mem_of_getElem? (i := 170) rfl) rfl
theorem ml_Law_199 : Cond.methodLink "FareyRankLaw" 199 (z_y m_F_pinAt) ∈ z_tb := z_in5 (List.mem_of_getElem? (i := 174) rfl) rfl
theorem ml_F_372 : Cond.methodLink "FareyRank" 372 (z_y m_F_tellPin) ∈ z_tb := z_in5 (List.mem_of_getElem? (i := 178) rfl) rfl
theorem ml_Law_203 : Cond.methodLink "FareyRankLaw" 203 (z_y m_F_risingAt) ∈ z_tb := z_in5 (List.mem_of_getElem? (i := 182) rfl) rfl
theorem ml_F_375 : Cond.methodLink "FareyRank" 375 (z_y m_Pi_rising) ∈ z_tb := z_in5 (List.mem_of_getElem? (i := 186) rfl) rfl
theorem ml_Pi_42 : Cond.methodLink "FareyRank$Pins" 42 (z_y m_Pi_manyBelow) ∈ z_tb := z_in5 (List.mem_of_getElem? (i := 190) rfl) rfl
theorem ml_Pi_46 : Cond.methodLink "FareyRank$Pins" 46 (z_y m_Pi_isLess) ∈ z_tb := z_in5 (List.mem_of_getElem? (i := 194) rfl) rfl
theorem ml_Law_207 : Cond.methodLink "FareyRankLaw" 207 (z_y m_F_heaviest) ∈ z_tb := z_in5 (List.mem_of_getElem? (i := 198) rfl) rfl
theorem ml_F_378 : Cond.methodLink "FareyRank" 378 (z_y m_Pi_ofMostWeight) ∈ z_tb := z_in5 (List.mem_of_getElem? (i := 202) rfl) rfl
theorem ml_Law_211 : Cond.methodLink "FareyRankLaw" 211 (z_y m_F_middle) ∈ z_tb := z_in5 (List.mem_of_getElem? (i := 206) rfl) rfl
theorem ml_F_381 : Cond.methodLink "FareyRank" 381 (z_y m_Pi_halfWay) ∈ z_tb := z_in5 (List.mem_of_getElem? (i := 210) rfl) rfl
theorem ml_Pi_50 : Cond.methodLink "FareyRank$Pins" 50 (z_y m_Pi_weightOfAll) ∈ z_tb := z_in5 (List.mem_of_getElem? (i := 214) rfl) rfl
theorem ml_Law_215 : Cond.methodLink "FareyRankLaw" 215 (z_y m_F_gap) ∈ z_tb := z_in5 (List.mem_of_getElem? (i := 215) rfl) rfl
theorem ml_Law_219 : Cond.methodLink "FareyRankLaw" 219 (z_y m_F_share) ∈ z_tb := z_in5 (List.mem_of_getElem? (i := 219) rfl) rfl
theorem ml_F_390 : Cond.methodLink "FareyRank" 390 (z_y m_Pi_weightUpTo) ∈ z_tb := z_in5 (List.mem_of_getElem? (i := 223) rfl) rfl
theorem ml_Law_223 : Cond.methodLink "FareyRankLaw" 223 (z_y m_F_pinsOfRow) ∈ z_tb := z_in5 (List.mem_of_getElem? (i := 224) rfl) rfl
theorem ml_F_393 : Cond.methodLink "FareyRank" 393 (z_y m_Pi_manyOfOrder) ∈ z_tb := z_in5 (List.mem_of_getElem? (i := 228) rfl) rfl
theorem ml_Law_227 : Cond.methodLink "FareyRankLaw" 227 (z_y m_F_copyPins) ∈ z_tb := z_in5 (List.mem_of_getElem? (i := 232) rfl) rfl
theorem ml_Law_231 : Cond.methodLink "FareyRankLaw" 231 (z_y m_F_game) ∈ z_tb := z_in5 (List.mem_of_getElem? (i := 236) rfl) rfl
theorem ml_F_398 : Cond.methodLink "FareyRank" 398 (z_y m_F_playOut) ∈ z_tb := z_in6 (List.mem_of_getElem? (i := 0) rfl) rfl
theorem ml_Law_235 : Cond.methodLink "FareyRankLaw" 235 (z_y m_F_moveOf) ∈ z_tb := z_in6 (List.mem_of_getElem? (i := 4) rfl) rfl
theorem ml_Law_239 : Cond.methodLink "FareyRankLaw" 239 (z_y m_F_wrong) ∈ z_tb := z_in6 (List.mem_of_getElem? (i := 8) rfl) rfl
theorem ml_F_405 : Cond.methodLink "FareyRank" 405 (z_y m_F_power) ∈ z_tb := z_in6 (List.mem_of_getElem? (i := 12) rfl) rfl
theorem ml_Law_243 : Cond.methodLink "FareyRankLaw" 243 (z_y m_F_part) ∈ z_tb := z_in6 (List.mem_of_getElem? (i := 16) rfl) rfl
theorem ml_Law_247 : Cond.methodLink "FareyRankLaw" 247 (z_y m_F_live) ∈ z_tb := z_in6 (List.mem_of_getElem? (i := 20) rfl) rfl
theorem ml_F_414 : Cond.methodLink "FareyRank" 414 (z_y m_Wk_tour) ∈ z_tb := z_in6 (List.mem_of_getElem? (i := 24) rfl) rfl
theorem ml_Wk_53 : Cond.methodLink "FareyRank$Walk" 53 (z_y m_Wk_lineBehindEnd) ∈ z_tb := z_in6 (List.mem_of_getElem? (i := 29) rfl) rfl
theorem ml_Wk_57 : Cond.methodLink "FareyRank$Walk" 57 (z_y m_Wk_lineBehindStep) ∈ z_tb := z_in6 (List.mem_of_getElem? (i := 33) rfl) rfl
theorem ml_Wk_64 : Cond.methodLink "FareyRank$Walk" 64 (z_y m_Wk_holds) ∈ z_tb := z_in6 (List.mem_of_getElem? (i := 37) rfl) rfl
theorem ml_Wk_85 : Cond.methodLink "FareyRank$Walk" 85 (z_y m_Sp_ownTop) ∈ z_tb := z_in6 (List.mem_of_getElem? (i := 40) rfl) rfl
theorem ml_Wk_91 : Cond.methodLink "FareyRank$Walk" 91 (z_y m_Sp_ownBottom) ∈ z_tb := z_in6 (List.mem_of_getElem? (i := 41) rfl) rfl
theorem ml_Wk_94 : Cond.methodLink "FareyRank$Walk" 94 (z_y m_Bd_pinHere) ∈ z_tb := z_in6 (List.mem_of_getElem? (i := 42) rfl) rfl
theorem ml_Bd_94 : Cond.methodLink "FareyRank$Board" 94 (z_y m_Sp_ownTop) ∈ z_tb := z_in6 (List.mem_of_getElem? (i := 46) rfl) rfl
theorem ml_Bd_98 : Cond.methodLink "FareyRank$Board" 98 (z_y m_Sp_ownBottom) ∈ z_tb := z_in6 (List.mem_of_getElem? (i := 47) rfl) rfl
theorem ml_Bd_101 : Cond.methodLink "FareyRank$Board" 101 (z_y m_Pi_find) ∈ z_tb := z_in6 (List.mem_of_getElem? (i := 48) rfl) rfl
theorem ml_Wk_100 : Cond.methodLink "FareyRank$Walk" 100 (z_y m_Wk_compares) ∈ z_tb := z_in6 (List.mem_of_getElem? (i := 49) rfl) rfl
theorem ml_Wk_71 : Cond.methodLink "FareyRank$Walk" 71 (z_y m_Wk_act) ∈ z_tb := z_in6 (List.mem_of_getElem? (i := 52) rfl) rfl
theorem ml_Wk_104 : Cond.methodLink "FareyRank$Walk" 104 (z_y m_Bd_goDown) ∈ z_tb := z_in6 (List.mem_of_getElem? (i := 56) rfl) rfl
theorem ml_Wk_108 : Cond.methodLink "FareyRank$Walk" 108 (z_y m_Wk_moves) ∈ z_tb := z_in6 (List.mem_of_getElem? (i := 57) rfl) rfl
theorem ml_Wk_112 : Cond.methodLink "FareyRank$Walk" 112 (z_y m_Bd_goUp) ∈ z_tb := z_in6 (List.mem_of_getElem? (i := 61) rfl) rfl
theorem ml_Wk_116 : Cond.methodLink "FareyRank$Walk" 116 (z_y m_Bd_goAcross) ∈ z_tb := z_in6 (List.mem_of_getElem? (i := 62) rfl) rfl
theorem ml_Wk_119 : Cond.methodLink "FareyRank$Walk" 119 (z_y m_Wk_pins) ∈ z_tb := z_in6 (List.mem_of_getElem? (i := 63) rfl) rfl
theorem ml_Wk_135 : Cond.methodLink "FareyRank$Walk" 135 (z_y m_Pi_whyNotMore) ∈ z_tb := z_in6 (List.mem_of_getElem? (i := 67) rfl) rfl
theorem ml_Wk_141 : Cond.methodLink "FareyRank$Walk" 141 (z_y m_Pi_add) ∈ z_tb := z_in6 (List.mem_of_getElem? (i := 68) rfl) rfl
theorem ml_Wk_122 : Cond.methodLink "FareyRank$Walk" 122 (z_y m_Wk_lifts) ∈ z_tb := z_in6 (List.mem_of_getElem? (i := 69) rfl) rfl
theorem ml_Wk_144 : Cond.methodLink "FareyRank$Walk" 144 (z_y m_Pi_drop) ∈ z_tb := z_in6 (List.mem_of_getElem? (i := 73) rfl) rfl
theorem ml_Wk_126 : Cond.methodLink "FareyRank$Walk" 126 (z_y m_Wk_orders) ∈ z_tb := z_in6 (List.mem_of_getElem? (i := 74) rfl) rfl
theorem ml_Wk_129 : Cond.methodLink "FareyRank$Walk" 129 (z_y m_Wk_wanders) ∈ z_tb := z_in6 (List.mem_of_getElem? (i := 77) rfl) rfl
theorem ml_Wk_151 : Cond.methodLink "FareyRank$Walk" 151 (z_y m_Wk_draw) ∈ z_tb := z_in6 (List.mem_of_getElem? (i := 81) rfl) rfl
theorem ml_Law_251 : Cond.methodLink "FareyRankLaw" 251 (z_y m_F_lived) ∈ z_tb := z_in6 (List.mem_of_getElem? (i := 86) rfl) rfl
theorem ml_Law_255 : Cond.methodLink "FareyRankLaw" 255 (z_y m_F_mean) ∈ z_tb := z_in6 (List.mem_of_getElem? (i := 90) rfl) rfl
theorem ml_Law_259 : Cond.methodLink "FareyRankLaw" 259 (z_y m_F_mark) ∈ z_tb := z_in6 (List.mem_of_getElem? (i := 94) rfl) rfl
theorem ml_Law_263 : Cond.methodLink "FareyRankLaw" 263 (z_y m_F_undo) ∈ z_tb := z_in6 (List.mem_of_getElem? (i := 98) rfl) rfl
theorem ml_Law_12 : Cond.methodLink "FareyRankLaw" 12 (z_y m_M_init) ∈ z_tb := z_in6 (List.mem_of_getElem? (i := 104) rfl) rfl
theorem ml_M_74 : Cond.methodLink "FareyRankModel" 74 (z_y m_M_plain) ∈ z_tb := z_in6 (List.mem_of_getElem? (i := 108) rfl) rfl
theorem ml_M_78 : Cond.methodLink "FareyRankModel" 78 (z_y m_M_sees) ∈ z_tb := z_in6 (List.mem_of_getElem? (i := 112) rfl) rfl
theorem ml_Law_17 : Cond.methodLink "FareyRankLaw" 17 (z_y m_M_status) ∈ z_tb := z_in7 (List.mem_of_getElem? (i := 3) rfl) rfl
theorem ml_Law_22 : Cond.methodLink "FareyRankLaw" 22 (z_y m_M_top) ∈ z_tb := z_in7 (List.mem_of_getElem? (i := 7) rfl) rfl
theorem ml_Law_26 : Cond.methodLink "FareyRankLaw" 26 (z_y m_M_bottom) ∈ z_tb := z_in7 (List.mem_of_getElem? (i := 11) rfl) rfl
theorem ml_Law_31 : Cond.methodLink "FareyRankLaw" 31 (z_y m_M_tray) ∈ z_tb := z_in7 (List.mem_of_getElem? (i := 15) rfl) rfl
theorem ml_M_98 : Cond.methodLink "FareyRankModel" 98 (z_y m_M_isTray) ∈ z_tb := z_in7 (List.mem_of_getElem? (i := 19) rfl) rfl
theorem ml_M_94 : Cond.methodLink "FareyRankModel" 94 (z_y m_M_is) ∈ z_tb := z_in7 (List.mem_of_getElem? (i := 22) rfl) rfl
theorem ml_Law_38 : Cond.methodLink "FareyRankLaw" 38 (z_y m_M_write) ∈ z_tb := z_in7 (List.mem_of_getElem? (i := 26) rfl) rfl
theorem ml_M_101 : Cond.methodLink "FareyRankModel" 101 (z_y m_M_wrongPlace) ∈ z_tb := z_in7 (List.mem_of_getElem? (i := 30) rfl) rfl
theorem ml_M_105 : Cond.methodLink "FareyRankModel" 105 (z_y m_M_cut) ∈ z_tb := z_in7 (List.mem_of_getElem? (i := 34) rfl) rfl
theorem ml_Law_43 : Cond.methodLink "FareyRankLaw" 43 (z_y m_M_read) ∈ z_tb := z_in7 (List.mem_of_getElem? (i := 37) rfl) rfl
theorem ml_Law_48 : Cond.methodLink "FareyRankLaw" 48 (z_y m_M_pour) ∈ z_tb := z_in7 (List.mem_of_getElem? (i := 42) rfl) rfl
theorem ml_Law_53 : Cond.methodLink "FareyRankLaw" 53 (z_y m_M_feed) ∈ z_tb := z_in7 (List.mem_of_getElem? (i := 46) rfl) rfl
theorem ml_M_114 : Cond.methodLink "FareyRankModel" 114 (z_y m_M_four) ∈ z_tb := z_in7 (List.mem_of_getElem? (i := 50) rfl) rfl
theorem ml_Law_66 : Cond.methodLink "FareyRankLaw" 66 (z_y m_M_fault) ∈ z_tb := z_in7 (List.mem_of_getElem? (i := 54) rfl) rfl
theorem ml_Law_58 : Cond.methodLink "FareyRankLaw" 58 (z_y m_M_study) ∈ z_tb := z_in7 (List.mem_of_getElem? (i := 58) rfl) rfl
theorem ml_M_210 : Cond.methodLink "FareyRankModel" 210 (z_y m_M_begins) ∈ z_tb := z_in7 (List.mem_of_getElem? (i := 62) rfl) rfl
theorem ml_M_160 : Cond.methodLink "FareyRankModel" 160 (z_y m_M_nextToken) ∈ z_tb := z_in7 (List.mem_of_getElem? (i := 66) rfl) rfl
theorem ml_M_123 : Cond.methodLink "FareyRankModel" 123 (z_y m_M_byteAt) ∈ z_tb := z_in7 (List.mem_of_getElem? (i := 70) rfl) rfl
theorem ml_M_135 : Cond.methodLink "FareyRankModel" 135 (z_y m_M_isSmall) ∈ z_tb := z_in7 (List.mem_of_getElem? (i := 74) rfl) rfl
theorem ml_M_138 : Cond.methodLink "FareyRankModel" 138 (z_y m_M_isDigit) ∈ z_tb := z_in7 (List.mem_of_getElem? (i := 77) rfl) rfl
theorem ml_M_87 : Cond.methodLink "FareyRankModel" 87 (z_y m_M_refuse) ∈ z_tb := z_in7 (List.mem_of_getElem? (i := 82) rfl) rfl
theorem ml_M_213 : Cond.methodLink "FareyRankModel" 213 (z_y m_M_studyPart) ∈ z_tb := z_in7 (List.mem_of_getElem? (i := 86) rfl) rfl
theorem ml_M_171 : Cond.methodLink "FareyRankModel" 171 (z_y m_M_inWords) ∈ z_tb := z_in7 (List.mem_of_getElem? (i := 91) rfl) rfl
theorem ml_M_147 : Cond.methodLink "FareyRankModel" 147 (z_y m_St_length) ∈ z_tb := z_in7 (List.mem_of_getElem? (i := 95) rfl) rfl
theorem ml_M_153 : Cond.methodLink "FareyRankModel" 153 (z_y m_St_charAt) ∈ z_tb := z_in7 (List.mem_of_getElem? (i := 96) rfl) rfl
theorem ml_M_166 : Cond.methodLink "FareyRankModel" 166 (z_y m_M_fails) ∈ z_tb := z_in7 (List.mem_of_getElem? (i := 97) rfl) rfl
theorem ml_M_193 : Cond.methodLink "FareyRankModel" 193 (z_y m_M_aPin) ∈ z_tb := z_in7 (List.mem_of_getElem? (i := 101) rfl) rfl
theorem ml_M_185 : Cond.methodLink "FareyRankModel" 185 (z_y m_M_valueTo) ∈ z_tb := z_in7 (List.mem_of_getElem? (i := 105) rfl) rfl
theorem ml_M_175 : Cond.methodLink "FareyRankModel" 175 (z_y m_M_number) ∈ z_tb := z_in7 (List.mem_of_getElem? (i := 109) rfl) rfl
theorem ml_M_179 : Cond.methodLink "FareyRankModel" 179 (z_y m_M_wantWord) ∈ z_tb := z_in7 (List.mem_of_getElem? (i := 113) rfl) rfl
theorem ml_M_182 : Cond.methodLink "FareyRankModel" 182 (z_y m_M_common) ∈ z_tb := z_in7 (List.mem_of_getElem? (i := 117) rfl) rfl
theorem ml_M_189 : Cond.methodLink "FareyRankModel" 189 (z_y m_M_findPin) ∈ z_tb := z_in7 (List.mem_of_getElem? (i := 120) rfl) rfl
theorem ml_M_197 : Cond.methodLink "FareyRankModel" 197 (z_y m_M_wantSign) ∈ z_tb := z_in7 (List.mem_of_getElem? (i := 124) rfl) rfl
theorem ml_M_163 : Cond.methodLink "FareyRankModel" 163 (z_y m_M_isSign) ∈ z_tb := z_in7 (List.mem_of_getElem? (i := 128) rfl) rfl
theorem ml_M_203 : Cond.methodLink "FareyRankModel" 203 (z_y m_M_isIn) ∈ z_tb := z_in7 (List.mem_of_getElem? (i := 132) rfl) rfl
theorem ml_M_207 : Cond.methodLink "FareyRankModel" 207 (z_y m_M_aPlace) ∈ z_tb := z_in7 (List.mem_of_getElem? (i := 135) rfl) rfl
theorem ml_M_216 : Cond.methodLink "FareyRankModel" 216 (z_y m_M_taken) ∈ z_tb := z_in7 (List.mem_of_getElem? (i := 139) rfl) rfl
theorem ml_M_91 : Cond.methodLink "FareyRankModel" 91 (z_y m_M_gives) ∈ z_tb := z_in7 (List.mem_of_getElem? (i := 143) rfl) rfl
theorem ml_Law_62 : Cond.methodLink "FareyRankLaw" 62 (z_y m_M_tours) ∈ z_tb := z_in7 (List.mem_of_getElem? (i := 147) rfl) rfl
theorem ml_M_234 : Cond.methodLink "FareyRankModel" 234 (z_y m_M_tourStep) ∈ z_tb := z_in7 (List.mem_of_getElem? (i := 151) rfl) rfl
theorem ml_M_222 : Cond.methodLink "FareyRankModel" 222 (z_y m_M_isOrder) ∈ z_tb := z_in7 (List.mem_of_getElem? (i := 155) rfl) rfl
theorem ml_M_231 : Cond.methodLink "FareyRankModel" 231 (z_y m_M_tourOrder) ∈ z_tb := z_in7 (List.mem_of_getElem? (i := 158) rfl) rfl
theorem ml_M_219 : Cond.methodLink "FareyRankModel" 219 (z_y m_M_test) ∈ z_tb := z_in7 (List.mem_of_getElem? (i := 162) rfl) rfl
theorem ml_Law_70 : Cond.methodLink "FareyRankLaw" 70 (z_y m_M_told) ∈ z_tb := z_in7 (List.mem_of_getElem? (i := 166) rfl) rfl
theorem ml_M_257 : Cond.methodLink "FareyRankModel" 257 (z_y m_M_weightTo) ∈ z_tb := z_in7 (List.mem_of_getElem? (i := 170) rfl) rfl
theorem ml_M_366 : Cond.methodLink "FareyRankModel" 366 (z_y m_M_topOf) ∈ z_tb := z_in7 (List.mem_of_getElem? (i := 174) rfl) rfl
theorem ml_M_346 : Cond.methodLink "FareyRankModel" 346 (z_y m_M_rowOf) ∈ z_tb := z_in7 (List.mem_of_getElem? (i := 178) rfl) rfl
theorem ml_M_369 : Cond.methodLink "FareyRankModel" 369 (z_y m_M_bottomOf) ∈ z_tb := z_in7 (List.mem_of_getElem? (i := 181) rfl) rfl
theorem ml_M_352 : Cond.methodLink "FareyRankModel" 352 (z_y m_M_weightOf) ∈ z_tb := z_in7 (List.mem_of_getElem? (i := 185) rfl) rfl
theorem ml_M_250 : Cond.methodLink "FareyRankModel" 250 (z_y m_M_laysRow) ∈ z_tb := z_in7 (List.mem_of_getElem? (i := 189) rfl) rfl
theorem ml_M_247 : Cond.methodLink "FareyRankModel" 247 (z_y m_M_lays) ∈ z_tb := z_in7 (List.mem_of_getElem? (i := 193) rfl) rfl
theorem ml_M_243 : Cond.methodLink "FareyRankModel" 243 (z_y m_M_puts) ∈ z_tb := z_in7 (List.mem_of_getElem? (i := 197) rfl) rfl
theorem ml_M_260 : Cond.methodLink "FareyRankModel" 260 (z_y m_M_depthOf) ∈ z_tb := z_in7 (List.mem_of_getElem? (i := 201) rfl) rfl
theorem ml_M_291 : Cond.methodLink "FareyRankModel" 291 (z_y m_M_laysTerms) ∈ z_tb := z_in7 (List.mem_of_getElem? (i := 205) rfl) rfl
theorem ml_M_294 : Cond.methodLink "FareyRankModel" 294 (z_y m_M_turnsOf) ∈ z_tb := z_in7 (List.mem_of_getElem? (i := 209) rfl) rfl
theorem ml_Law_74 : Cond.methodLink "FareyRankLaw" 74 (z_y m_M_size) ∈ z_tb := z_in7 (List.mem_of_getElem? (i := 213) rfl) rfl
theorem ml_M_265 : Cond.methodLink "FareyRankModel" 265 (z_y m_M_isFrom) ∈ z_tb := z_in7 (List.mem_of_getElem? (i := 218) rfl) rfl
theorem ml_Law_79 : Cond.methodLink "FareyRankLaw" 79 (z_y m_M_fraction) ∈ z_tb := z_in7 (List.mem_of_getElem? (i := 221) rfl) rfl
theorem ml_M_269 : Cond.methodLink "FareyRankModel" 269 (z_y m_M_tellsRow) ∈ z_tb := z_in7 (List.mem_of_getElem? (i := 225) rfl) rfl
theorem ml_M_253 : Cond.methodLink "FareyRankModel" 253 (z_y m_M_tellsBy) ∈ z_tb := z_in7 (List.mem_of_getElem? (i := 229) rfl) rfl
theorem ml_Law_84 : Cond.methodLink "FareyRankLaw" 84 (z_y m_M_place) ∈ z_tb := z_in7 (List.mem_of_getElem? (i := 233) rfl) rfl
theorem ml_M_272 : Cond.methodLink "FareyRankModel" 272 (z_y m_M_isValue) ∈ z_tb := z_in7 (List.mem_of_getElem? (i := 237) rfl) rfl
theorem ml_M_275 : Cond.methodLink "FareyRankModel" 275 (z_y m_M_lessThan) ∈ z_tb := z_in8 (List.mem_of_getElem? (i := 0) rfl) rfl
theorem ml_M_278 : Cond.methodLink "FareyRankModel" 278 (z_y m_M_isAt) ∈ z_tb := z_in8 (List.mem_of_getElem? (i := 4) rfl) rfl
theorem ml_Law_88 : Cond.methodLink "FareyRankLaw" 88 (z_y m_M_rank) ∈ z_tb := z_in8 (List.mem_of_getElem? (i := 8) rfl) rfl
theorem ml_Law_93 : Cond.methodLink "FareyRankLaw" 93 (z_y m_M_below) ∈ z_tb := z_in8 (List.mem_of_getElem? (i := 12) rfl) rfl
theorem ml_Law_98 : Cond.methodLink "FareyRankLaw" 98 (z_y m_M_above) ∈ z_tb := z_in8 (List.mem_of_getElem? (i := 18) rfl) rfl
theorem ml_Law_102 : Cond.methodLink "FareyRankLaw" 102 (z_y m_M_ahead) ∈ z_tb := z_in8 (List.mem_of_getElem? (i := 22) rfl) rfl
theorem ml_Law_106 : Cond.methodLink "FareyRankLaw" 106 (z_y m_M_nearest) ∈ z_tb := z_in8 (List.mem_of_getElem? (i := 26) rfl) rfl
theorem ml_Law_111 : Cond.methodLink "FareyRankLaw" 111 (z_y m_M_between) ∈ z_tb := z_in8 (List.mem_of_getElem? (i := 30) rfl) rfl
theorem ml_Law_115 : Cond.methodLink "FareyRankLaw" 115 (z_y m_M_coprimes) ∈ z_tb := z_in8 (List.mem_of_getElem? (i := 34) rfl) rfl
theorem ml_Law_120 : Cond.methodLink "FareyRankLaw" 120 (z_y m_M_simplest) ∈ z_tb := z_in8 (List.mem_of_getElem? (i := 38) rfl) rfl
theorem ml_Law_124 : Cond.methodLink "FareyRankLaw" 124 (z_y m_M_wide) ∈ z_tb := z_in8 (List.mem_of_getElem? (i := 42) rfl) rfl
theorem ml_Law_128 : Cond.methodLink "FareyRankLaw" 128 (z_y m_M_depth) ∈ z_tb := z_in8 (List.mem_of_getElem? (i := 49) rfl) rfl
theorem ml_M_297 : Cond.methodLink "FareyRankModel" 297 (z_y m_M_isOfTree) ∈ z_tb := z_in8 (List.mem_of_getElem? (i := 53) rfl) rfl
theorem ml_Law_133 : Cond.methodLink "FareyRankLaw" 133 (z_y m_M_turnAt) ∈ z_tb := z_in8 (List.mem_of_getElem? (i := 56) rfl) rfl
theorem ml_Law_137 : Cond.methodLink "FareyRankLaw" 137 (z_y m_M_parent) ∈ z_tb := z_in8 (List.mem_of_getElem? (i := 60) rfl) rfl
theorem ml_M_306 : Cond.methodLink "FareyRankModel" 306 (z_y m_M_findsParent) ∈ z_tb := z_in8 (List.mem_of_getElem? (i := 64) rfl) rfl
theorem ml_Law_141 : Cond.methodLink "FareyRankLaw" 141 (z_y m_M_follow) ∈ z_tb := z_in8 (List.mem_of_getElem? (i := 68) rfl) rfl
theorem ml_Law_145 : Cond.methodLink "FareyRankLaw" 145 (z_y m_M_terms) ∈ z_tb := z_in8 (List.mem_of_getElem? (i := 73) rfl) rfl
theorem ml_Law_149 : Cond.methodLink "FareyRankLaw" 149 (z_y m_M_termAt) ∈ z_tb := z_in8 (List.mem_of_getElem? (i := 77) rfl) rfl
theorem ml_Law_153 : Cond.methodLink "FareyRankLaw" 153 (z_y m_M_digits) ∈ z_tb := z_in8 (List.mem_of_getElem? (i := 81) rfl) rfl
theorem ml_M_314 : Cond.methodLink "FareyRankModel" 314 (z_y m_M_times) ∈ z_tb := z_in8 (List.mem_of_getElem? (i := 85) rfl) rfl
theorem ml_M_320 : Cond.methodLink "FareyRankModel" 320 (z_y m_M_periodOf) ∈ z_tb := z_in8 (List.mem_of_getElem? (i := 90) rfl) rfl
theorem ml_Law_157 : Cond.methodLink "FareyRankLaw" 157 (z_y m_M_digitAt) ∈ z_tb := z_in8 (List.mem_of_getElem? (i := 94) rfl) rfl
theorem ml_Law_162 : Cond.methodLink "FareyRankLaw" 162 (z_y m_M_here) ∈ z_tb := z_in8 (List.mem_of_getElem? (i := 99) rfl) rfl
theorem ml_Law_166 : Cond.methodLink "FareyRankLaw" 166 (z_y m_M_go) ∈ z_tb := z_in8 (List.mem_of_getElem? (i := 103) rfl) rfl
theorem ml_M_332 : Cond.methodLink "FareyRankModel" 332 (z_y m_M_goes) ∈ z_tb := z_in8 (List.mem_of_getElem? (i := 107) rfl) rfl
theorem ml_M_325 : Cond.methodLink "FareyRankModel" 325 (z_y m_M_findsChild) ∈ z_tb := z_in8 (List.mem_of_getElem? (i := 111) rfl) rfl
theorem ml_M_329 : Cond.methodLink "FareyRankModel" 329 (z_y m_M_comes) ∈ z_tb := z_in8 (List.mem_of_getElem? (i := 115) rfl) rfl
theorem ml_M_335 : Cond.methodLink "FareyRankModel" 335 (z_y m_M_depthNow) ∈ z_tb := z_in8 (List.mem_of_getElem? (i := 119) rfl) rfl
theorem ml_Law_170 : Cond.methodLink "FareyRankLaw" 170 (z_y m_M_up) ∈ z_tb := z_in8 (List.mem_of_getElem? (i := 123) rfl) rfl
theorem ml_M_338 : Cond.methodLink "FareyRankModel" 338 (z_y m_M_goesUp) ∈ z_tb := z_in8 (List.mem_of_getElem? (i := 127) rfl) rfl
theorem ml_Law_174 : Cond.methodLink "FareyRankLaw" 174 (z_y m_M_flip) ∈ z_tb := z_in8 (List.mem_of_getElem? (i := 131) rfl) rfl
theorem ml_M_341 : Cond.methodLink "FareyRankModel" 341 (z_y m_M_flips) ∈ z_tb := z_in8 (List.mem_of_getElem? (i := 135) rfl) rfl
theorem ml_Law_178 : Cond.methodLink "FareyRankLaw" 178 (z_y m_M_jump) ∈ z_tb := z_in8 (List.mem_of_getElem? (i := 139) rfl) rfl
theorem ml_Law_182 : Cond.methodLink "FareyRankLaw" 182 (z_y m_M_wasAt) ∈ z_tb := z_in8 (List.mem_of_getElem? (i := 143) rfl) rfl
theorem ml_Law_186 : Cond.methodLink "FareyRankLaw" 186 (z_y m_M_rule) ∈ z_tb := z_in8 (List.mem_of_getElem? (i := 147) rfl) rfl
theorem ml_Law_190 : Cond.methodLink "FareyRankLaw" 190 (z_y m_M_pin) ∈ z_tb := z_in8 (List.mem_of_getElem? (i := 152) rfl) rfl
theorem ml_M_357 : Cond.methodLink "FareyRankModel" 357 (z_y m_M_pins) ∈ z_tb := z_in8 (List.mem_of_getElem? (i := 157) rfl) rfl
theorem ml_M_349 : Cond.methodLink "FareyRankModel" 349 (z_y m_M_pinOf) ∈ z_tb := z_in8 (List.mem_of_getElem? (i := 161) rfl) rfl
theorem ml_Law_194 : Cond.methodLink "FareyRankLaw" 194 (z_y m_M_lift) ∈ z_tb := z_in8 (List.mem_of_getElem? (i := 165) rfl) rfl
theorem ml_M_360 : Cond.methodLink "FareyRankModel" 360 (z_y m_M_lifts) ∈ z_tb := z_in8 (List.mem_of_getElem? (i := 169) rfl) rfl
theorem ml_M_363 : Cond.methodLink "FareyRankModel" 363 (z_y m_M_orNone) ∈ z_tb := z_in8 (List.mem_of_getElem? (i := 173) rfl) rfl
theorem ml_Law_198 : Cond.methodLink "FareyRankLaw" 198 (z_y m_M_weight) ∈ z_tb := z_in8 (List.mem_of_getElem? (i := 177) rfl) rfl
theorem ml_Law_202 : Cond.methodLink "FareyRankLaw" 202 (z_y m_M_pinAt) ∈ z_tb := z_in8 (List.mem_of_getElem? (i := 181) rfl) rfl
theorem ml_M_372 : Cond.methodLink "FareyRankModel" 372 (z_y m_M_tellsPin) ∈ z_tb := z_in8 (List.mem_of_getElem? (i := 185) rfl) rfl
theorem ml_Law_206 : Cond.methodLink "FareyRankLaw" 206 (z_y m_M_risingAt) ∈ z_tb := z_in8 (List.mem_of_getElem? (i := 189) rfl) rfl
theorem ml_M_378 : Cond.methodLink "FareyRankModel" 378 (z_y m_M_rising) ∈ z_tb := z_in8 (List.mem_of_getElem? (i := 193) rfl) rfl
theorem ml_M_375 : Cond.methodLink "FareyRankModel" 375 (z_y m_M_isLess) ∈ z_tb := z_in8 (List.mem_of_getElem? (i := 197) rfl) rfl
theorem ml_Law_210 : Cond.methodLink "FareyRankLaw" 210 (z_y m_M_heaviest) ∈ z_tb := z_in8 (List.mem_of_getElem? (i := 201) rfl) rfl
theorem ml_Law_214 : Cond.methodLink "FareyRankLaw" 214 (z_y m_M_middle) ∈ z_tb := z_in8 (List.mem_of_getElem? (i := 205) rfl) rfl
theorem ml_Law_218 : Cond.methodLink "FareyRankLaw" 218 (z_y m_M_gap) ∈ z_tb := z_in8 (List.mem_of_getElem? (i := 209) rfl) rfl
theorem ml_Law_222 : Cond.methodLink "FareyRankLaw" 222 (z_y m_M_share) ∈ z_tb := z_in8 (List.mem_of_getElem? (i := 213) rfl) rfl
theorem ml_Law_226 : Cond.methodLink "FareyRankLaw" 226 (z_y m_M_pinsOfRow) ∈ z_tb := z_in8 (List.mem_of_getElem? (i := 217) rfl) rfl
theorem ml_Law_230 : Cond.methodLink "FareyRankLaw" 230 (z_y m_M_copyPins) ∈ z_tb := z_in8 (List.mem_of_getElem? (i := 221) rfl) rfl
theorem ml_Law_234 : Cond.methodLink "FareyRankLaw" 234 (z_y m_M_game) ∈ z_tb := z_in8 (List.mem_of_getElem? (i := 225) rfl) rfl
theorem ml_M_383 : Cond.methodLink "FareyRankModel" 383 (z_y m_M_wrongGame) ∈ z_tb := z_in8 (List.mem_of_getElem? (i := 229) rfl) rfl
theorem ml_M_387 : Cond.methodLink "FareyRankModel" 387 (z_y m_M_plays) ∈ z_tb := z_in8 (List.mem_of_getElem? (i := 234) rfl) rfl
theorem ml_Law_238 : Cond.methodLink "FareyRankLaw" 238 (z_y m_M_moveOf) ∈ z_tb := z_in8 (List.mem_of_getElem? (i := 238) rfl) rfl
theorem ml_Law_242 : Cond.methodLink "FareyRankLaw" 242 (z_y m_M_wrong) ∈ z_tb := z_in9 (List.mem_of_getElem? (i := 2) rfl) rfl
theorem ml_Law_246 : Cond.methodLink "FareyRankLaw" 246 (z_y m_M_part) ∈ z_tb := z_in9 (List.mem_of_getElem? (i := 7) rfl) rfl
theorem ml_Law_250 : Cond.methodLink "FareyRankLaw" 250 (z_y m_M_live) ∈ z_tb := z_in9 (List.mem_of_getElem? (i := 11) rfl) rfl
theorem ml_M_420 : Cond.methodLink "FareyRankModel" 420 (z_y m_M_lives) ∈ z_tb := z_in9 (List.mem_of_getElem? (i := 15) rfl) rfl
theorem ml_M_411 : Cond.methodLink "FareyRankModel" 411 (z_y m_M_does) ∈ z_tb := z_in9 (List.mem_of_getElem? (i := 19) rfl) rfl
theorem ml_M_399 : Cond.methodLink "FareyRankModel" 399 (z_y m_M_ranIf) ∈ z_tb := z_in9 (List.mem_of_getElem? (i := 23) rfl) rfl
theorem ml_M_402 : Cond.methodLink "FareyRankModel" 402 (z_y m_M_orders) ∈ z_tb := z_in9 (List.mem_of_getElem? (i := 27) rfl) rfl
theorem ml_M_405 : Cond.methodLink "FareyRankModel" 405 (z_y m_M_doesAny) ∈ z_tb := z_in9 (List.mem_of_getElem? (i := 31) rfl) rfl
theorem ml_M_396 : Cond.methodLink "FareyRankModel" 396 (z_y m_M_draw) ∈ z_tb := z_in9 (List.mem_of_getElem? (i := 35) rfl) rfl
theorem ml_M_414 : Cond.methodLink "FareyRankModel" 414 (z_y m_M_holds) ∈ z_tb := z_in9 (List.mem_of_getElem? (i := 40) rfl) rfl
theorem ml_M_417 : Cond.methodLink "FareyRankModel" 417 (z_y m_M_behindEnds) ∈ z_tb := z_in9 (List.mem_of_getElem? (i := 44) rfl) rfl
theorem ml_Law_254 : Cond.methodLink "FareyRankLaw" 254 (z_y m_M_lived) ∈ z_tb := z_in9 (List.mem_of_getElem? (i := 48) rfl) rfl
theorem ml_Law_258 : Cond.methodLink "FareyRankLaw" 258 (z_y m_M_mean) ∈ z_tb := z_in9 (List.mem_of_getElem? (i := 52) rfl) rfl
theorem ml_Law_262 : Cond.methodLink "FareyRankLaw" 262 (z_y m_M_mark) ∈ z_tb := z_in9 (List.mem_of_getElem? (i := 56) rfl) rfl
theorem ml_M_430 : Cond.methodLink "FareyRankModel" 430 (z_y m_M_copies) ∈ z_tb := z_in9 (List.mem_of_getElem? (i := 60) rfl) rfl
theorem ml_Law_266 : Cond.methodLink "FareyRankLaw" 266 (z_y m_M_undo) ∈ z_tb := z_in9 (List.mem_of_getElem? (i := 64) rfl) rfl
def z_nl : List (String × Nat × MethodName) := [("FareyRank", 29, z_y m_Pa_init), ("FareyRank$Parser", 11, z_y m_Ta_init), ("FareyRank$Parser", 20, z_y m_Ch_init), ("FareyRank", 49, z_y m_Ch_init), ("FareyRank$Board", 20, z_y m_Pi_init), ("FareyRank$Board", 27, z_y m_Vi_init), ("FareyRank$Board", 34, z_y m_Pg_init), ("FareyRank", 83, z_y m_Wk_init), ("FareyRank$Spot", 44, z_y m_F_cross), ("FareyRank$Pins", 38, z_y m_F_cross), ("FareyRank$Row", 40, z_y m_F_cross), ("FareyRank$Chain", 28, z_y m_F_isValue)]
theorem nl_F_29 : ("FareyRank", 29, z_y m_Pa_init) ∈ z_nl := List.mem_of_getElem? (i := 0) rfl
theorem nl_Pa_11 : ("FareyRank$Parser", 11, z_y m_Ta_init) ∈ z_nl := List.mem_of_getElem? (i := 1) rfl
theorem nl_Pa_20 : ("FareyRank$Parser", 20, z_y m_Ch_init) ∈ z_nl := List.mem_of_getElem? (i := 2) rfl
theorem nl_F_49 : ("FareyRank", 49, z_y m_Ch_init) ∈ z_nl := List.mem_of_getElem? (i := 3) rfl
theorem nl_Bd_20 : ("FareyRank$Board", 20, z_y m_Pi_init) ∈ z_nl := List.mem_of_getElem? (i := 4) rfl
theorem nl_Bd_27 : ("FareyRank$Board", 27, z_y m_Vi_init) ∈ z_nl := List.mem_of_getElem? (i := 5) rfl
theorem nl_Bd_34 : ("FareyRank$Board", 34, z_y m_Pg_init) ∈ z_nl := List.mem_of_getElem? (i := 6) rfl
theorem nl_F_83 : ("FareyRank", 83, z_y m_Wk_init) ∈ z_nl := List.mem_of_getElem? (i := 7) rfl
theorem nl_Sp_44 : ("FareyRank$Spot", 44, z_y m_F_cross) ∈ z_nl := List.mem_of_getElem? (i := 8) rfl
theorem nl_Pi_38 : ("FareyRank$Pins", 38, z_y m_F_cross) ∈ z_nl := List.mem_of_getElem? (i := 9) rfl
theorem nl_Rw_40 : ("FareyRank$Row", 40, z_y m_F_cross) ∈ z_nl := List.mem_of_getElem? (i := 10) rfl
theorem nl_Ch_28 : ("FareyRank$Chain", 28, z_y m_F_isValue) ∈ z_nl := List.mem_of_getElem? (i := 11) rfl
theorem z_nlt : ∀ q ∈ z_nl, Cond.methodLinkNest q.1 q.2.1 q.2.2 "FareyRank" ∈ lw_tbl := by
  intro q hq
  simp only [z_nl, List.mem_cons, List.not_mem_nil, or_false] at hq
  rcases hq with rfl | rfl | rfl | rfl | rfl | rfl | rfl | rfl | rfl | rfl | rfl | rfl
  · exact List.mem_append_right _ (by unfold tables_1; exact List.mem_append_left _ (List.mem_of_getElem? (i := 50) rfl))
  · exact List.mem_append_right _ (by unfold tables_1; exact List.mem_append_left _ (List.mem_of_getElem? (i := 56) rfl))
  · exact List.mem_append_right _ (by unfold tables_1; exact List.mem_append_left _ (List.mem_of_getElem? (i := 103) rfl))
  · exact List.mem_append_right _ (by unfold tables_1; exact List.mem_append_left _ (List.mem_of_getElem? (i := 200) rfl))
  · exact List.mem_append_right _ (by unfold tables_1; exact List.mem_append_right _ (List.mem_append_left _ (List.mem_of_getElem? (i := 1) rfl)))
  · exact List.mem_append_right _ (by unfold tables_1; exact List.mem_append_right _ (List.mem_append_left _ (List.mem_of_getElem? (i := 26) rfl)))
  · exact List.mem_append_right _ (by unfold tables_1; exact List.mem_append_right _ (List.mem_append_left _ (List.mem_of_getElem? (i := 40) rfl)))
  · exact List.mem_append_right _ (by unfold tables_1; exact List.mem_append_right _ (List.mem_append_left _ (List.mem_of_getElem? (i := 150) rfl)))
  · exact List.mem_append_right _ (by unfold tables_1; exact List.mem_append_right _ (List.mem_append_right _ (List.mem_append_right _ (List.mem_append_left _ (List.mem_of_getElem? (i := 7) rfl)))))
  · exact List.mem_append_right _ (by unfold tables_1; exact List.mem_append_right _ (List.mem_append_right _ (List.mem_append_right _ (List.mem_append_left _ (List.mem_of_getElem? (i := 145) rfl)))))
  · exact List.mem_append_right _ (by unfold tables_1; exact List.mem_append_right _ (List.mem_append_right _ (List.mem_append_right _ (List.mem_append_left _ (List.mem_of_getElem? (i := 179) rfl)))))
  · exact List.mem_append_right _ (by unfold tables_1; exact List.mem_append_right _ (List.mem_append_right _ (List.mem_append_right _ (List.mem_append_left _ (List.mem_of_getElem? (i := 199) rfl)))))

/-! ## String.length, String.charAt on the 21 texts -/
def m_SL_charAt : z_M := (⟨"java/lang/StringLatin1", "charAt", "([BI)C"⟩, prog_17_method_2_code, 2, some .char)
def m_Pc_check : z_M := (⟨"jdk/internal/util/Preconditions", "checkIndex", "(IILjava/util/function/BiFunction;)I"⟩, prog_20_method_11_code, 3, some .int)
theorem mi_SL_charAt : z_mi m_SL_charAt 2 := ⟨by decide, z_in3 (List.mem_of_getElem? (i := 156) rfl) rfl, z_in1 (List.mem_of_getElem? (i := 17) rfl) rfl, ⟨by decide, by decide⟩, by decide +kernel⟩
theorem ms_SL_charAt : Cond.static (z_y m_SL_charAt) ∈ z_tb := z_in3 (List.mem_of_getElem? (i := 155) rfl) rfl
theorem mi_Pc_check : z_mi m_Pc_check 3 := ⟨by decide, z_in3 (List.mem_of_getElem? (i := 164) rfl) rfl, z_in1 (List.mem_of_getElem? (i := 18) rfl) rfl, ⟨by decide, by decide⟩, by decide +kernel⟩
theorem ms_Pc_check : Cond.static (z_y m_Pc_check) ∈ z_tb := z_in3 (List.mem_of_getElem? (i := 163) rfl) rfl
theorem ml_St_495 : Cond.methodLink "java/lang/String" 495 (z_y m_SL_charAt) ∈ z_tb := z_in3 (List.mem_of_getElem? (i := 154) rfl) rfl
theorem ml_SL_9 : Cond.methodLink "java/lang/StringLatin1" 9 (z_y m_St_checkIndex) ∈ z_tb := z_in3 (List.mem_of_getElem? (i := 157) rfl) rfl
theorem ml_St_1059 : Cond.methodLink "java/lang/String" 1059 (z_y m_Pc_check) ∈ z_tb := z_in3 (List.mem_of_getElem? (i := 162) rfl) rfl
theorem fl_St_9 : Cond.fieldLink "java/lang/String" 9 "java/lang/String" "value" "[B" ∈ z_tb := z_in9 (List.mem_of_getElem? (i := 69) rfl) rfl
theorem fl_St_15 : Cond.fieldLink "java/lang/String" 15 "java/lang/String" "coder" "B" ∈ z_tb := z_in9 (List.mem_of_getElem? (i := 70) rfl) rfl
theorem fl_St_38 : Cond.fieldLink "java/lang/String" 38 "java/lang/String" "COMPACT_STRINGS" "Z" ∈ z_tb := z_in3 (List.mem_of_getElem? (i := 144) rfl) rfl
theorem fl_St_1053 : Cond.fieldLink "java/lang/String" 1053 "jdk/internal/util/Preconditions" "SIOOBE_FORMATTER" "Ljava/util/function/BiFunction;" ∈ z_tb := z_in3 (List.mem_of_getElem? (i := 160) rfl) rfl
section ZS
variable {X : z_X} {d mc ms : Nat} {M : z_M} {pc : Nat} {ls : z_L} {st : List z_t} {uc us N : Nat} {σ g : z_G} {Q : z_Q}
theorem z_tload_n {q : Fin 4} {i : Nat} {r : Int} (j : Nat) (hd : decode (z_c M) pc = .ok (.aload_n q, 1)) (hi : (q : Nat) = i) (h : ls[j]? = some (i, (3, r))) (k : z_V X d mc ms M (pc + 1) ls ((3, r) :: st) uc us N σ g Q) : z_V X d mc ms M pc ls st uc us N σ g Q := by
  intro p e s m args below meth c H locs L F hL hl ho hH hq
  exact lv_aload_n F.1 F.2.1 hd hi (z_lt hL j h) (k p e s m args below meth c H locs L F hL hl (z_op ho trivial) hH hq)
theorem z_below {H : Heap} {t : Nat} (hH : z_H X N σ g H) (h : ¬ z_b X ≤ t) : H[t]? = (z_h X)[t]? := hH.2.1 t (Or.inl (by omega))
theorem z_sgetv {idx : Nat} {k : Int} (hd : decode (z_c M) pc = .ok (.getfield idx, 3)) (hl0 : Cond.fieldLink (z_y M).cls idx "java/lang/String" "value" "[B" ∈ z_tb) (hk : 0 ≤ k ∧ k < 21) (kk : z_V X d mc ms M (pc + 3) ls ((3, k) :: st) uc us N σ g Q) : z_V X d mc ms M pc ls ((4, k) :: st) uc us N σ g Q := by
  intro p e s m args below meth c H locs L F hL hl ho hH hq
  obtain ⟨cf, kf, i, f, cell, h1, h2, h3, h4, h5, h6⟩ := (F.2.2.2.2.2.2.2.1.2.1.1 k.toNat (by omega)).2.2.1
  exact W.getf F.1 F.2.1 F.2.2.2.2.1 (F.2.2.2.2.2.1 _ hl0) h1 h2 ((z_below hH h6).trans h3) h4 h5 rfl rfl hd (kk p e s m args below meth c H locs L F hL hl (z_o1 ho trivial) hH hq)
theorem z_sgetc {idx : Nat} {k : Int} (hd : decode (z_c M) pc = .ok (.getfield idx, 3)) (hl0 : Cond.fieldLink (z_y M).cls idx "java/lang/String" "coder" "B" ∈ z_tb) (hk : 0 ≤ k ∧ k < 21) (kk : z_V X d mc ms M (pc + 3) ls ((0, 0) :: st) uc us N σ g Q) : z_V X d mc ms M pc ls ((4, k) :: st) uc us N σ g Q := by
  intro p e s m args below meth c H locs L F hL hl ho hH hq
  obtain ⟨cf, kf, i, f, cell, h1, h2, h3, h4, h5, h6⟩ := (F.2.2.2.2.2.2.2.1.2.1.1 k.toNat (by omega)).2.1
  exact W.getf F.1 F.2.1 F.2.2.2.2.1 (F.2.2.2.2.2.1 _ hl0) h1 h2 ((z_below hH h6).trans h3) h4 h5 rfl rfl hd (kk p e s m args below meth c H locs L F hL hl (z_o1 ho (by constructor <;> decide)) hH hq)
theorem z_cstat {idx : Nat} (hd : decode (z_c M) pc = .ok (.getstatic idx, 3)) (hl0 : Cond.fieldLink (z_y M).cls idx "java/lang/String" "COMPACT_STRINGS" "Z" ∈ z_tb) (kk : z_V X d mc ms M (pc + 3) ls ((0, 1) :: st) uc us N σ g Q) : z_V X d mc ms M pc ls st uc us N σ g Q := by
  intro p e s m args below meth c H locs L F hL hl ho hH hq
  obtain ⟨cf, kf, fi, f, a, cell, h1, h2, h3, h4, h5, h6, h7, h8⟩ := F.2.2.2.2.2.2.2.1.2.2.2.2.2.2.1
  exact W.gets F.1 F.2.1 F.2.2.2.2.1 (F.2.2.2.2.2.1 _ hl0) h1 h2 h3 h4 ((z_below hH h8).trans h5) (fun e => by rw [e] at h6; cases h6) h7 rfl hd (kk p e s m args below meth c H locs L F hL hl (z_op ho (by constructor <;> decide)) hH hq)
theorem z_fstat {idx : Nat} (hd : decode (z_c M) pc = .ok (.getstatic idx, 3)) (hl0 : Cond.fieldLink (z_y M).cls idx "jdk/internal/util/Preconditions" "SIOOBE_FORMATTER" "Ljava/util/function/BiFunction;" ∈ z_tb) (k1 : z_V X d mc ms M (pc + 3) ls ((2, -1) :: st) uc us N σ g Q) (k2 : z_V X d mc ms M (pc + 3) ls ((3, 21) :: st) uc us N σ g Q) : z_V X d mc ms M pc ls st uc us N σ g Q := by
  intro p e s m args below meth c H locs L F hL hl ho hH hq
  rcases F.2.2.2.2.2.2.2.1.2.2.2.2.2.2.2 with ⟨cf, kf, fi, f, a, cell, h1, h2, h3, h4, h5, h6, h7, h8⟩ | ⟨cf, kf, fi, f, a, cell, h1, h2, h3, h4, h5, h6, h7, h8⟩
  · exact W.gets F.1 F.2.1 F.2.2.2.2.1 (F.2.2.2.2.2.1 _ hl0) h1 h2 h3 h4 ((z_below hH h8).trans h5) (fun e => by rw [e] at h6; cases h6) h7 rfl hd (k1 p e s m args below meth c H locs L F hL hl (z_op ho trivial) hH hq)
  · exact W.gets F.1 F.2.1 F.2.2.2.2.1 (F.2.2.2.2.2.1 _ hl0) h1 h2 h3 h4 ((z_below hH h8).trans h5) (fun e => by rw [e] at h6; cases h6) h7 rfl hd (k2 p e s m args below meth c H locs L F hL hl (z_op ho trivial) hH hq)
theorem w_ll {k : Int} (hk : 0 ≤ k ∧ k < 21) : ((z_slen.getD k.toNat 0 : Nat) : Int) = wL k ∧ 0 ≤ wL k ∧ wL k ≤ 101 := by
  have h : ∀ j : Fin 21, ((z_slen.getD j.val 0 : Nat) : Int) = wL (j.val : Int) ∧ 0 ≤ wL (j.val : Int) ∧ wL (j.val : Int) ≤ 101 := by decide +kernel
  have := h ⟨k.toNat, by omega⟩
  dsimp only at this
  rw [show ((k.toNat : Nat) : Int) = k by omega] at this
  exact this
theorem w_bb {k i : Int} (hk : 0 ≤ k ∧ k < 21) (hi : 0 ≤ i ∧ i < wL k) : (z_sbyt.getD k.toNat []).getD i.toNat 0 = Int32.ofInt (wB k i) ∧ 0 ≤ wB k i ∧ wB k i ≤ 127 := by
  have h : ∀ j : Fin 21, ∀ q : Fin 101, (q.val : Int) < wL (j.val : Int) → (z_sbyt.getD j.val []).getD q.val 0 = Int32.ofInt (wB (j.val : Int) (q.val : Int)) ∧ 0 ≤ wB (j.val : Int) (q.val : Int) ∧ wB (j.val : Int) (q.val : Int) ≤ 127 := by
    rw [w_byt]; decide +kernel
  have l := w_ll hk
  have := h ⟨k.toNat, by omega⟩ ⟨i.toNat, by omega⟩
  dsimp only at this
  rw [show ((k.toNat : Nat) : Int) = k by omega, show ((i.toNat : Nat) : Int) = i by omega] at this
  exact this hi.2
theorem z_balen {k : Int} (hd : decode (z_c M) pc = .ok (.arraylength, 1)) (hk : 0 ≤ k ∧ k < 21) (kk : z_V X d mc ms M (pc + 1) ls ((0, wL k) :: st) uc us N σ g Q) : z_V X d mc ms M pc ls ((3, k) :: st) uc us N σ g Q := by
  intro p e s m args below meth c H locs L F hL hl ho hH hq
  obtain ⟨cell, h1, h2, h3, h4, h5, h6, h7⟩ := (F.2.2.2.2.2.2.2.1.2.1.1 k.toNat (by omega)).2.2.2
  obtain ⟨l1, l2, l3⟩ := w_ll hk
  refine W.alen (n := Int32.ofInt (wL k)) F.1 F.2.1 ((z_below hH h7).trans h1) h2 ?_ rfl rfl hd (kk p e s m args below meth c H locs L F hL hl (z_o1 ho (show -2147483648 ≤ wL k ∧ wL k ≤ 2147483647 by omega)) hH hq)
  rw [h5, ← l1]; rfl
theorem z_baldt {k i : Int} (hd : decode (z_c M) pc = .ok (.baload, 1)) (hk : 0 ≤ k ∧ k < 21) (hi : 0 ≤ i ∧ i < wL k) (kk : z_V X d mc ms M (pc + 1) ls ((0, wB k i) :: st) uc us N σ g Q) : z_V X d mc ms M pc ls ((0, i) :: (3, k) :: st) uc us N σ g Q := by
  intro p e s m args below meth c H locs L F hL hl ho hH hq
  obtain ⟨cell, h1, h2, h3, h4, h5, h6, h7⟩ := (F.2.2.2.2.2.2.2.1.2.1.1 k.toNat (by omega)).2.2.2
  obtain ⟨l1, l2, l3⟩ := w_ll hk
  obtain ⟨b1, b2, b3⟩ := w_bb hk hi
  have ir : -2147483648 ≤ i ∧ i ≤ 2147483647 := by omega
  have n0 : ¬ Int32.ofInt i < 0 := by
    rw [Int32.lt_iff_toInt_lt, z_i ir]
    show ¬ i < 0
    omega
  have cl : (Int32.ofInt i).toNatClampNeg = i.toNat := z_clamp (by omega)
  refine W.bald (v := .int (Int32.ofInt (wB k i))) F.1 F.2.1 ((z_below hH h7).trans h1) h2 h3 (fun q => ?_) ?_ rfl rfl hd (kk p e s m args below meth c H locs L F hL hl (z_o2 ho (show -2147483648 ≤ wB k i ∧ wB k i ≤ 2147483647 by omega)) hH hq)
  · rcases q with q | q
    · exact n0 q
    · rw [cl] at q; omega
  · rw [cl, h6 i.toNat (by omega)]; dsimp only; rw [b1]
theorem z_xret {v : Int} {ty : FieldType} (hd : decode (z_c M) pc = .ok (.ireturn, 1)) (hr : z_r M = some ty) (hty : ty = .char ∨ ty = .byte) (hu : uc ≤ mc) (hv : us ≤ ms) (hb : 0 ≤ v ∧ v ≤ 127) (h : Q v N σ g) : z_V X d mc ms M pc ls [(0, v)] uc us N σ g Q := by
  intro p e s m args below meth c9 H locs L F hL hl ho hH hq
  refine W.widen hu hv ?_
  have nw : narrow ty (.int (Int32.ofInt v)) = .int (Int32.ofInt v) := by
    have h1 : ∀ j : Fin 128, narrow .char (.int (Int32.ofInt (j.val : Int))) = .int (Int32.ofInt (j.val : Int)) ∧ narrow .byte (.int (Int32.ofInt (j.val : Int))) = .int (Int32.ofInt (j.val : Int)) := by decide +kernel
    have h2 := h1 ⟨v.toNat, by omega⟩
    dsimp only at h2
    rw [show ((v.toNat : Nat) : Int) = v by omega] at h2
    rcases hty with rfl | rfl
    · exact h2.1
    · exact h2.2
  exact W.zret (v := Int32.ofInt v) (ty := ty) F.1 F.2.1 (F.2.2.1.trans hr) nw (fun t ht hW => ⟨v, N, σ, g, by rw [hr]; rcases hty with rfl | rfl <;> rfl, by rw [hr]; rcases hty with rfl | rfl <;> exact z_oh ho, h, by rw [ht]; exact hH⟩) hq hd F.2.2.2.2.2.2.1
end ZS
theorem d_St_coder_0 : decode (z_c m_St_coder) 0 = .ok (.getstatic 38, 3) := by decide +kernel
theorem d_St_coder_3 : decode (z_c m_St_coder) 3 = .ok (.ifCond .eq 10, 3) := by decide +kernel
theorem d_St_coder_6 : decode (z_c m_St_coder) 6 = .ok (.aload_n 0, 1) := by decide +kernel
theorem d_St_coder_7 : decode (z_c m_St_coder) 7 = .ok (.getfield 15, 3) := by decide +kernel
theorem d_St_coder_10 : decode (z_c m_St_coder) 10 = .ok (.goto 4, 3) := by decide +kernel
theorem d_St_coder_14 : decode (z_c m_St_coder) 14 = .ok (.ireturn, 1) := by decide +kernel
theorem d_St_isLatin1_0 : decode (z_c m_St_isLatin1) 0 = .ok (.getstatic 38, 3) := by decide +kernel
theorem d_St_isLatin1_3 : decode (z_c m_St_isLatin1) 3 = .ok (.ifCond .eq 14, 3) := by decide +kernel
theorem d_St_isLatin1_6 : decode (z_c m_St_isLatin1) 6 = .ok (.aload_n 0, 1) := by decide +kernel
theorem d_St_isLatin1_7 : decode (z_c m_St_isLatin1) 7 = .ok (.getfield 15, 3) := by decide +kernel
theorem d_St_isLatin1_10 : decode (z_c m_St_isLatin1) 10 = .ok (.ifCond .ne 7, 3) := by decide +kernel
theorem d_St_isLatin1_13 : decode (z_c m_St_isLatin1) 13 = .ok (.iconst 1, 1) := by decide +kernel
theorem d_St_isLatin1_14 : decode (z_c m_St_isLatin1) 14 = .ok (.goto 4, 3) := by decide +kernel
theorem d_St_isLatin1_18 : decode (z_c m_St_isLatin1) 18 = .ok (.ireturn, 1) := by decide +kernel
theorem d_St_length_0 : decode (z_c m_St_length) 0 = .ok (.aload_n 0, 1) := by decide +kernel
theorem d_St_length_1 : decode (z_c m_St_length) 1 = .ok (.getfield 9, 3) := by decide +kernel
theorem d_St_length_4 : decode (z_c m_St_length) 4 = .ok (.arraylength, 1) := by decide +kernel
theorem d_St_length_5 : decode (z_c m_St_length) 5 = .ok (.aload_n 0, 1) := by decide +kernel
theorem d_St_length_6 : decode (z_c m_St_length) 6 = .ok (.invokevirtual 335, 3) := by decide +kernel
theorem d_St_length_9 : decode (z_c m_St_length) 9 = .ok (.ishr, 1) := by decide +kernel
theorem d_St_length_10 : decode (z_c m_St_length) 10 = .ok (.ireturn, 1) := by decide +kernel
theorem d_Pc_check_0 : decode (z_c m_Pc_check) 0 = .ok (.iload_n 0, 1) := by decide +kernel
theorem d_Pc_check_1 : decode (z_c m_Pc_check) 1 = .ok (.ifCond .lt 8, 3) := by decide +kernel
theorem d_Pc_check_4 : decode (z_c m_Pc_check) 4 = .ok (.iload_n 0, 1) := by decide +kernel
theorem d_Pc_check_5 : decode (z_c m_Pc_check) 5 = .ok (.iload_n 1, 1) := by decide +kernel
theorem d_Pc_check_6 : decode (z_c m_Pc_check) 6 = .ok (.if_icmp .lt 10, 3) := by decide +kernel
theorem d_Pc_check_16 : decode (z_c m_Pc_check) 16 = .ok (.iload_n 0, 1) := by decide +kernel
theorem d_Pc_check_17 : decode (z_c m_Pc_check) 17 = .ok (.ireturn, 1) := by decide +kernel
theorem d_St_checkIndex_0 : decode (z_c m_St_checkIndex) 0 = .ok (.iload_n 0, 1) := by decide +kernel
theorem d_St_checkIndex_1 : decode (z_c m_St_checkIndex) 1 = .ok (.iload_n 1, 1) := by decide +kernel
theorem d_St_checkIndex_2 : decode (z_c m_St_checkIndex) 2 = .ok (.getstatic 1053, 3) := by decide +kernel
theorem d_St_checkIndex_5 : decode (z_c m_St_checkIndex) 5 = .ok (.invokestatic 1059, 3) := by decide +kernel
theorem d_St_checkIndex_8 : decode (z_c m_St_checkIndex) 8 = .ok (.pop, 1) := by decide +kernel
theorem d_St_checkIndex_9 : decode (z_c m_St_checkIndex) 9 = .ok (.return_, 1) := by decide +kernel
theorem d_SL_charAt_0 : decode (z_c m_SL_charAt) 0 = .ok (.iload_n 1, 1) := by decide +kernel
theorem d_SL_charAt_1 : decode (z_c m_SL_charAt) 1 = .ok (.aload_n 0, 1) := by decide +kernel
theorem d_SL_charAt_2 : decode (z_c m_SL_charAt) 2 = .ok (.arraylength, 1) := by decide +kernel
theorem d_SL_charAt_3 : decode (z_c m_SL_charAt) 3 = .ok (.invokestatic 9, 3) := by decide +kernel
theorem d_SL_charAt_6 : decode (z_c m_SL_charAt) 6 = .ok (.aload_n 0, 1) := by decide +kernel
theorem d_SL_charAt_7 : decode (z_c m_SL_charAt) 7 = .ok (.iload_n 1, 1) := by decide +kernel
theorem d_SL_charAt_8 : decode (z_c m_SL_charAt) 8 = .ok (.baload, 1) := by decide +kernel
theorem d_SL_charAt_9 : decode (z_c m_SL_charAt) 9 = .ok (.sipush 255, 3) := by decide +kernel
theorem d_SL_charAt_12 : decode (z_c m_SL_charAt) 12 = .ok (.iand, 1) := by decide +kernel
theorem d_SL_charAt_13 : decode (z_c m_SL_charAt) 13 = .ok (.i2c, 1) := by decide +kernel
theorem d_SL_charAt_14 : decode (z_c m_SL_charAt) 14 = .ok (.ireturn, 1) := by decide +kernel
theorem d_St_charAt_0 : decode (z_c m_St_charAt) 0 = .ok (.aload_n 0, 1) := by decide +kernel
theorem d_St_charAt_1 : decode (z_c m_St_charAt) 1 = .ok (.invokevirtual 492, 3) := by decide +kernel
theorem d_St_charAt_4 : decode (z_c m_St_charAt) 4 = .ok (.ifCond .eq 12, 3) := by decide +kernel
theorem d_St_charAt_7 : decode (z_c m_St_charAt) 7 = .ok (.aload_n 0, 1) := by decide +kernel
theorem d_St_charAt_8 : decode (z_c m_St_charAt) 8 = .ok (.getfield 9, 3) := by decide +kernel
theorem d_St_charAt_11 : decode (z_c m_St_charAt) 11 = .ok (.iload_n 1, 1) := by decide +kernel
theorem d_St_charAt_12 : decode (z_c m_St_charAt) 12 = .ok (.invokestatic 495, 3) := by decide +kernel
theorem d_St_charAt_15 : decode (z_c m_St_charAt) 15 = .ok (.ireturn, 1) := by decide +kernel
section ZT
variable {X : z_X} {N : Nat} {σ g : z_G} {Q : z_P}
theorem o_coder {k : Int} (hk : 0 ≤ k ∧ k < 21) (h : Q 0 g) : z_O X 1 m_St_coder [(4, k)] N σ g Q := by
  refine z_Oenter mi_St_coder rfl (fun _ => ?_)
  show z_U X 1 m_St_coder 0 [(0, (4, k))] [] N σ g Q
  refine z_cstat d_St_coder_0 fl_St_38 ?_
  refine z_if_eq (tgt := 13) d_St_coder_3 (by decide) (fun c => absurd c (by decide)) (fun _ => ?_)
  refine z_sload_n (i := 0) 0 d_St_coder_6 rfl rfl ?_
  refine z_sgetc d_St_coder_7 fl_St_15 hk ?_
  refine z_goto (tgt := 14) d_St_coder_10 (by decide) ?_
  exact z_xret d_St_coder_14 rfl (Or.inr rfl) (by decide) (by decide) (by omega) ⟨rfl, rfl, h⟩
theorem o_isLatin1 {k : Int} (hk : 0 ≤ k ∧ k < 21) (h : Q 1 g) : z_O X 1 m_St_isLatin1 [(4, k)] N σ g Q := by
  refine z_Oenter mi_St_isLatin1 rfl (fun _ => ?_)
  show z_U X 1 m_St_isLatin1 0 [(0, (4, k))] [] N σ g Q
  refine z_cstat d_St_isLatin1_0 fl_St_38 ?_
  refine z_if_eq (tgt := 17) d_St_isLatin1_3 (by decide) (fun c => absurd c (by decide)) (fun _ => ?_)
  refine z_sload_n (i := 0) 0 d_St_isLatin1_6 rfl rfl ?_
  refine z_sgetc d_St_isLatin1_7 fl_St_15 hk ?_
  refine z_if_ne (tgt := 17) d_St_isLatin1_10 (by decide) (fun c => absurd rfl c) (fun _ => ?_)
  refine z_iconst (n := 1) d_St_isLatin1_13 (by decide) ?_
  refine z_goto (tgt := 18) d_St_isLatin1_14 (by decide) ?_
  exact z_zret d_St_isLatin1_18 rfl (by decide) (by decide) (Or.inr rfl) ⟨rfl, rfl, h⟩
theorem o_length {k : Int} (hk : 0 ≤ k ∧ k < 21) (h : Q (wL k) g) : z_O X 3 m_St_length [(4, k)] N σ g Q := by
  refine z_Oenter mi_St_length rfl (fun _ => ?_)
  show z_U X 3 m_St_length 0 [(0, (4, k))] [] N σ g Q
  refine z_sload_n (i := 0) 0 d_St_length_0 rfl rfl ?_
  refine z_sgetv d_St_length_1 fl_St_9 hk ?_
  refine z_balen d_St_length_4 hk ?_
  refine z_sload_n (i := 0) 0 d_St_length_5 rfl rfl ?_
  refine z_cVs (as := []) (d' := 1) (st := [(0, wL k)]) d_St_length_6 mi_St_coder ml_St_335 mv_St_coder se_St_coder rfl rfl rfl rfl rfl hk rfl (o_coder hk fun _ => ?_)
  show z_U X 3 m_St_length 9 [(0, (4, k))] [(0, 0), (0, wL k)] N σ g Q
  refine z_ishr d_St_length_9 ?_
  have e : (Int32.ofInt (wL k) >>> (Int32.ofInt 0 &&& 31)).toInt = wL k := by
    have h1 : ∀ j : Fin 21, (Int32.ofInt (wL (j.val : Int)) >>> (Int32.ofInt 0 &&& 31)).toInt = wL (j.val : Int) := by decide +kernel
    have h2 := h1 ⟨k.toNat, by omega⟩
    dsimp only at h2
    rw [show ((k.toNat : Nat) : Int) = k by omega] at h2
    exact h2
  refine z_ti e ?_
  exact z_iret d_St_length_10 rfl (by decide) (by decide) ⟨rfl, rfl, h⟩
theorem o_pcheck {i n : Int} {f : z_t} (hf : f.1 ≠ 1) (hi : 0 ≤ i ∧ i < n) (h : Q i g) : z_O X 3 m_Pc_check [(0, i), (0, n), f] N σ g Q := by
  refine z_Oenter mi_Pc_check ?_ (fun _ => ?_)
  · obtain ⟨a, b⟩ := f
    show Nat.ble ((1 : Nat) + (1 + ((if a = 1 then 2 else 1) + 0))) 3 = true
    rw [if_neg hf]; rfl
  show z_U X 3 m_Pc_check 0 [(0, (0, i)), (1, (0, n)), (2, f)] [] N σ g Q
  refine z_iload_n (i := 0) 0 d_Pc_check_0 rfl rfl ?_
  refine z_if_lt (tgt := 9) d_Pc_check_1 (by decide) (fun c => by exfalso; omega) (fun _ => ?_)
  refine z_iload_n (i := 0) 0 d_Pc_check_4 rfl rfl ?_
  refine z_iload_n (i := 1) 1 d_Pc_check_5 rfl rfl ?_
  refine z_icmp_lt (tgt := 16) d_Pc_check_6 (by decide) (fun _ => ?_) (fun c => by exfalso; omega)
  refine z_iload_n (i := 0) 0 d_Pc_check_16 rfl rfl ?_
  exact z_iret d_Pc_check_17 rfl (by decide) (by decide) ⟨rfl, rfl, h⟩
theorem o_scheck {i n : Int} (hi : 0 ≤ i ∧ i < n) (h : Q 0 g) : z_O X 4 m_St_checkIndex [(0, i), (0, n)] N σ g Q := by
  refine z_Oenter mi_St_checkIndex rfl (fun _ => ?_)
  show z_U X 4 m_St_checkIndex 0 [(0, (0, i)), (1, (0, n))] [] N σ g Q
  refine z_iload_n (i := 0) 0 d_St_checkIndex_0 rfl rfl ?_
  refine z_iload_n (i := 1) 1 d_St_checkIndex_1 rfl rfl ?_
  have go : ∀ f : z_t, f.1 ≠ 1 → z_U X 4 m_St_checkIndex 5 [(0, (0, i)), (1, (0, n))] [f, (0, n), (0, i)] N σ g Q := fun f hf => by
    refine z_cS (as := [(0, i), (0, n), f]) (d' := 3) (st := []) d_St_checkIndex_5 mi_Pc_check ml_St_1059 ms_Pc_check rfl rfl rfl rfl rfl (o_pcheck hf hi fun _ => ?_)
    show z_U X 4 m_St_checkIndex 8 [(0, (0, i)), (1, (0, n))] [(0, i)] N σ g Q
    refine z_pop d_St_checkIndex_8 rfl ?_
    exact z_vret d_St_checkIndex_9 rfl (by decide) (by decide) ⟨rfl, rfl, h⟩
  exact z_fstat d_St_checkIndex_2 fl_St_1053 (go (2, -1) (by decide)) (go (3, 21) (by decide))
theorem o_lcharAt {k i : Int} (hk : 0 ≤ k ∧ k < 21) (hi : 0 ≤ i ∧ i < wL k) (h : Q (wB k i) g) : z_O X 5 m_SL_charAt [(3, k), (0, i)] N σ g Q := by
  refine z_Oenter mi_SL_charAt rfl (fun _ => ?_)
  show z_U X 5 m_SL_charAt 0 [(0, (3, k)), (1, (0, i))] [] N σ g Q
  refine z_iload_n (i := 1) 1 d_SL_charAt_0 rfl rfl ?_
  refine z_tload_n (i := 0) 0 d_SL_charAt_1 rfl rfl ?_
  refine z_balen d_SL_charAt_2 hk ?_
  refine z_cS (as := [(0, i), (0, wL k)]) (d' := 4) (st := []) d_SL_charAt_3 mi_St_checkIndex ml_SL_9 ms_St_checkIndex rfl rfl rfl rfl rfl (o_scheck hi fun _ => ?_)
  show z_U X 5 m_SL_charAt 6 [(0, (3, k)), (1, (0, i))] [] N σ g Q
  refine z_tload_n (i := 0) 0 d_SL_charAt_6 rfl rfl ?_
  refine z_iload_n (i := 1) 1 d_SL_charAt_7 rfl rfl ?_
  refine z_baldt d_SL_charAt_8 hk hi ?_
  refine z_sipush (n := 255) d_SL_charAt_9 (by decide) (by decide) ?_
  refine z_iand d_SL_charAt_12 ?_
  refine z_i2c d_SL_charAt_13 ?_
  obtain ⟨-, b2, b3⟩ := w_bb hk hi
  have e : (((Int32.ofInt ((Int32.ofInt (wB k i) &&& Int32.ofInt 255).toInt)).toUInt32 % 65536).toInt32).toInt = wB k i := by
    have h1 : ∀ j : Fin 128, (((Int32.ofInt ((Int32.ofInt (j.val : Int) &&& Int32.ofInt 255).toInt)).toUInt32 % 65536).toInt32).toInt = (j.val : Int) := by decide +kernel
    have h2 := h1 ⟨(wB k i).toNat, by omega⟩
    dsimp only at h2
    rw [show (((wB k i).toNat : Nat) : Int) = wB k i by omega] at h2
    exact h2
  refine z_ti e ?_
  exact z_xret d_SL_charAt_14 rfl (Or.inl rfl) (by decide) (by decide) ⟨b2, b3⟩ ⟨rfl, rfl, h⟩
theorem o_charAt {k i : Int} (hk : 0 ≤ k ∧ k < 21) (hi : 0 ≤ i ∧ i < wL k) (h : Q (wB k i) g) : z_O X 6 m_St_charAt [(4, k), (0, i)] N σ g Q := by
  obtain ⟨-, b2, b3⟩ := w_bb hk hi
  refine z_Oenter mi_St_charAt rfl (fun _ => ?_)
  show z_U X 6 m_St_charAt 0 [(0, (4, k)), (1, (0, i))] [] N σ g Q
  refine z_sload_n (i := 0) 0 d_St_charAt_0 rfl rfl ?_
  refine z_cVs (as := []) (d' := 1) (st := []) d_St_charAt_1 mi_St_isLatin1 ml_St_492 mv_St_isLatin1 se_St_isLatin1 rfl rfl rfl rfl rfl hk rfl (o_isLatin1 hk fun _ => ?_)
  show z_U X 6 m_St_charAt 4 [(0, (4, k)), (1, (0, i))] [(0, 1)] N σ g Q
  refine z_if_eq (tgt := 16) d_St_charAt_4 (by decide) (fun c => absurd c (by decide)) (fun _ => ?_)
  refine z_sload_n (i := 0) 0 d_St_charAt_7 rfl rfl ?_
  refine z_sgetv d_St_charAt_8 fl_St_9 hk ?_
  refine z_iload_n (i := 1) 1 d_St_charAt_11 rfl rfl ?_
  refine z_cS (as := [(3, k), (0, i)]) (d' := 5) (st := []) d_St_charAt_12 mi_SL_charAt ml_St_495 ms_SL_charAt rfl rfl rfl rfl rfl (o_lcharAt hk hi fun _ => ?_)
  show z_U X 6 m_St_charAt 15 [(0, (4, k)), (1, (0, i))] [(0, wB k i)] N σ g Q
  exact z_xret d_St_charAt_15 rfl (Or.inl rfl) (by decide) (by decide) ⟨b2, b3⟩ ⟨rfl, rfl, h⟩
theorem z_St_all (X : z_X) (N : Nat) (σ : z_G) : z_St X N σ := ⟨fun k g Q h1 h2 h => o_length ⟨h1, h2⟩ h, fun k i g Q h1 h2 h3 h4 h => o_charAt ⟨h1, h2⟩ ⟨h3, h4⟩ h⟩
end ZT

theorem z_nb {v : Int} (hv : -128 ≤ v ∧ v ≤ 127) : narrow .byte (.int (Int32.ofInt v)) = .int (Int32.ofInt v) := by
  have h := vp_nar_byte (Int32.ofInt v)
  have h1 : narrow .byte (.int (Int32.ofInt v)) = .int (vp_nar .byte (Int32.ofInt v)) := rfl
  rw [h1, h]
  congr 1
  rw [← Int32.toInt_inj, Int8.toInt_toInt32, Int32.toInt_toInt8, z_i (by omega), Int.bmod_eq_of_le (by omega) (by omega)]
theorem z_nc {v : Int} (hv : 0 ≤ v ∧ v ≤ 65535) : narrow .char (.int (Int32.ofInt v)) = .int (Int32.ofInt v) := by
  obtain ⟨n, rfl⟩ := Int.eq_ofNat_of_zero_le hv.1
  have h := vp_nar_char (Int32.ofInt (n : Int))
  have h1 : narrow .char (.int (Int32.ofInt (n : Int))) = .int (vp_nar .char (Int32.ofInt (n : Int))) := rfl
  rw [h1, h]
  congr 1
  apply Int32.toBitVec.inj
  apply BitVec.eq_of_toNat_eq
  have hx : (Int32.ofInt (n : Int)).toBitVec.toNat = n := by rw [Int32.toBitVec_ofInt, BitVec.toNat_ofInt]; omega
  have hy : (Int32.ofInt (n : Int)).toUInt32.toNat = n := hx
  simp [hy, hx]
  omega
/-! arrays -/
section ZR
variable {X : z_X} {d mc ms : Nat} {M : z_M} {pc : Nat} {ls : z_L} {st : List z_t} {uc us N : Nat} {σ g : z_G} {Q : z_Q}
theorem z_K.arr {s : State} (h : z_K X s) (t : Nat) {cA : ClassId} {ty : FieldType} (ht : (z_tys X)[t]? = some (cA, ty)) : ArrOfT s cA ty := (h.1.2 t _ ht).1
theorem z_ix {i m : Int} {n : Nat} (hi : 0 ≤ i ∧ i < m) (hn : ((n : Nat) : Int) = m) (hm : m ≤ 2147483647) : vp_in (Int32.ofInt i) n ∧ (Int32.ofInt i).toNatClampNeg = i.toNat ∧ i.toNat < n ∧ ((i.toNat : Nat) : Int) = i :=
  ⟨z_in_vp (by omega) (by omega), z_clamp (by omega), by omega, by omega⟩
theorem z_iald {n c : Nat} {r i m : Int} (hd : decode (z_c M) pc = .ok (.iaload, 1)) (hr : r = (c : Int)) (hs : z_sh X c = (1, n)) (hc : c < N) (hn : ((n : Nat) : Int) = m) (hm : m ≤ 2147483647) (hi : 0 ≤ i ∧ i < m)
    (kk : z_V X d mc ms M (pc + 1) ls ((0, g c i) :: st) uc us N σ g Q) : z_V X d mc ms M pc ls ((0, i) :: (2, r) :: st) uc us N σ g Q := by
  intro p e s m0 args below meth c9 H locs L F hL hl ho hH hq
  rw [List.map_cons, List.map_cons, z_mr hr]
  obtain ⟨i1, i2, i3, i4⟩ := z_ix hi hn hm
  obtain ⟨a1, a2⟩ := z_arr hH hc hs
  have hg := a2 i.toNat i3
  rw [i4] at hg
  refine W.iald (v := .int (Int32.ofInt (g c i))) F.1 F.2.1 a1 (F.2.2.2.2.2.2.2.1.arr 1 rfl n _) (fun q => by cases q) (by rw [arrV_size]; exact i1) (by rw [i2, arrV_read _ _ i3]; show some (Value.int (Int32.ofInt (g c ((i.toNat : Nat) : Int)))) = _; rw [i4]) rfl rfl hd ?_
  exact kk p e s m0 args below meth c9 H locs L F hL hl (z_o2 ho hg) hH hq
theorem z_lald {n c : Nat} {r i m : Int} (hd : decode (z_c M) pc = .ok (.laload, 1)) (hr : r = (c : Int)) (hs : z_sh X c = (2, n)) (hc : c < N) (hn : ((n : Nat) : Int) = m) (hm : m ≤ 2147483647) (hi : 0 ≤ i ∧ i < m)
    (kk : z_V X d mc ms M (pc + 1) ls ((1, g c i) :: st) uc us N σ g Q) : z_V X d mc ms M pc ls ((0, i) :: (2, r) :: st) uc us N σ g Q := by
  intro p e s m0 args below meth c9 H locs L F hL hl ho hH hq
  rw [List.map_cons, List.map_cons, z_mr hr]
  obtain ⟨i1, i2, i3, i4⟩ := z_ix hi hn hm
  obtain ⟨a1, a2⟩ := z_arr hH hc hs
  have hg := a2 i.toNat i3
  rw [i4] at hg
  refine W.lald (v := .long (Int64.ofInt (g c i))) F.1 F.2.1 a1 (F.2.2.2.2.2.2.2.1.arr 2 rfl n _) (fun q => by cases q) (by rw [arrV_size]; exact i1) (by rw [i2, arrV_read _ _ i3]; show some (Value.long (Int64.ofInt (g c ((i.toNat : Nat) : Int)))) = _; rw [i4]) rfl rfl hd ?_
  exact kk p e s m0 args below meth c9 H locs L F hL hl (z_o2 ho hg) hH hq
theorem z_cald {n c : Nat} {r i m : Int} (hd : decode (z_c M) pc = .ok (.caload, 1)) (hr : r = (c : Int)) (hs : z_sh X c = (3, n)) (hc : c < N) (hn : ((n : Nat) : Int) = m) (hm : m ≤ 2147483647) (hi : 0 ≤ i ∧ i < m)
    (kk : z_V X d mc ms M (pc + 1) ls ((0, g c i) :: st) uc us N σ g Q) : z_V X d mc ms M pc ls ((0, i) :: (2, r) :: st) uc us N σ g Q := by
  intro p e s m0 args below meth c9 H locs L F hL hl ho hH hq
  rw [List.map_cons, List.map_cons, z_mr hr]
  obtain ⟨i1, i2, i3, i4⟩ := z_ix hi hn hm
  obtain ⟨a1, a2⟩ := z_arr hH hc hs
  have hg := a2 i.toNat i3
  rw [i4] at hg
  have hg3 : (0 ≤ g c i ∧ g c i ≤ 65535) → -2147483648 ≤ g c i ∧ g c i ≤ 2147483647 := fun h => ⟨by omega, by omega⟩
  refine W.cald (v := .int (Int32.ofInt (g c i))) F.1 F.2.1 a1 (F.2.2.2.2.2.2.2.1.arr 3 rfl n _) (fun q => by cases q) (by rw [arrV_size]; exact i1) (by rw [i2, arrV_read _ _ i3]; show some (Value.int (Int32.ofInt (g c ((i.toNat : Nat) : Int)))) = _; rw [i4]) rfl rfl hd ?_
  exact kk p e s m0 args below meth c9 H locs L F hL hl (z_o2 ho (hg3 hg)) hH hq
theorem z_bald {n c : Nat} {r i m : Int} (hd : decode (z_c M) pc = .ok (.baload, 1)) (hr : r = (c : Int)) (hs : z_sh X c = (4, n)) (hc : c < N) (hn : ((n : Nat) : Int) = m) (hm : m ≤ 2147483647) (hi : 0 ≤ i ∧ i < m)
    (kk : z_V X d mc ms M (pc + 1) ls ((0, g c i) :: st) uc us N σ g Q) : z_V X d mc ms M pc ls ((0, i) :: (2, r) :: st) uc us N σ g Q := by
  intro p e s m0 args below meth c9 H locs L F hL hl ho hH hq
  rw [List.map_cons, List.map_cons, z_mr hr]
  obtain ⟨i1, i2, i3, i4⟩ := z_ix hi hn hm
  obtain ⟨a1, a2⟩ := z_arr hH hc hs
  have hg := a2 i.toNat i3
  rw [i4] at hg
  have hg3 : (-128 ≤ g c i ∧ g c i ≤ 127) → -2147483648 ≤ g c i ∧ g c i ≤ 2147483647 := fun h => ⟨by omega, by omega⟩
  refine W.bald (v := .int (Int32.ofInt (g c i))) F.1 F.2.1 a1 (F.2.2.2.2.2.2.2.1.arr 4 rfl n _) (fun q => by cases q) (by rw [arrV_size]; exact i1) (by rw [i2, arrV_read _ _ i3]; show some (Value.int (Int32.ofInt (g c ((i.toNat : Nat) : Int)))) = _; rw [i4]) rfl rfl hd ?_
  exact kk p e s m0 args below meth c9 H locs L F hL hl (z_o2 ho (hg3 hg)) hH hq
theorem z_aald5 {n c : Nat} {r i m r2 : Int} (hd : decode (z_c M) pc = .ok (.aaload, 1)) (hr : r = (c : Int)) (hs : z_sh X c = (5, n)) (hc : c < N) (hn : ((n : Nat) : Int) = m) (hm : m ≤ 2147483647) (hi : 0 ≤ i ∧ i < m) (h2 : σ c i = r2)
    (kk : z_V X d mc ms M (pc + 1) ls ((2, r2) :: st) uc us N σ g Q) : z_V X d mc ms M pc ls ((0, i) :: (2, r) :: st) uc us N σ g Q := by
  intro p e s m0 args below meth c9 H locs L F hL hl ho hH hq
  rw [List.map_cons, List.map_cons, z_mr hr]
  obtain ⟨i1, i2, i3, i4⟩ := z_ix hi hn hm
  obtain ⟨a1, a2⟩ := z_arr hH hc hs
  subst h2
  refine W.aald (v := z_ref X (σ c i)) F.1 F.2.1 a1 (F.2.2.2.2.2.2.2.1.arr 5 rfl n _) rfl (fun q => by cases q) (by rw [arrV_size]; exact i1) (by rw [i2, arrV_read _ _ i3]; show some (z_ref X (σ c ((i.toNat : Nat) : Int))) = _; rw [i4]) rfl rfl hd ?_
  exact kk p e s m0 args below meth c9 H locs L F hL hl (z_o2 ho trivial) hH hq
theorem z_aald6 {n c : Nat} {r i m r2 : Int} (hd : decode (z_c M) pc = .ok (.aaload, 1)) (hr : r = (c : Int)) (hs : z_sh X c = (6, n)) (hc : c < N) (hn : ((n : Nat) : Int) = m) (hm : m ≤ 2147483647) (hi : 0 ≤ i ∧ i < m) (h2 : σ c i = r2)
    (kk : z_V X d mc ms M (pc + 1) ls ((2, r2) :: st) uc us N σ g Q) : z_V X d mc ms M pc ls ((0, i) :: (2, r) :: st) uc us N σ g Q := by
  intro p e s m0 args below meth c9 H locs L F hL hl ho hH hq
  rw [List.map_cons, List.map_cons, z_mr hr]
  obtain ⟨i1, i2, i3, i4⟩ := z_ix hi hn hm
  obtain ⟨a1, a2⟩ := z_arr hH hc hs
  subst h2
  refine W.aald (v := z_ref X (σ c i)) F.1 F.2.1 a1 (F.2.2.2.2.2.2.2.1.arr 6 rfl n _) rfl (fun q => by cases q) (by rw [arrV_size]; exact i1) (by rw [i2, arrV_read _ _ i3]; show some (z_ref X (σ c ((i.toNat : Nat) : Int))) = _; rw [i4]) rfl rfl hd ?_
  exact kk p e s m0 args below meth c9 H locs L F hL hl (z_o2 ho trivial) hH hq
theorem z_iast {n c : Nat} {r i v m : Int} (hd : decode (z_c M) pc = .ok (.iastore, 1)) (hr : r = (c : Int)) (hs : z_sh X c = (1, n)) (hc : c < N) (hn : ((n : Nat) : Int) = m) (hm : m ≤ 2147483647) (hi : 0 ≤ i ∧ i < m)
    (kk : z_V X d mc ms M (pc + 1) ls st uc us N σ (z_up g c i v) Q) : z_V X d mc ms M pc ls ((0, v) :: (0, i) :: (2, r) :: st) uc us N σ g Q := by
  intro p e s m0 args below meth c9 H locs L F hL hl ho hH hq
  rw [List.map_cons, List.map_cons, List.map_cons, z_mr hr]
  obtain ⟨i1, i2, i3, i4⟩ := z_ix hi hn hm
  obtain ⟨a1, a2⟩ := z_arr hH hc hs
  refine W.iast F.1 F.2.1 a1 (F.2.2.2.2.2.2.2.1.arr 1 rfl n _) (fun q => by cases q) (by rw [arrV_size]; exact i1) rfl rfl hd fun H' e1 e2 e3 => ?_
  refine kk p e s m0 args below meth c9 H' _ L F hL hl (z_ot (z_ot (z_ot ho))) ?_ (z_lq hq (Nat.le_add_right _ _))
  refine z_H_set hH hc e2 e3 (fun _ _ => rfl) (fun _ h => z_up_ne h) ?_
  unfold z_cl
  rw [hs, if_neg (by simp)]
  refine ⟨?_, fun j hj => ?_⟩
  · rw [e1, i2, arrV_store]
    refine congrArg some (congrArg (arrV _ _) (funext fun j => ?_))
    unfold updV
    show _ = Value.int (Int32.ofInt (z_up g c i v c (j : Int)))
    rw [z_up_at]
    dsimp only
    by_cases h : j = i.toNat
    · rw [if_pos h, if_pos (by omega)]
    · rw [if_neg h, if_neg (by omega)]; rfl
  · rw [z_up_at]
    show z_rg 0 (if (j : Int) = i then v else g c j)
    by_cases h : (j : Int) = i
    · rw [if_pos h]; exact z_oh ho
    · rw [if_neg h]; exact a2 j hj
theorem z_last {n c : Nat} {r i v m : Int} (hd : decode (z_c M) pc = .ok (.lastore, 1)) (hr : r = (c : Int)) (hs : z_sh X c = (2, n)) (hc : c < N) (hn : ((n : Nat) : Int) = m) (hm : m ≤ 2147483647) (hi : 0 ≤ i ∧ i < m)
    (kk : z_V X d mc ms M (pc + 1) ls st uc us N σ (z_up g c i v) Q) : z_V X d mc ms M pc ls ((1, v) :: (0, i) :: (2, r) :: st) uc us N σ g Q := by
  intro p e s m0 args below meth c9 H locs L F hL hl ho hH hq
  rw [List.map_cons, List.map_cons, List.map_cons, z_mr hr]
  obtain ⟨i1, i2, i3, i4⟩ := z_ix hi hn hm
  obtain ⟨a1, a2⟩ := z_arr hH hc hs
  refine W.last F.1 F.2.1 a1 (F.2.2.2.2.2.2.2.1.arr 2 rfl n _) (fun q => by cases q) (by rw [arrV_size]; exact i1) rfl rfl hd fun H' e1 e2 e3 => ?_
  refine kk p e s m0 args below meth c9 H' _ L F hL hl (z_ot (z_ot (z_ot ho))) ?_ (z_lq hq (Nat.le_add_right _ _))
  refine z_H_set hH hc e2 e3 (fun _ _ => rfl) (fun _ h => z_up_ne h) ?_
  unfold z_cl
  rw [hs, if_neg (by simp)]
  refine ⟨?_, fun j hj => ?_⟩
  · rw [e1, i2, arrV_store]
    refine congrArg some (congrArg (arrV _ _) (funext fun j => ?_))
    unfold updV
    show _ = Value.long (Int64.ofInt (z_up g c i v c (j : Int)))
    rw [z_up_at]
    dsimp only
    by_cases h : j = i.toNat
    · rw [if_pos h, if_pos (by omega)]
    · rw [if_neg h, if_neg (by omega)]; rfl
  · rw [z_up_at]
    show z_rg 1 (if (j : Int) = i then v else g c j)
    by_cases h : (j : Int) = i
    · rw [if_pos h]; exact z_oh ho
    · rw [if_neg h]; exact a2 j hj
theorem z_cast {n c : Nat} {r i v m : Int} (hd : decode (z_c M) pc = .ok (.castore, 1)) (hr : r = (c : Int)) (hs : z_sh X c = (3, n)) (hc : c < N) (hn : ((n : Nat) : Int) = m) (hm : m ≤ 2147483647) (hi : 0 ≤ i ∧ i < m) (hv : 0 ≤ v ∧ v ≤ 65535)
    (kk : z_V X d mc ms M (pc + 1) ls st uc us N σ (z_up g c i v) Q) : z_V X d mc ms M pc ls ((0, v) :: (0, i) :: (2, r) :: st) uc us N σ g Q := by
  intro p e s m0 args below meth c9 H locs L F hL hl ho hH hq
  rw [List.map_cons, List.map_cons, List.map_cons, z_mr hr]
  obtain ⟨i1, i2, i3, i4⟩ := z_ix hi hn hm
  obtain ⟨a1, a2⟩ := z_arr hH hc hs
  have hnar : narrow .char (.int (Int32.ofInt v)) = .int (Int32.ofInt v) := z_nc hv
  refine W.cast F.1 F.2.1 a1 (F.2.2.2.2.2.2.2.1.arr 3 rfl n _) (fun q => by cases q) (by rw [arrV_size]; exact i1) rfl rfl hd fun H' e1 e2 e3 => ?_
  rw [hnar] at e1
  refine kk p e s m0 args below meth c9 H' _ L F hL hl (z_ot (z_ot (z_ot ho))) ?_ (z_lq hq (Nat.le_add_right _ _))
  refine z_H_set hH hc e2 e3 (fun _ _ => rfl) (fun _ h => z_up_ne h) ?_
  unfold z_cl
  rw [hs, if_neg (by simp)]
  refine ⟨?_, fun j hj => ?_⟩
  · rw [e1, i2, arrV_store]
    refine congrArg some (congrArg (arrV _ _) (funext fun j => ?_))
    unfold updV
    show _ = Value.int (Int32.ofInt (z_up g c i v c (j : Int)))
    rw [z_up_at]
    dsimp only
    by_cases h : j = i.toNat
    · rw [if_pos h, if_pos (by omega)]
    · rw [if_neg h, if_neg (by omega)]; rfl
  · rw [z_up_at]
    show z_rg 3 (if (j : Int) = i then v else g c j)
    by_cases h : (j : Int) = i
    · rw [if_pos h]; exact hv
    · rw [if_neg h]; exact a2 j hj
theorem z_bast {n c : Nat} {r i v m : Int} (hd : decode (z_c M) pc = .ok (.bastore, 1)) (hr : r = (c : Int)) (hs : z_sh X c = (4, n)) (hc : c < N) (hn : ((n : Nat) : Int) = m) (hm : m ≤ 2147483647) (hi : 0 ≤ i ∧ i < m) (hv : -128 ≤ v ∧ v ≤ 127)
    (kk : z_V X d mc ms M (pc + 1) ls st uc us N σ (z_up g c i v) Q) : z_V X d mc ms M pc ls ((0, v) :: (0, i) :: (2, r) :: st) uc us N σ g Q := by
  intro p e s m0 args below meth c9 H locs L F hL hl ho hH hq
  rw [List.map_cons, List.map_cons, List.map_cons, z_mr hr]
  obtain ⟨i1, i2, i3, i4⟩ := z_ix hi hn hm
  obtain ⟨a1, a2⟩ := z_arr hH hc hs
  have hnar : narrow .byte (.int (Int32.ofInt v)) = .int (Int32.ofInt v) := z_nb hv
  refine W.bast F.1 F.2.1 a1 (F.2.2.2.2.2.2.2.1.arr 4 rfl n _) (fun q => by cases q) (by rw [arrV_size]; exact i1) rfl rfl hd fun H' e1 e2 e3 => ?_
  rw [hnar] at e1
  refine kk p e s m0 args below meth c9 H' _ L F hL hl (z_ot (z_ot (z_ot ho))) ?_ (z_lq hq (Nat.le_add_right _ _))
  refine z_H_set hH hc e2 e3 (fun _ _ => rfl) (fun _ h => z_up_ne h) ?_
  unfold z_cl
  rw [hs, if_neg (by simp)]
  refine ⟨?_, fun j hj => ?_⟩
  · rw [e1, i2, arrV_store]
    refine congrArg some (congrArg (arrV _ _) (funext fun j => ?_))
    unfold updV
    show _ = Value.int (Int32.ofInt (z_up g c i v c (j : Int)))
    rw [z_up_at]
    dsimp only
    by_cases h : j = i.toNat
    · rw [if_pos h, if_pos (by omega)]
    · rw [if_neg h, if_neg (by omega)]; rfl
  · rw [z_up_at]
    show z_rg 4 (if (j : Int) = i then v else g c j)
    by_cases h : (j : Int) = i
    · rw [if_pos h]; exact hv
    · rw [if_neg h]; exact a2 j hj
theorem z_alen {t n c : Nat} {r m : Int} {ty : FieldType} {cA : ClassId} (hd : decode (z_c M) pc = .ok (.arraylength, 1)) (hr : r = (c : Int)) (hs : z_sh X c = (t + 1, n)) (hc : c < N) (hn : ((n : Nat) : Int) = m) (hm : m ≤ 2147483647) (ht : (z_tys X)[t + 1]? = some (z_A X (t + 1), ty))
    (kk : z_V X d mc ms M (pc + 1) ls ((0, m) :: st) uc us N σ g Q) : z_V X d mc ms M pc ls ((2, r) :: st) uc us N σ g Q := by
  intro p e s m0 args below meth c9 H locs L F hL hl ho hH hq
  rw [List.map_cons, z_mr hr]
  obtain ⟨a1, a2⟩ := z_arr hH hc hs
  subst hn
  refine W.alen (n := Int32.ofInt (n : Int)) F.1 F.2.1 a1 (F.2.2.2.2.2.2.2.1.arr (t + 1) ht n _) ?_ rfl rfl hd ?_
  · rw [arrV_size]; exact (Int32.ofInt_eq_ofNat (n := n)).symm
  · exact kk p e s m0 args below meth c9 H locs L F hL hl (z_o1 ho (⟨by omega, hm⟩ : -2147483648 ≤ ((n : Nat) : Int) ∧ ((n : Nat) : Int) ≤ 2147483647)) hH hq
end ZR

theorem z_ne32 {b : Int} (h1 : -2147483648 ≤ b ∧ b ≤ 2147483647) (hb : 0 < b) (n : Int32) (hn : n.toInt ≤ 0) : ¬ Int32.ofInt b = n := fun h => by
  have h2 := congrArg Int32.toInt h
  rw [z_i h1] at h2
  omega
theorem z_ne64 {b : Int} (h1 : -9223372036854775808 ≤ b ∧ b ≤ 9223372036854775807) (hb : 0 < b) (n : Int64) (hn : n.toInt ≤ 0) : ¬ Int64.ofInt b = n := fun h => by
  have h2 := congrArg Int64.toInt h
  rw [z_j h1] at h2
  omega
section ZA
variable {X : z_X} {d mc ms : Nat} {M : z_M} {pc : Nat} {ls : z_L} {st : List z_t} {uc us N : Nat} {σ g : z_G} {Q : z_Q}
theorem z_iadd {a b : Int} (hd : decode (z_c M) pc = .ok (.iadd, 1)) (hr : -2147483648 ≤ a + b ∧ a + b ≤ 2147483647) (k : z_V X d mc ms M (pc + 1) ls ((0, a + b) :: st) uc us N σ g Q) : z_V X d mc ms M pc ls ((0, b) :: (0, a) :: st) uc us N σ g Q := by
  intro p e s m args below meth c H locs L F hL hl ho hH hq
  have h9 := k p e s m args below meth c H locs L F hL hl (z_o2 ho hr) hH hq
  rw [List.map_cons, show z_v X (0, a + b) = .int (Int32.ofInt a + Int32.ofInt b) by rw [← Int32.ofInt_add]; rfl] at h9
  exact lv_iadd F.1 F.2.1 hd h9
theorem z_ladd {a b : Int} (hd : decode (z_c M) pc = .ok (.ladd, 1)) (hr : -9223372036854775808 ≤ a + b ∧ a + b ≤ 9223372036854775807) (k : z_V X d mc ms M (pc + 1) ls ((1, a + b) :: st) uc us N σ g Q) : z_V X d mc ms M pc ls ((1, b) :: (1, a) :: st) uc us N σ g Q := by
  intro p e s m args below meth c H locs L F hL hl ho hH hq
  have h9 := k p e s m args below meth c H locs L F hL hl (z_o2 ho hr) hH hq
  rw [List.map_cons, show z_v X (1, a + b) = .long (Int64.ofInt a + Int64.ofInt b) by rw [← Int64.ofInt_add]; rfl] at h9
  exact lv_ladd F.1 F.2.1 hd h9
theorem z_isub {a b : Int} (hd : decode (z_c M) pc = .ok (.isub, 1)) (hr : -2147483648 ≤ a - b ∧ a - b ≤ 2147483647) (k : z_V X d mc ms M (pc + 1) ls ((0, a - b) :: st) uc us N σ g Q) : z_V X d mc ms M pc ls ((0, b) :: (0, a) :: st) uc us N σ g Q := by
  intro p e s m args below meth c H locs L F hL hl ho hH hq
  have h9 := k p e s m args below meth c H locs L F hL hl (z_o2 ho hr) hH hq
  rw [List.map_cons, show z_v X (0, a - b) = .int (Int32.ofInt a - Int32.ofInt b) by rw [← Int32.ofInt_sub]; rfl] at h9
  exact lv_isub F.1 F.2.1 hd h9
theorem z_lsub {a b : Int} (hd : decode (z_c M) pc = .ok (.lsub, 1)) (hr : -9223372036854775808 ≤ a - b ∧ a - b ≤ 9223372036854775807) (k : z_V X d mc ms M (pc + 1) ls ((1, a - b) :: st) uc us N σ g Q) : z_V X d mc ms M pc ls ((1, b) :: (1, a) :: st) uc us N σ g Q := by
  intro p e s m args below meth c H locs L F hL hl ho hH hq
  have h9 := k p e s m args below meth c H locs L F hL hl (z_o2 ho hr) hH hq
  rw [List.map_cons, show z_v X (1, a - b) = .long (Int64.ofInt a - Int64.ofInt b) by rw [← Int64.ofInt_sub]; rfl] at h9
  exact lv_lsub F.1 F.2.1 hd h9
theorem z_imul {a b : Int} (hd : decode (z_c M) pc = .ok (.imul, 1)) (hr : -2147483648 ≤ a * b ∧ a * b ≤ 2147483647) (k : z_V X d mc ms M (pc + 1) ls ((0, a * b) :: st) uc us N σ g Q) : z_V X d mc ms M pc ls ((0, b) :: (0, a) :: st) uc us N σ g Q := by
  intro p e s m args below meth c H locs L F hL hl ho hH hq
  have h9 := k p e s m args below meth c H locs L F hL hl (z_o2 ho hr) hH hq
  rw [List.map_cons, show z_v X (0, a * b) = .int (Int32.ofInt a * Int32.ofInt b) by rw [← Int32.ofInt_mul]; rfl] at h9
  exact lv_imul F.1 F.2.1 hd h9
theorem z_lmul {a b : Int} (hd : decode (z_c M) pc = .ok (.lmul, 1)) (hr : -9223372036854775808 ≤ a * b ∧ a * b ≤ 9223372036854775807) (k : z_V X d mc ms M (pc + 1) ls ((1, a * b) :: st) uc us N σ g Q) : z_V X d mc ms M pc ls ((1, b) :: (1, a) :: st) uc us N σ g Q := by
  intro p e s m args below meth c H locs L F hL hl ho hH hq
  have h9 := k p e s m args below meth c H locs L F hL hl (z_o2 ho hr) hH hq
  rw [List.map_cons, show z_v X (1, a * b) = .long (Int64.ofInt a * Int64.ofInt b) by rw [← Int64.ofInt_mul]; rfl] at h9
  exact lv_lmul F.1 F.2.1 hd h9
theorem z_idiv {a b : Int} (hd : decode (z_c M) pc = .ok (.idiv, 1)) (hb : 0 < b) (k : z_V X d mc ms M (pc + 1) ls ((0, a.tdiv b) :: st) uc us N σ g Q) : z_V X d mc ms M pc ls ((0, b) :: (0, a) :: st) uc us N σ g Q := by
  intro p e s m args below meth c H locs L F hL hl ho hH hq
  have hb1 : -2147483648 ≤ b ∧ b ≤ 2147483647 := z_oh ho
  have ha1 : -2147483648 ≤ a ∧ a ≤ 2147483647 := z_oh (z_ot ho)
  have h0 : Int32.ofInt b ≠ -1 := z_ne32 hb1 hb _ (by decide)
  have hq1 : (Int32.ofInt a / Int32.ofInt b).toInt = a.tdiv b := by rw [Int32.toInt_div_of_ne_right _ _ h0, z_i ha1, z_i hb1]
  have hr := z_ir (Int32.ofInt a / Int32.ofInt b)
  rw [hq1] at hr
  have h9 := k p e s m args below meth c H locs L F hL hl (z_o2 ho hr) hH hq
  rw [List.map_cons, show z_v X (0, a.tdiv b) = .int (Int32.ofInt a / Int32.ofInt b) by show Value.int (Int32.ofInt (a.tdiv b)) = _; rw [← hq1, Int32.ofInt_toInt]] at h9
  exact lv_idiv F.1 F.2.1 hd (z_ne32 hb1 hb _ (by decide)) h9
theorem z_irem {a b : Int} (hd : decode (z_c M) pc = .ok (.irem, 1)) (hb : 0 < b) (k : z_V X d mc ms M (pc + 1) ls ((0, a.tmod b) :: st) uc us N σ g Q) : z_V X d mc ms M pc ls ((0, b) :: (0, a) :: st) uc us N σ g Q := by
  intro p e s m args below meth c H locs L F hL hl ho hH hq
  have hb1 : -2147483648 ≤ b ∧ b ≤ 2147483647 := z_oh ho
  have ha1 : -2147483648 ≤ a ∧ a ≤ 2147483647 := z_oh (z_ot ho)
  have hq1 : (Int32.ofInt a % Int32.ofInt b).toInt = a.tmod b := by rw [Int32.toInt_mod, z_i ha1, z_i hb1]
  have hr := z_ir (Int32.ofInt a % Int32.ofInt b)
  rw [hq1] at hr
  have h9 := k p e s m args below meth c H locs L F hL hl (z_o2 ho hr) hH hq
  have h0 : Int32.ofInt b ≠ -1 := z_ne32 hb1 hb _ (by decide)
  have hq2 : Int32.ofInt a / Int32.ofInt b = Int32.ofInt (a.tdiv b) := by rw [← Int32.toInt_inj, Int32.toInt_div_of_ne_right _ _ h0, z_i ha1, z_i hb1, Int32.toInt_ofInt, ← z_i ha1, ← z_i hb1, ← Int32.toInt_div_of_ne_right _ _ h0, ← Int32.toInt_ofInt, Int32.ofInt_toInt]
  rw [List.map_cons, show z_v X (0, a.tmod b) = .int (Int32.ofInt a - Int32.ofInt a / Int32.ofInt b * Int32.ofInt b) by rw [hq2, ← Int32.ofInt_mul, ← Int32.ofInt_sub, Int.mul_comm, ← Int.tmod_def]; rfl] at h9
  exact lv_irem F.1 F.2.1 hd (z_ne32 hb1 hb _ (by decide)) h9
theorem z_ldiv {a b : Int} (hd : decode (z_c M) pc = .ok (.ldiv, 1)) (hb : 0 < b) (k : z_V X d mc ms M (pc + 1) ls ((1, a.tdiv b) :: st) uc us N σ g Q) : z_V X d mc ms M pc ls ((1, b) :: (1, a) :: st) uc us N σ g Q := by
  intro p e s m args below meth c H locs L F hL hl ho hH hq
  have hb1 : -9223372036854775808 ≤ b ∧ b ≤ 9223372036854775807 := z_oh ho
  have ha1 : -9223372036854775808 ≤ a ∧ a ≤ 9223372036854775807 := z_oh (z_ot ho)
  have h0 : Int64.ofInt b ≠ -1 := z_ne64 hb1 hb _ (by decide)
  have hq1 : (Int64.ofInt a / Int64.ofInt b).toInt = a.tdiv b := by rw [Int64.toInt_div_of_ne_right _ _ h0, z_j ha1, z_j hb1]
  have hr := z_jr (Int64.ofInt a / Int64.ofInt b)
  rw [hq1] at hr
  have h9 := k p e s m args below meth c H locs L F hL hl (z_o2 ho hr) hH hq
  rw [List.map_cons, show z_v X (1, a.tdiv b) = .long (Int64.ofInt a / Int64.ofInt b) by show Value.long (Int64.ofInt (a.tdiv b)) = _; rw [← hq1, Int64.ofInt_toInt]] at h9
  exact lv_ldiv F.1 F.2.1 hd (z_ne64 hb1 hb _ (by decide)) h9
theorem z_lrem {a b : Int} (hd : decode (z_c M) pc = .ok (.lrem, 1)) (hb : 0 < b) (k : z_V X d mc ms M (pc + 1) ls ((1, a.tmod b) :: st) uc us N σ g Q) : z_V X d mc ms M pc ls ((1, b) :: (1, a) :: st) uc us N σ g Q := by
  intro p e s m args below meth c H locs L F hL hl ho hH hq
  have hb1 : -9223372036854775808 ≤ b ∧ b ≤ 9223372036854775807 := z_oh ho
  have ha1 : -9223372036854775808 ≤ a ∧ a ≤ 9223372036854775807 := z_oh (z_ot ho)
  have hq1 : (Int64.ofInt a % Int64.ofInt b).toInt = a.tmod b := by rw [Int64.toInt_mod, z_j ha1, z_j hb1]
  have hr := z_jr (Int64.ofInt a % Int64.ofInt b)
  rw [hq1] at hr
  have h9 := k p e s m args below meth c H locs L F hL hl (z_o2 ho hr) hH hq
  have h0 : Int64.ofInt b ≠ -1 := z_ne64 hb1 hb _ (by decide)
  have hq2 : Int64.ofInt a / Int64.ofInt b = Int64.ofInt (a.tdiv b) := by rw [← Int64.toInt_inj, Int64.toInt_div_of_ne_right _ _ h0, z_j ha1, z_j hb1, Int64.toInt_ofInt, ← z_j ha1, ← z_j hb1, ← Int64.toInt_div_of_ne_right _ _ h0, ← Int64.toInt_ofInt, Int64.ofInt_toInt]
  rw [List.map_cons, show z_v X (1, a.tmod b) = .long (Int64.ofInt a - Int64.ofInt a / Int64.ofInt b * Int64.ofInt b) by rw [hq2, ← Int64.ofInt_mul, ← Int64.ofInt_sub, Int.mul_comm, ← Int.tmod_def]; rfl] at h9
  exact lv_lrem F.1 F.2.1 hd (z_ne64 hb1 hb _ (by decide)) h9
theorem z_iand {a b : Int} (hd : decode (z_c M) pc = .ok (.iand, 1)) (k : z_V X d mc ms M (pc + 1) ls ((0, (Int32.ofInt a &&& Int32.ofInt b).toInt) :: st) uc us N σ g Q) : z_V X d mc ms M pc ls ((0, b) :: (0, a) :: st) uc us N σ g Q := by
  intro p e s m args below meth c H locs L F hL hl ho hH hq
  have h9 := k p e s m args below meth c H locs L F hL hl (z_o2 ho (z_ir (Int32.ofInt a &&& Int32.ofInt b))) hH hq
  rw [List.map_cons, show z_v X (0, (Int32.ofInt a &&& Int32.ofInt b).toInt) = .int (Int32.ofInt a &&& Int32.ofInt b) by show Value.int (Int32.ofInt (Int32.ofInt a &&& Int32.ofInt b).toInt) = _; rw [Int32.ofInt_toInt]] at h9
  exact lv_iand F.1 F.2.1 hd  h9
theorem z_ior {a b : Int} (hd : decode (z_c M) pc = .ok (.ior, 1)) (k : z_V X d mc ms M (pc + 1) ls ((0, (Int32.ofInt a ||| Int32.ofInt b).toInt) :: st) uc us N σ g Q) : z_V X d mc ms M pc ls ((0, b) :: (0, a) :: st) uc us N σ g Q := by
  intro p e s m args below meth c H locs L F hL hl ho hH hq
  have h9 := k p e s m args below meth c H locs L F hL hl (z_o2 ho (z_ir (Int32.ofInt a ||| Int32.ofInt b))) hH hq
  rw [List.map_cons, show z_v X (0, (Int32.ofInt a ||| Int32.ofInt b).toInt) = .int (Int32.ofInt a ||| Int32.ofInt b) by show Value.int (Int32.ofInt (Int32.ofInt a ||| Int32.ofInt b).toInt) = _; rw [Int32.ofInt_toInt]] at h9
  exact lv_ior F.1 F.2.1 hd  h9
theorem z_ishl {a b : Int} (hd : decode (z_c M) pc = .ok (.ishl, 1)) (k : z_V X d mc ms M (pc + 1) ls ((0, (Int32.ofInt a <<< (Int32.ofInt b &&& 31)).toInt) :: st) uc us N σ g Q) : z_V X d mc ms M pc ls ((0, b) :: (0, a) :: st) uc us N σ g Q := by
  intro p e s m args below meth c H locs L F hL hl ho hH hq
  have h9 := k p e s m args below meth c H locs L F hL hl (z_o2 ho (z_ir (Int32.ofInt a <<< (Int32.ofInt b &&& 31)))) hH hq
  rw [List.map_cons, show z_v X (0, (Int32.ofInt a <<< (Int32.ofInt b &&& 31)).toInt) = .int (Int32.ofInt a <<< (Int32.ofInt b &&& 31)) by show Value.int (Int32.ofInt (Int32.ofInt a <<< (Int32.ofInt b &&& 31)).toInt) = _; rw [Int32.ofInt_toInt]] at h9
  exact lv_ishl F.1 F.2.1 hd  h9
theorem z_ishr {a b : Int} (hd : decode (z_c M) pc = .ok (.ishr, 1)) (k : z_V X d mc ms M (pc + 1) ls ((0, (Int32.ofInt a >>> (Int32.ofInt b &&& 31)).toInt) :: st) uc us N σ g Q) : z_V X d mc ms M pc ls ((0, b) :: (0, a) :: st) uc us N σ g Q := by
  intro p e s m args below meth c H locs L F hL hl ho hH hq
  have h9 := k p e s m args below meth c H locs L F hL hl (z_o2 ho (z_ir (Int32.ofInt a >>> (Int32.ofInt b &&& 31)))) hH hq
  rw [List.map_cons, show z_v X (0, (Int32.ofInt a >>> (Int32.ofInt b &&& 31)).toInt) = .int (Int32.ofInt a >>> (Int32.ofInt b &&& 31)) by show Value.int (Int32.ofInt (Int32.ofInt a >>> (Int32.ofInt b &&& 31)).toInt) = _; rw [Int32.ofInt_toInt]] at h9
  exact lv_ishr F.1 F.2.1 hd  h9
theorem z_iushr {a b : Int} (hd : decode (z_c M) pc = .ok (.iushr, 1)) (k : z_V X d mc ms M (pc + 1) ls ((0, (((Int32.ofInt a).toUInt32 >>> ((Int32.ofInt b).toUInt32 &&& Int32.toUInt32 31)).toInt32).toInt) :: st) uc us N σ g Q) : z_V X d mc ms M pc ls ((0, b) :: (0, a) :: st) uc us N σ g Q := by
  intro p e s m args below meth c H locs L F hL hl ho hH hq
  have h9 := k p e s m args below meth c H locs L F hL hl (z_o2 ho (z_ir (((Int32.ofInt a).toUInt32 >>> ((Int32.ofInt b).toUInt32 &&& Int32.toUInt32 31)).toInt32))) hH hq
  rw [List.map_cons, show z_v X (0, (((Int32.ofInt a).toUInt32 >>> ((Int32.ofInt b).toUInt32 &&& Int32.toUInt32 31)).toInt32).toInt) = .int (((Int32.ofInt a).toUInt32 >>> ((Int32.ofInt b).toUInt32 &&& Int32.toUInt32 31)).toInt32) by show Value.int (Int32.ofInt (((Int32.ofInt a).toUInt32 >>> ((Int32.ofInt b).toUInt32 &&& Int32.toUInt32 31)).toInt32).toInt) = _; rw [Int32.ofInt_toInt]] at h9
  exact lv_iushr F.1 F.2.1 hd rfl h9
theorem z_land {a b : Int} (hd : decode (z_c M) pc = .ok (.land, 1)) (k : z_V X d mc ms M (pc + 1) ls ((1, (Int64.ofInt a &&& Int64.ofInt b).toInt) :: st) uc us N σ g Q) : z_V X d mc ms M pc ls ((1, b) :: (1, a) :: st) uc us N σ g Q := by
  intro p e s m args below meth c H locs L F hL hl ho hH hq
  have h9 := k p e s m args below meth c H locs L F hL hl (z_o2 ho (z_jr (Int64.ofInt a &&& Int64.ofInt b))) hH hq
  rw [List.map_cons, show z_v X (1, (Int64.ofInt a &&& Int64.ofInt b).toInt) = .long (Int64.ofInt a &&& Int64.ofInt b) by show Value.long (Int64.ofInt (Int64.ofInt a &&& Int64.ofInt b).toInt) = _; rw [Int64.ofInt_toInt]] at h9
  exact lv_land F.1 F.2.1 hd  h9
theorem z_lor {a b : Int} (hd : decode (z_c M) pc = .ok (.lor, 1)) (k : z_V X d mc ms M (pc + 1) ls ((1, (Int64.ofInt a ||| Int64.ofInt b).toInt) :: st) uc us N σ g Q) : z_V X d mc ms M pc ls ((1, b) :: (1, a) :: st) uc us N σ g Q := by
  intro p e s m args below meth c H locs L F hL hl ho hH hq
  have h9 := k p e s m args below meth c H locs L F hL hl (z_o2 ho (z_jr (Int64.ofInt a ||| Int64.ofInt b))) hH hq
  rw [List.map_cons, show z_v X (1, (Int64.ofInt a ||| Int64.ofInt b).toInt) = .long (Int64.ofInt a ||| Int64.ofInt b) by show Value.long (Int64.ofInt (Int64.ofInt a ||| Int64.ofInt b).toInt) = _; rw [Int64.ofInt_toInt]] at h9
  exact lv_lor F.1 F.2.1 hd  h9
theorem z_lshl {a b : Int} (hd : decode (z_c M) pc = .ok (.lshl, 1)) (k : z_V X d mc ms M (pc + 1) ls ((1, (Int64.ofInt a <<< ((Int32.ofInt b).toInt64 &&& 63)).toInt) :: st) uc us N σ g Q) : z_V X d mc ms M pc ls ((0, b) :: (1, a) :: st) uc us N σ g Q := by
  intro p e s m args below meth c H locs L F hL hl ho hH hq
  have h9 := k p e s m args below meth c H locs L F hL hl (z_o2 ho (z_jr (Int64.ofInt a <<< ((Int32.ofInt b).toInt64 &&& 63)))) hH hq
  rw [List.map_cons, show z_v X (1, (Int64.ofInt a <<< ((Int32.ofInt b).toInt64 &&& 63)).toInt) = .long (Int64.ofInt a <<< ((Int32.ofInt b).toInt64 &&& 63)) by show Value.long (Int64.ofInt (Int64.ofInt a <<< ((Int32.ofInt b).toInt64 &&& 63)).toInt) = _; rw [Int64.ofInt_toInt]] at h9
  exact lv_lshl F.1 F.2.1 hd rfl h9
theorem z_lshr {a b : Int} (hd : decode (z_c M) pc = .ok (.lshr, 1)) (k : z_V X d mc ms M (pc + 1) ls ((1, (Int64.ofInt a >>> ((Int32.ofInt b).toInt64 &&& 63)).toInt) :: st) uc us N σ g Q) : z_V X d mc ms M pc ls ((0, b) :: (1, a) :: st) uc us N σ g Q := by
  intro p e s m args below meth c H locs L F hL hl ho hH hq
  have h9 := k p e s m args below meth c H locs L F hL hl (z_o2 ho (z_jr (Int64.ofInt a >>> ((Int32.ofInt b).toInt64 &&& 63)))) hH hq
  rw [List.map_cons, show z_v X (1, (Int64.ofInt a >>> ((Int32.ofInt b).toInt64 &&& 63)).toInt) = .long (Int64.ofInt a >>> ((Int32.ofInt b).toInt64 &&& 63)) by show Value.long (Int64.ofInt (Int64.ofInt a >>> ((Int32.ofInt b).toInt64 &&& 63)).toInt) = _; rw [Int64.ofInt_toInt]] at h9
  exact lv_lshr F.1 F.2.1 hd rfl h9
theorem z_ineg {a : Int} (hd : decode (z_c M) pc = .ok (.ineg, 1)) (hr : -2147483648 ≤ -a ∧ -a ≤ 2147483647) (k : z_V X d mc ms M (pc + 1) ls ((0, -a) :: st) uc us N σ g Q) : z_V X d mc ms M pc ls ((0, a) :: st) uc us N σ g Q := by
  intro p e s m args below meth c H locs L F hL hl ho hH hq
  have h9 := k p e s m args below meth c H locs L F hL hl (z_o1 ho hr) hH hq
  rw [List.map_cons, show z_v X (0, -a) = .int (-Int32.ofInt a) by rw [← Int32.ofInt_neg]; rfl] at h9
  exact lv_ineg F.1 F.2.1 hd h9
theorem z_i2l {a : Int} (hd : decode (z_c M) pc = .ok (.i2l, 1)) (k : z_V X d mc ms M (pc + 1) ls ((1, a) :: st) uc us N σ g Q) : z_V X d mc ms M pc ls ((0, a) :: st) uc us N σ g Q := by
  intro p e s m args below meth c H locs L F hL hl ho hH hq
  have h1 : -2147483648 ≤ a ∧ a ≤ 2147483647 := z_oh ho
  have h9 := k p e s m args below meth c H locs L F hL hl (z_o1 ho (⟨by omega, by omega⟩ : -9223372036854775808 ≤ a ∧ a ≤ 9223372036854775807)) hH hq
  rw [List.map_cons, show z_v X (1, a) = .long ((Int32.ofInt a).toInt64) by show Value.long (Int64.ofInt a) = _; rw [Int32.toInt64_ofInt h1.1 h1.2]] at h9
  exact lv_i2l F.1 F.2.1 hd rfl h9
theorem z_l2i {a : Int} (hd : decode (z_c M) pc = .ok (.l2i, 1)) (k : z_V X d mc ms M (pc + 1) ls ((0, a.bmod 4294967296) :: st) uc us N σ g Q) : z_V X d mc ms M pc ls ((1, a) :: st) uc us N σ g Q := by
  intro p e s m args below meth c H locs L F hL hl ho hH hq
  have h0 : ((Int64.ofInt a).toInt32).toInt = a.bmod 4294967296 := by rw [Int64.toInt_toInt32, z_j (z_oh ho)]
  have h2 := z_ir ((Int64.ofInt a).toInt32)
  rw [h0] at h2
  have h9 := k p e s m args below meth c H locs L F hL hl (z_o1 ho h2) hH hq
  rw [List.map_cons, show z_v X (0, a.bmod 4294967296) = .int ((Int64.ofInt a).toInt32) by show Value.int (Int32.ofInt (a.bmod 4294967296)) = _; rw [← h0, Int32.ofInt_toInt]] at h9
  exact lv_l2i F.1 F.2.1 hd rfl h9
theorem z_l2i' {a : Int} (hd : decode (z_c M) pc = .ok (.l2i, 1)) (hr : -2147483648 ≤ a ∧ a ≤ 2147483647) (k : z_V X d mc ms M (pc + 1) ls ((0, a) :: st) uc us N σ g Q) : z_V X d mc ms M pc ls ((1, a) :: st) uc us N σ g Q := by
  intro p e s m args below meth c H locs L F hL hl ho hH hq
  have h9 := k p e s m args below meth c H locs L F hL hl (z_o1 ho hr) hH hq
  rw [List.map_cons, show z_v X (0, a) = .int ((Int64.ofInt a).toInt32) by show Value.int (Int32.ofInt a) = _; rw [Int64.toInt32_ofInt]] at h9
  exact lv_l2i F.1 F.2.1 hd rfl h9
theorem z_i2b {a : Int} (hd : decode (z_c M) pc = .ok (.i2b, 1)) (k : z_V X d mc ms M (pc + 1) ls ((0, a.bmod 256) :: st) uc us N σ g Q) : z_V X d mc ms M pc ls ((0, a) :: st) uc us N σ g Q := by
  intro p e s m args below meth c H locs L F hL hl ho hH hq
  have h0 : ((Int32.ofInt a).toInt8.toInt32).toInt = a.bmod 256 := by rw [Int8.toInt_toInt32, Int32.toInt_toInt8, z_i (z_oh ho)]
  have h2 := z_ir ((Int32.ofInt a).toInt8.toInt32)
  rw [h0] at h2
  have h9 := k p e s m args below meth c H locs L F hL hl (z_o1 ho h2) hH hq
  rw [List.map_cons, show z_v X (0, a.bmod 256) = .int ((Int32.ofInt a).toInt8.toInt32) by show Value.int (Int32.ofInt (a.bmod 256)) = _; rw [← h0, Int32.ofInt_toInt]] at h9
  exact lv_i2b F.1 F.2.1 hd rfl h9
theorem z_i2s {a : Int} (hd : decode (z_c M) pc = .ok (.i2s, 1)) (k : z_V X d mc ms M (pc + 1) ls ((0, a.bmod 65536) :: st) uc us N σ g Q) : z_V X d mc ms M pc ls ((0, a) :: st) uc us N σ g Q := by
  intro p e s m args below meth c H locs L F hL hl ho hH hq
  have h0 : ((Int32.ofInt a).toInt16.toInt32).toInt = a.bmod 65536 := by rw [Int16.toInt_toInt32, Int32.toInt_toInt16, z_i (z_oh ho)]
  have h2 := z_ir ((Int32.ofInt a).toInt16.toInt32)
  rw [h0] at h2
  have h9 := k p e s m args below meth c H locs L F hL hl (z_o1 ho h2) hH hq
  rw [List.map_cons, show z_v X (0, a.bmod 65536) = .int ((Int32.ofInt a).toInt16.toInt32) by show Value.int (Int32.ofInt (a.bmod 65536)) = _; rw [← h0, Int32.ofInt_toInt]] at h9
  exact lv_i2s F.1 F.2.1 hd rfl h9
theorem z_i2c {a : Int} (hd : decode (z_c M) pc = .ok (.i2c, 1)) (k : z_V X d mc ms M (pc + 1) ls ((0, (((Int32.ofInt a).toUInt32 % 65536).toInt32).toInt) :: st) uc us N σ g Q) : z_V X d mc ms M pc ls ((0, a) :: st) uc us N σ g Q := by
  intro p e s m args below meth c H locs L F hL hl ho hH hq
  have h9 := k p e s m args below meth c H locs L F hL hl (z_o1 ho (z_ir _)) hH hq
  rw [List.map_cons, show z_v X (0, (((Int32.ofInt a).toUInt32 % 65536).toInt32).toInt) = .int (((Int32.ofInt a).toUInt32 % 65536).toInt32) by show Value.int (Int32.ofInt _) = _; rw [Int32.ofInt_toInt]] at h9
  exact lv_i2c F.1 F.2.1 hd rfl h9
theorem z_dup {x : z_t} (hd : decode (z_c M) pc = .ok (.dup, 1)) (hx : (x.1 == 1) = false) (k : z_V X d mc ms M (pc + 1) ls (x :: x :: st) uc us N σ g Q) : z_V X d mc ms M pc ls (x :: st) uc us N σ g Q := by
  intro p e s m args below meth c H locs L F hL hl ho hH hq
  exact lv_dup F.1 F.2.1 hd (by rw [z_cat, if_neg (by simpa using hx)]) (k p e s m args below meth c H locs L F hL hl (z_op ho (z_oh ho)) hH hq)
theorem z_pop {x : z_t} (hd : decode (z_c M) pc = .ok (.pop, 1)) (hx : (x.1 == 1) = false) (k : z_V X d mc ms M (pc + 1) ls st uc us N σ g Q) : z_V X d mc ms M pc ls (x :: st) uc us N σ g Q := by
  intro p e s m args below meth c H locs L F hL hl ho hH hq
  exact lv_pop F.1 F.2.1 hd (by rw [z_cat, if_neg (by simpa using hx)]) (k p e s m args below meth c H locs L F hL hl (z_ot ho) hH hq)
theorem z_dup2 {x y : z_t} (hd : decode (z_c M) pc = .ok (.dup2, 1)) (hx : (x.1 == 1) = false) (hy : (y.1 == 1) = false) (k : z_V X d mc ms M (pc + 1) ls (x :: y :: x :: y :: st) uc us N σ g Q) : z_V X d mc ms M pc ls (x :: y :: st) uc us N σ g Q := by
  intro p e s m args below meth c H locs L F hL hl ho hH hq
  exact lv_dup2_11 F.1 F.2.1 hd (by rw [z_cat, if_neg (by simpa using hx)]) (by rw [z_cat, if_neg (by simpa using hy)]) (k p e s m args below meth c H locs L F hL hl (z_op (z_op ho (z_oh (z_ot ho))) (z_oh ho)) hH hq)
theorem z_icmp_eq {a b off : Int} {tgt : Nat} (hd : decode (z_c M) pc = .ok (.if_icmp .eq off, 3)) (ht : (pc : Int) + off = (tgt : Int)) (kt : a = b → z_V X d mc ms M tgt ls st uc us N σ g Q) (kf : ¬ (a = b) → z_V X d mc ms M (pc + 3) ls st uc us N σ g Q) : z_V X d mc ms M pc ls ((0, b) :: (0, a) :: st) uc us N σ g Q := by
  intro p e s m args below meth c H locs L F hL hl ho hH hq
  have hb1 : -2147483648 ≤ b ∧ b ≤ 2147483647 := z_oh ho
  have ha1 : -2147483648 ≤ a ∧ a ≤ 2147483647 := z_oh (z_ot ho)
  have hb2 := z_i hb1
  have ha2 := z_i ha1
  exact lv_icmp_eq F.1 F.2.1 hd ht (fun h => kt (by simp only [← Int32.toInt_inj, Int32.lt_iff_toInt_lt, Int32.le_iff_toInt_le, ha2, hb2] at h; omega) p e s m args below meth c H locs L F hL hl (z_ot (z_ot ho)) hH hq) (fun h => kf (by simp only [← Int32.toInt_inj, Int32.lt_iff_toInt_lt, Int32.le_iff_toInt_le, ha2, hb2] at h; omega) p e s m args below meth c H locs L F hL hl (z_ot (z_ot ho)) hH hq)
theorem z_if_eq {a off : Int} {tgt : Nat} (hd : decode (z_c M) pc = .ok (.ifCond .eq off, 3)) (ht : (pc : Int) + off = (tgt : Int)) (kt : a = 0 → z_V X d mc ms M tgt ls st uc us N σ g Q) (kf : ¬ (a = 0) → z_V X d mc ms M (pc + 3) ls st uc us N σ g Q) : z_V X d mc ms M pc ls ((0, a) :: st) uc us N σ g Q := by
  intro p e s m args below meth c H locs L F hL hl ho hH hq
  have ha1 : -2147483648 ≤ a ∧ a ≤ 2147483647 := z_oh ho
  have hb2 : (0 : Int32).toInt = 0 := by decide
  have ha2 := z_i ha1
  exact lv_if_eq F.1 F.2.1 hd ht (fun h => kt (by simp only [← Int32.toInt_inj, Int32.lt_iff_toInt_lt, Int32.le_iff_toInt_le, ha2, hb2] at h; omega) p e s m args below meth c H locs L F hL hl (z_ot ho) hH hq) (fun h => kf (by simp only [← Int32.toInt_inj, Int32.lt_iff_toInt_lt, Int32.le_iff_toInt_le, ha2, hb2] at h; omega) p e s m args below meth c H locs L F hL hl (z_ot ho) hH hq)
theorem z_icmp_ne {a b off : Int} {tgt : Nat} (hd : decode (z_c M) pc = .ok (.if_icmp .ne off, 3)) (ht : (pc : Int) + off = (tgt : Int)) (kt : ¬ a = b → z_V X d mc ms M tgt ls st uc us N σ g Q) (kf : a = b → z_V X d mc ms M (pc + 3) ls st uc us N σ g Q) : z_V X d mc ms M pc ls ((0, b) :: (0, a) :: st) uc us N σ g Q := by
  intro p e s m args below meth c H locs L F hL hl ho hH hq
  have hb1 : -2147483648 ≤ b ∧ b ≤ 2147483647 := z_oh ho
  have ha1 : -2147483648 ≤ a ∧ a ≤ 2147483647 := z_oh (z_ot ho)
  have hb2 := z_i hb1
  have ha2 := z_i ha1
  exact lv_icmp_ne F.1 F.2.1 hd ht (fun h => kt (by simp only [← Int32.toInt_inj, Int32.lt_iff_toInt_lt, Int32.le_iff_toInt_le, ha2, hb2] at h; omega) p e s m args below meth c H locs L F hL hl (z_ot (z_ot ho)) hH hq) (fun h => kf (by simp only [← Int32.toInt_inj, Int32.lt_iff_toInt_lt, Int32.le_iff_toInt_le, ha2, hb2] at h; omega) p e s m args below meth c H locs L F hL hl (z_ot (z_ot ho)) hH hq)
theorem z_if_ne {a off : Int} {tgt : Nat} (hd : decode (z_c M) pc = .ok (.ifCond .ne off, 3)) (ht : (pc : Int) + off = (tgt : Int)) (kt : ¬ a = 0 → z_V X d mc ms M tgt ls st uc us N σ g Q) (kf : a = 0 → z_V X d mc ms M (pc + 3) ls st uc us N σ g Q) : z_V X d mc ms M pc ls ((0, a) :: st) uc us N σ g Q := by
  intro p e s m args below meth c H locs L F hL hl ho hH hq
  have ha1 : -2147483648 ≤ a ∧ a ≤ 2147483647 := z_oh ho
  have hb2 : (0 : Int32).toInt = 0 := by decide
  have ha2 := z_i ha1
  exact lv_if_ne F.1 F.2.1 hd ht (fun h => kt (by simp only [← Int32.toInt_inj, Int32.lt_iff_toInt_lt, Int32.le_iff_toInt_le, ha2, hb2] at h; omega) p e s m args below meth c H locs L F hL hl (z_ot ho) hH hq) (fun h => kf (by simp only [← Int32.toInt_inj, Int32.lt_iff_toInt_lt, Int32.le_iff_toInt_le, ha2, hb2] at h; omega) p e s m args below meth c H locs L F hL hl (z_ot ho) hH hq)
theorem z_icmp_lt {a b off : Int} {tgt : Nat} (hd : decode (z_c M) pc = .ok (.if_icmp .lt off, 3)) (ht : (pc : Int) + off = (tgt : Int)) (kt : a < b → z_V X d mc ms M tgt ls st uc us N σ g Q) (kf : ¬ (a < b) → z_V X d mc ms M (pc + 3) ls st uc us N σ g Q) : z_V X d mc ms M pc ls ((0, b) :: (0, a) :: st) uc us N σ g Q := by
  intro p e s m args below meth c H locs L F hL hl ho hH hq
  have hb1 : -2147483648 ≤ b ∧ b ≤ 2147483647 := z_oh ho
  have ha1 : -2147483648 ≤ a ∧ a ≤ 2147483647 := z_oh (z_ot ho)
  have hb2 := z_i hb1
  have ha2 := z_i ha1
  exact lv_icmp_lt F.1 F.2.1 hd ht (fun h => kt (by simp only [← Int32.toInt_inj, Int32.lt_iff_toInt_lt, Int32.le_iff_toInt_le, ha2, hb2] at h; omega) p e s m args below meth c H locs L F hL hl (z_ot (z_ot ho)) hH hq) (fun h => kf (by simp only [← Int32.toInt_inj, Int32.lt_iff_toInt_lt, Int32.le_iff_toInt_le, ha2, hb2] at h; omega) p e s m args below meth c H locs L F hL hl (z_ot (z_ot ho)) hH hq)
theorem z_if_lt {a off : Int} {tgt : Nat} (hd : decode (z_c M) pc = .ok (.ifCond .lt off, 3)) (ht : (pc : Int) + off = (tgt : Int)) (kt : a < 0 → z_V X d mc ms M tgt ls st uc us N σ g Q) (kf : ¬ (a < 0) → z_V X d mc ms M (pc + 3) ls st uc us N σ g Q) : z_V X d mc ms M pc ls ((0, a) :: st) uc us N σ g Q := by
  intro p e s m args below meth c H locs L F hL hl ho hH hq
  have ha1 : -2147483648 ≤ a ∧ a ≤ 2147483647 := z_oh ho
  have hb2 : (0 : Int32).toInt = 0 := by decide
  have ha2 := z_i ha1
  exact lv_if_lt F.1 F.2.1 hd ht (fun h => kt (by simp only [← Int32.toInt_inj, Int32.lt_iff_toInt_lt, Int32.le_iff_toInt_le, ha2, hb2] at h; omega) p e s m args below meth c H locs L F hL hl (z_ot ho) hH hq) (fun h => kf (by simp only [← Int32.toInt_inj, Int32.lt_iff_toInt_lt, Int32.le_iff_toInt_le, ha2, hb2] at h; omega) p e s m args below meth c H locs L F hL hl (z_ot ho) hH hq)
theorem z_icmp_ge {a b off : Int} {tgt : Nat} (hd : decode (z_c M) pc = .ok (.if_icmp .ge off, 3)) (ht : (pc : Int) + off = (tgt : Int)) (kt : b ≤ a → z_V X d mc ms M tgt ls st uc us N σ g Q) (kf : ¬ (b ≤ a) → z_V X d mc ms M (pc + 3) ls st uc us N σ g Q) : z_V X d mc ms M pc ls ((0, b) :: (0, a) :: st) uc us N σ g Q := by
  intro p e s m args below meth c H locs L F hL hl ho hH hq
  have hb1 : -2147483648 ≤ b ∧ b ≤ 2147483647 := z_oh ho
  have ha1 : -2147483648 ≤ a ∧ a ≤ 2147483647 := z_oh (z_ot ho)
  have hb2 := z_i hb1
  have ha2 := z_i ha1
  exact lv_icmp_ge F.1 F.2.1 hd ht (fun h => kt (by simp only [← Int32.toInt_inj, Int32.lt_iff_toInt_lt, Int32.le_iff_toInt_le, ha2, hb2] at h; omega) p e s m args below meth c H locs L F hL hl (z_ot (z_ot ho)) hH hq) (fun h => kf (by simp only [← Int32.toInt_inj, Int32.lt_iff_toInt_lt, Int32.le_iff_toInt_le, ha2, hb2] at h; omega) p e s m args below meth c H locs L F hL hl (z_ot (z_ot ho)) hH hq)
theorem z_if_ge {a off : Int} {tgt : Nat} (hd : decode (z_c M) pc = .ok (.ifCond .ge off, 3)) (ht : (pc : Int) + off = (tgt : Int)) (kt : 0 ≤ a → z_V X d mc ms M tgt ls st uc us N σ g Q) (kf : ¬ (0 ≤ a) → z_V X d mc ms M (pc + 3) ls st uc us N σ g Q) : z_V X d mc ms M pc ls ((0, a) :: st) uc us N σ g Q := by
  intro p e s m args below meth c H locs L F hL hl ho hH hq
  have ha1 : -2147483648 ≤ a ∧ a ≤ 2147483647 := z_oh ho
  have hb2 : (0 : Int32).toInt = 0 := by decide
  have ha2 := z_i ha1
  exact lv_if_ge F.1 F.2.1 hd ht (fun h => kt (by simp only [← Int32.toInt_inj, Int32.lt_iff_toInt_lt, Int32.le_iff_toInt_le, ha2, hb2] at h; omega) p e s m args below meth c H locs L F hL hl (z_ot ho) hH hq) (fun h => kf (by simp only [← Int32.toInt_inj, Int32.lt_iff_toInt_lt, Int32.le_iff_toInt_le, ha2, hb2] at h; omega) p e s m args below meth c H locs L F hL hl (z_ot ho) hH hq)
theorem z_icmp_gt {a b off : Int} {tgt : Nat} (hd : decode (z_c M) pc = .ok (.if_icmp .gt off, 3)) (ht : (pc : Int) + off = (tgt : Int)) (kt : b < a → z_V X d mc ms M tgt ls st uc us N σ g Q) (kf : ¬ (b < a) → z_V X d mc ms M (pc + 3) ls st uc us N σ g Q) : z_V X d mc ms M pc ls ((0, b) :: (0, a) :: st) uc us N σ g Q := by
  intro p e s m args below meth c H locs L F hL hl ho hH hq
  have hb1 : -2147483648 ≤ b ∧ b ≤ 2147483647 := z_oh ho
  have ha1 : -2147483648 ≤ a ∧ a ≤ 2147483647 := z_oh (z_ot ho)
  have hb2 := z_i hb1
  have ha2 := z_i ha1
  exact lv_icmp_gt F.1 F.2.1 hd ht (fun h => kt (by simp only [← Int32.toInt_inj, Int32.lt_iff_toInt_lt, Int32.le_iff_toInt_le, ha2, hb2] at h; omega) p e s m args below meth c H locs L F hL hl (z_ot (z_ot ho)) hH hq) (fun h => kf (by simp only [← Int32.toInt_inj, Int32.lt_iff_toInt_lt, Int32.le_iff_toInt_le, ha2, hb2] at h; omega) p e s m args below meth c H locs L F hL hl (z_ot (z_ot ho)) hH hq)
theorem z_if_gt {a off : Int} {tgt : Nat} (hd : decode (z_c M) pc = .ok (.ifCond .gt off, 3)) (ht : (pc : Int) + off = (tgt : Int)) (kt : 0 < a → z_V X d mc ms M tgt ls st uc us N σ g Q) (kf : ¬ (0 < a) → z_V X d mc ms M (pc + 3) ls st uc us N σ g Q) : z_V X d mc ms M pc ls ((0, a) :: st) uc us N σ g Q := by
  intro p e s m args below meth c H locs L F hL hl ho hH hq
  have ha1 : -2147483648 ≤ a ∧ a ≤ 2147483647 := z_oh ho
  have hb2 : (0 : Int32).toInt = 0 := by decide
  have ha2 := z_i ha1
  exact lv_if_gt F.1 F.2.1 hd ht (fun h => kt (by simp only [← Int32.toInt_inj, Int32.lt_iff_toInt_lt, Int32.le_iff_toInt_le, ha2, hb2] at h; omega) p e s m args below meth c H locs L F hL hl (z_ot ho) hH hq) (fun h => kf (by simp only [← Int32.toInt_inj, Int32.lt_iff_toInt_lt, Int32.le_iff_toInt_le, ha2, hb2] at h; omega) p e s m args below meth c H locs L F hL hl (z_ot ho) hH hq)
theorem z_icmp_le {a b off : Int} {tgt : Nat} (hd : decode (z_c M) pc = .ok (.if_icmp .le off, 3)) (ht : (pc : Int) + off = (tgt : Int)) (kt : a ≤ b → z_V X d mc ms M tgt ls st uc us N σ g Q) (kf : ¬ (a ≤ b) → z_V X d mc ms M (pc + 3) ls st uc us N σ g Q) : z_V X d mc ms M pc ls ((0, b) :: (0, a) :: st) uc us N σ g Q := by
  intro p e s m args below meth c H locs L F hL hl ho hH hq
  have hb1 : -2147483648 ≤ b ∧ b ≤ 2147483647 := z_oh ho
  have ha1 : -2147483648 ≤ a ∧ a ≤ 2147483647 := z_oh (z_ot ho)
  have hb2 := z_i hb1
  have ha2 := z_i ha1
  exact lv_icmp_le F.1 F.2.1 hd ht (fun h => kt (by simp only [← Int32.toInt_inj, Int32.lt_iff_toInt_lt, Int32.le_iff_toInt_le, ha2, hb2] at h; omega) p e s m args below meth c H locs L F hL hl (z_ot (z_ot ho)) hH hq) (fun h => kf (by simp only [← Int32.toInt_inj, Int32.lt_iff_toInt_lt, Int32.le_iff_toInt_le, ha2, hb2] at h; omega) p e s m args below meth c H locs L F hL hl (z_ot (z_ot ho)) hH hq)
theorem z_if_le {a off : Int} {tgt : Nat} (hd : decode (z_c M) pc = .ok (.ifCond .le off, 3)) (ht : (pc : Int) + off = (tgt : Int)) (kt : a ≤ 0 → z_V X d mc ms M tgt ls st uc us N σ g Q) (kf : ¬ (a ≤ 0) → z_V X d mc ms M (pc + 3) ls st uc us N σ g Q) : z_V X d mc ms M pc ls ((0, a) :: st) uc us N σ g Q := by
  intro p e s m args below meth c H locs L F hL hl ho hH hq
  have ha1 : -2147483648 ≤ a ∧ a ≤ 2147483647 := z_oh ho
  have hb2 : (0 : Int32).toInt = 0 := by decide
  have ha2 := z_i ha1
  exact lv_if_le F.1 F.2.1 hd ht (fun h => kt (by simp only [← Int32.toInt_inj, Int32.lt_iff_toInt_lt, Int32.le_iff_toInt_le, ha2, hb2] at h; omega) p e s m args below meth c H locs L F hL hl (z_ot ho) hH hq) (fun h => kf (by simp only [← Int32.toInt_inj, Int32.lt_iff_toInt_lt, Int32.le_iff_toInt_le, ha2, hb2] at h; omega) p e s m args below meth c H locs L F hL hl (z_ot ho) hH hq)
theorem z_goto {off : Int} {tgt : Nat} (hd : decode (z_c M) pc = .ok (.goto off, 3)) (ht : (pc : Int) + off = (tgt : Int)) (k : z_V X d mc ms M tgt ls st uc us N σ g Q) : z_V X d mc ms M pc ls st uc us N σ g Q := by
  intro p e s m args below meth c H locs L F hL hl ho hH hq
  exact lv_goto F.1 F.2.1 hd ht (k p e s m args below meth c H locs L F hL hl ho hH hq)
theorem z_lcmp_eq {a b off : Int} {tgt : Nat} (hd0 : decode (z_c M) pc = .ok (.lcmp, 1)) (hd : decode (z_c M) (pc + 1) = .ok (.ifCond .eq off, 3)) (ht : ((pc + 1 : Nat) : Int) + off = (tgt : Int)) (kt : a = b → z_V X d mc ms M tgt ls st uc us N σ g Q) (kf : ¬ (a = b) → z_V X d mc ms M (pc + 4) ls st uc us N σ g Q) : z_V X d mc ms M pc ls ((1, b) :: (1, a) :: st) uc us N σ g Q := by
  intro p e s m args below meth c H locs L F hL hl ho hH hq
  have hb1 : -9223372036854775808 ≤ b ∧ b ≤ 9223372036854775807 := z_oh ho
  have ha1 : -9223372036854775808 ≤ a ∧ a ≤ 9223372036854775807 := z_oh (z_ot ho)
  have hb2 := z_j hb1
  have ha2 := z_j ha1
  exact W.lcmp F.1 F.2.1 hd0 (lv_if_eq F.1 F.2.1 hd ht (fun h => kt (by simp only [lg_cmp_eq, ← Int64.toInt_inj, Int64.lt_iff_toInt_lt, Int64.le_iff_toInt_le, ha2, hb2] at h; omega) p e s m args below meth c H locs L F hL hl (z_ot (z_ot ho)) hH hq) (fun h => kf (by simp only [lg_cmp_eq, ← Int64.toInt_inj, Int64.lt_iff_toInt_lt, Int64.le_iff_toInt_le, ha2, hb2] at h; omega) p e s m args below meth c H locs L F hL hl (z_ot (z_ot ho)) hH hq))
theorem z_lcmp_ne {a b off : Int} {tgt : Nat} (hd0 : decode (z_c M) pc = .ok (.lcmp, 1)) (hd : decode (z_c M) (pc + 1) = .ok (.ifCond .ne off, 3)) (ht : ((pc + 1 : Nat) : Int) + off = (tgt : Int)) (kt : ¬ a = b → z_V X d mc ms M tgt ls st uc us N σ g Q) (kf : a = b → z_V X d mc ms M (pc + 4) ls st uc us N σ g Q) : z_V X d mc ms M pc ls ((1, b) :: (1, a) :: st) uc us N σ g Q := by
  intro p e s m args below meth c H locs L F hL hl ho hH hq
  have hb1 : -9223372036854775808 ≤ b ∧ b ≤ 9223372036854775807 := z_oh ho
  have ha1 : -9223372036854775808 ≤ a ∧ a ≤ 9223372036854775807 := z_oh (z_ot ho)
  have hb2 := z_j hb1
  have ha2 := z_j ha1
  exact W.lcmp F.1 F.2.1 hd0 (lv_if_ne F.1 F.2.1 hd ht (fun h => kt (by simp only [lg_cmp_eq, ← Int64.toInt_inj, Int64.lt_iff_toInt_lt, Int64.le_iff_toInt_le, ha2, hb2] at h; omega) p e s m args below meth c H locs L F hL hl (z_ot (z_ot ho)) hH hq) (fun h => kf (by simp only [lg_cmp_eq, ← Int64.toInt_inj, Int64.lt_iff_toInt_lt, Int64.le_iff_toInt_le, ha2, hb2] at h; omega) p e s m args below meth c H locs L F hL hl (z_ot (z_ot ho)) hH hq))
theorem z_lcmp_lt {a b off : Int} {tgt : Nat} (hd0 : decode (z_c M) pc = .ok (.lcmp, 1)) (hd : decode (z_c M) (pc + 1) = .ok (.ifCond .lt off, 3)) (ht : ((pc + 1 : Nat) : Int) + off = (tgt : Int)) (kt : a < b → z_V X d mc ms M tgt ls st uc us N σ g Q) (kf : ¬ (a < b) → z_V X d mc ms M (pc + 4) ls st uc us N σ g Q) : z_V X d mc ms M pc ls ((1, b) :: (1, a) :: st) uc us N σ g Q := by
  intro p e s m args below meth c H locs L F hL hl ho hH hq
  have hb1 : -9223372036854775808 ≤ b ∧ b ≤ 9223372036854775807 := z_oh ho
  have ha1 : -9223372036854775808 ≤ a ∧ a ≤ 9223372036854775807 := z_oh (z_ot ho)
  have hb2 := z_j hb1
  have ha2 := z_j ha1
  exact W.lcmp F.1 F.2.1 hd0 (lv_if_lt F.1 F.2.1 hd ht (fun h => kt (by simp only [lg_cmp_lt, ← Int64.toInt_inj, Int64.lt_iff_toInt_lt, Int64.le_iff_toInt_le, ha2, hb2] at h; omega) p e s m args below meth c H locs L F hL hl (z_ot (z_ot ho)) hH hq) (fun h => kf (by simp only [lg_cmp_lt, ← Int64.toInt_inj, Int64.lt_iff_toInt_lt, Int64.le_iff_toInt_le, ha2, hb2] at h; omega) p e s m args below meth c H locs L F hL hl (z_ot (z_ot ho)) hH hq))
theorem z_lcmp_ge {a b off : Int} {tgt : Nat} (hd0 : decode (z_c M) pc = .ok (.lcmp, 1)) (hd : decode (z_c M) (pc + 1) = .ok (.ifCond .ge off, 3)) (ht : ((pc + 1 : Nat) : Int) + off = (tgt : Int)) (kt : b ≤ a → z_V X d mc ms M tgt ls st uc us N σ g Q) (kf : ¬ (b ≤ a) → z_V X d mc ms M (pc + 4) ls st uc us N σ g Q) : z_V X d mc ms M pc ls ((1, b) :: (1, a) :: st) uc us N σ g Q := by
  intro p e s m args below meth c H locs L F hL hl ho hH hq
  have hb1 : -9223372036854775808 ≤ b ∧ b ≤ 9223372036854775807 := z_oh ho
  have ha1 : -9223372036854775808 ≤ a ∧ a ≤ 9223372036854775807 := z_oh (z_ot ho)
  have hb2 := z_j hb1
  have ha2 := z_j ha1
  exact W.lcmp F.1 F.2.1 hd0 (lv_if_ge F.1 F.2.1 hd ht (fun h => kt (by simp only [lg_cmp_ge, ← Int64.toInt_inj, Int64.lt_iff_toInt_lt, Int64.le_iff_toInt_le, ha2, hb2] at h; omega) p e s m args below meth c H locs L F hL hl (z_ot (z_ot ho)) hH hq) (fun h => kf (by simp only [lg_cmp_ge, ← Int64.toInt_inj, Int64.lt_iff_toInt_lt, Int64.le_iff_toInt_le, ha2, hb2] at h; omega) p e s m args below meth c H locs L F hL hl (z_ot (z_ot ho)) hH hq))
theorem z_lcmp_gt {a b off : Int} {tgt : Nat} (hd0 : decode (z_c M) pc = .ok (.lcmp, 1)) (hd : decode (z_c M) (pc + 1) = .ok (.ifCond .gt off, 3)) (ht : ((pc + 1 : Nat) : Int) + off = (tgt : Int)) (kt : b < a → z_V X d mc ms M tgt ls st uc us N σ g Q) (kf : ¬ (b < a) → z_V X d mc ms M (pc + 4) ls st uc us N σ g Q) : z_V X d mc ms M pc ls ((1, b) :: (1, a) :: st) uc us N σ g Q := by
  intro p e s m args below meth c H locs L F hL hl ho hH hq
  have hb1 : -9223372036854775808 ≤ b ∧ b ≤ 9223372036854775807 := z_oh ho
  have ha1 : -9223372036854775808 ≤ a ∧ a ≤ 9223372036854775807 := z_oh (z_ot ho)
  have hb2 := z_j hb1
  have ha2 := z_j ha1
  exact W.lcmp F.1 F.2.1 hd0 (lv_if_gt F.1 F.2.1 hd ht (fun h => kt (by simp only [lg_cmp_gt, ← Int64.toInt_inj, Int64.lt_iff_toInt_lt, Int64.le_iff_toInt_le, ha2, hb2] at h; omega) p e s m args below meth c H locs L F hL hl (z_ot (z_ot ho)) hH hq) (fun h => kf (by simp only [lg_cmp_gt, ← Int64.toInt_inj, Int64.lt_iff_toInt_lt, Int64.le_iff_toInt_le, ha2, hb2] at h; omega) p e s m args below meth c H locs L F hL hl (z_ot (z_ot ho)) hH hq))
theorem z_lcmp_le {a b off : Int} {tgt : Nat} (hd0 : decode (z_c M) pc = .ok (.lcmp, 1)) (hd : decode (z_c M) (pc + 1) = .ok (.ifCond .le off, 3)) (ht : ((pc + 1 : Nat) : Int) + off = (tgt : Int)) (kt : a ≤ b → z_V X d mc ms M tgt ls st uc us N σ g Q) (kf : ¬ (a ≤ b) → z_V X d mc ms M (pc + 4) ls st uc us N σ g Q) : z_V X d mc ms M pc ls ((1, b) :: (1, a) :: st) uc us N σ g Q := by
  intro p e s m args below meth c H locs L F hL hl ho hH hq
  have hb1 : -9223372036854775808 ≤ b ∧ b ≤ 9223372036854775807 := z_oh ho
  have ha1 : -9223372036854775808 ≤ a ∧ a ≤ 9223372036854775807 := z_oh (z_ot ho)
  have hb2 := z_j hb1
  have ha2 := z_j ha1
  exact W.lcmp F.1 F.2.1 hd0 (lv_if_le F.1 F.2.1 hd ht (fun h => kt (by simp only [lg_cmp_le, ← Int64.toInt_inj, Int64.lt_iff_toInt_lt, Int64.le_iff_toInt_le, ha2, hb2] at h; omega) p e s m args below meth c H locs L F hL hl (z_ot (z_ot ho)) hH hq) (fun h => kf (by simp only [lg_cmp_le, ← Int64.toInt_inj, Int64.lt_iff_toInt_lt, Int64.le_iff_toInt_le, ha2, hb2] at h; omega) p e s m args below meth c H locs L F hL hl (z_ot (z_ot ho)) hH hq))
theorem z_tab {dflt lo hi a off : Int} {offs : Array Int} {len tgt : Nat} (hd : decode (z_c M) pc = .ok (.tableswitch dflt lo hi offs, len)) (h1 : ¬ a < lo) (h2 : ¬ hi < a) (ho0 : offs[(a - lo).toNat]? = some off) (ht : (pc : Int) + off = (tgt : Int)) (k : z_V X d mc ms M tgt ls st uc us N σ g Q) : z_V X d mc ms M pc ls ((0, a) :: st) uc us N σ g Q := by
  intro p e s m args below meth c H locs L F hL hl ho hH hq
  have ha : (Int32.ofInt a).toInt = a := z_i (z_oh ho)
  exact lv_tableIn F.1 F.2.1 hd (by rw [ha]; exact h1) (by rw [ha]; exact h2) (by rw [ha]; exact ho0) ht (k p e s m args below meth c H locs L F hL hl (z_ot ho) hH hq)
theorem z_tabo {dflt lo hi a : Int} {offs : Array Int} {len tgt : Nat} (hd : decode (z_c M) pc = .ok (.tableswitch dflt lo hi offs, len)) (h1 : a < lo ∨ hi < a) (ht : (pc : Int) + dflt = (tgt : Int)) (k : z_V X d mc ms M tgt ls st uc us N σ g Q) : z_V X d mc ms M pc ls ((0, a) :: st) uc us N σ g Q := by
  intro p e s m args below meth c H locs L F hL hl ho hH hq
  have ha : (Int32.ofInt a).toInt = a := z_i (z_oh ho)
  exact lv_tableOut F.1 F.2.1 hd (by rw [ha]; exact h1) ht (k p e s m args below meth c H locs L F hL hl (z_ot ho) hH hq)
theorem z_look {dflt a off : Int} {ps : Array (Int × Int)} {len tgt : Nat} (hd : decode (z_c M) pc = .ok (.lookupswitch dflt ps, len)) (hp : (ps.toList.zip (ps.toList.drop 1)).all (fun (a, next) => a.1 < next.1) = true) (ho0 : Op.lookupswitch.offset ps.toList dflt a = off) (ht : (pc : Int) + off = (tgt : Int)) (k : z_V X d mc ms M tgt ls st uc us N σ g Q) : z_V X d mc ms M pc ls ((0, a) :: st) uc us N σ g Q := by
  intro p e s m args below meth c H locs L F hL hl ho hH hq
  have ha : (Int32.ofInt a).toInt = a := z_i (z_oh ho)
  exact lv_lookup F.1 F.2.1 hd hp (by rw [ha]; exact ho0) ht (k p e s m args below meth c H locs L F hL hl (z_ot ho) hH hq)
end ZA

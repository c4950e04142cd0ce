/-! the judgement over abstract states -/
def z_F (X : z_X) (M : z_M) (p : Program) (s : State) (m : MethodId) (args : Array Value) (meth : Method) (c : Code) : Prop :=
  p.tables.exec = Jvm.exec ∧ c.code = z_c M ∧ meth.sig.returnType = z_r M ∧ c.maxLocals = z_n M ∧ s.vm.findClass (z_y M).cls = some m.cls ∧ (∀ w ∈ z_tb, w.before args s = true) ∧ meth.locks = false ∧ z_K X s ∧ meth.name = (z_y M).name
def z_R (d mc ms : Nat) : Room := { frames := d, cells := mc, slots := ms, locals := 64 * d }
def z_rv (X : z_X) (r : Option FieldType) (v : Int) : Option Value := match r with
  | none => none
  | some .long => some (.long (Int64.ofInt v))
  | some (.object _) => some (z_v X (4, v))
  | some _ => some (.int (Int32.ofInt v))
def z_ro (r : Option FieldType) (v : Int) : Prop := match r with
  | none => True
  | some .boolean => 0 ≤ v ∧ v ≤ 1
  | some .long => -9223372036854775808 ≤ v ∧ v ≤ 9223372036854775807
  | some (.object _) => True
  | some _ => -2147483648 ≤ v ∧ v ≤ 2147483647
abbrev z_Q : Type := Int → Nat → z_G → z_G → Prop
def z_Qc (X : z_X) (M : z_M) (Q : z_Q) : Array Value → State → Outcome → State → Prop := fun _ _ o t =>
  ∃ (r : Int) (N : Nat) (σ g : z_G), o = .returned (z_rv X (z_r M) r) ∧ z_ro (z_r M) r ∧ Q r N σ g ∧ z_H X N σ g t.heap
abbrev z_L : Type := List (Nat × z_t)
def z_as (X : z_X) (ls : z_L) : List (Nat × Value) := ls.map (fun q => (q.1, z_v X q.2))
def z_V (X : z_X) (d mc ms : Nat) (M : z_M) (pc : Nat) (ls : z_L) (st : List z_t) (uc us N : Nat) (σ g : z_G) (Q : z_Q) : Prop :=
  ∀ (p : Program) (e : Env) (s : State) (m : MethodId) (args : Array Value) (below : List Frame) (meth : Method) (c : Code) (H : Heap) (locs : List Loc) (L : Array Slot),
    z_F X M p s m args meth c → lv_has L (z_n M) (z_as X ls) → (∀ q ∈ ls, z_ok q.2) → (∀ x ∈ st, z_ok x) → z_H X N σ g H → (∀ q ∈ locs, z_b X ≤ q.base) →
    W p (z_l X) e (z_R d mc ms) s m args below meth c H locs uc us (MQ below (z_Qc X M Q) args s mc ms (fun q => z_b X ≤ q)) (F0 m pc L (st.map (z_v X)))
def z_ws (M : z_M) : List Cond := Cond.code (z_y M) (z_c M) (z_n M) (z_r M) :: z_tb
def z_C (X : z_X) (d mc ms : Nat) (M : z_M) (as : List z_t) (N : Nat) (σ g : z_G) (Q : z_Q) : Prop :=
  Met (z_l X) (z_y M) (z_ws M) (z_R d mc ms) (va_Pc (as.map (z_v X)) (fun U => z_H X N σ g U.heap ∧ z_K X U ∧ ∀ x ∈ as, z_ok x)) (z_Qc X M Q) mc ms (fun q => z_b X ≤ q)
theorem z_o1 {a n : z_t} {st : List z_t} (h : ∀ x ∈ a :: st, z_ok x) (hn : z_ok n) : ∀ x ∈ n :: st, z_ok x := fun x hx => by
  rcases List.mem_cons.mp hx with rfl | hx
  · exact hn
  · exact h x (List.mem_cons_of_mem _ hx)
theorem z_o2 {a b n : z_t} {st : List z_t} (h : ∀ x ∈ a :: b :: st, z_ok x) (hn : z_ok n) : ∀ x ∈ n :: st, z_ok x := z_o1 (a := b) (fun x hx => h x (List.mem_cons_of_mem _ hx)) hn
theorem z_op {n : z_t} {st : List z_t} (h : ∀ x ∈ st, z_ok x) (hn : z_ok n) : ∀ x ∈ n :: st, z_ok x := fun x hx => by
  rcases List.mem_cons.mp hx with rfl | hx
  · exact hn
  · exact h x hx
theorem z_ot {a : z_t} {st : List z_t} (h : ∀ x ∈ a :: st, z_ok x) : ∀ x ∈ st, z_ok x := fun x hx => h x (List.mem_cons_of_mem _ hx)
theorem z_oh {a : z_t} {st : List z_t} (h : ∀ x ∈ a :: st, z_ok x) : z_ok a := h a List.mem_cons_self
section ZV
variable {X : z_X} {d mc ms : Nat} {M : z_M} {pc : Nat} {ls : z_L} {st : List z_t} {uc us N : Nat} {σ g : z_G} {Q : z_Q}
/-- what is known of the locals and the stack -/
theorem z_lo (k : (∀ q ∈ ls, z_ok q.2) → (∀ x ∈ st, z_ok x) → z_V X d mc ms M pc ls st uc us N σ g Q) : z_V X d mc ms M pc ls st uc us N σ g Q :=
  fun p e s m args below meth c H locs L F hL hl ho hH hq => k hl ho p e s m args below meth c H locs L F hL hl ho hH hq
theorem z_sub {ls' : z_L} (ks : List Nat) (hk : ks.filterMap (fun k => ls[k]?) = ls') (k : z_V X d mc ms M pc ls' st uc us N σ g Q) : z_V X d mc ms M pc ls st uc us N σ g Q := by
  intro p e s m args below meth c H locs L F hL hl ho hH hq
  have hin : ∀ q ∈ ls', q ∈ ls := fun q hq => by
    rw [← hk] at hq
    obtain ⟨i, -, hi⟩ := List.mem_filterMap.mp hq
    exact List.mem_of_getElem? hi
  refine k p e s m args below meth c H locs L F ⟨hL.1, hL.2.1, fun q hq => ?_⟩ (fun q hq => hl q (hin q hq)) ho hH hq
  obtain ⟨r, hr, rfl⟩ := List.mem_map.mp hq
  exact hL.2.2 _ (List.mem_map.mpr ⟨r, hin r hr, rfl⟩)
theorem z_lt {L : Array Slot} {n : Nat} (hL : lv_has L n (z_as X ls)) {i : Nat} {x : z_t} (j : Nat) (h : ls[j]? = some (i, x)) : L[i]? = some (.val (z_v X x)) :=
  hL.2.2 (i, z_v X x) (List.mem_map.mpr ⟨(i, x), List.mem_of_getElem? h, rfl⟩)
theorem z_iconst {n : Int} (hd : decode (z_c M) pc = .ok (.iconst n, 1)) (hn : -2147483648 ≤ n ∧ n ≤ 2147483647) (k : z_V X d mc ms M (pc + 1) ls ((0, n) :: st) uc us N σ g Q) : z_V X d mc ms M pc ls st uc us N σ g Q := by
  intro p e s m args below meth c H locs L F hL hl ho hH hq
  exact lv_iconst F.1 F.2.1 hd rfl (k p e s m args below meth c H locs L F hL hl (z_op ho hn) hH hq)
theorem z_bipush {n : Int} (hd : decode (z_c M) pc = .ok (.bipush n, 2)) (hv : (Int8.ofInt n).toInt32 = Int32.ofInt n) (hn : -2147483648 ≤ n ∧ n ≤ 2147483647) (k : z_V X d mc ms M (pc + 2) ls ((0, n) :: st) uc us N σ g Q) : z_V X d mc ms M pc ls st uc us N σ g Q := by
  intro p e s m args below meth c H locs L F hL hl ho hH hq
  exact lv_bipush F.1 F.2.1 hd hv (k p e s m args below meth c H locs L F hL hl (z_op ho hn) hH hq)
theorem z_sipush {n : Int} (hd : decode (z_c M) pc = .ok (.sipush n, 3)) (hv : (Int16.ofInt n).toInt32 = Int32.ofInt n) (hn : -2147483648 ≤ n ∧ n ≤ 2147483647) (k : z_V X d mc ms M (pc + 3) ls ((0, n) :: st) uc us N σ g Q) : z_V X d mc ms M pc ls st uc us N σ g Q := by
  intro p e s m args below meth c H locs L F hL hl ho hH hq
  exact lv_sipush F.1 F.2.1 hd hv (k p e s m args below meth c H locs L F hL hl (z_op ho hn) hH hq)
theorem z_lconst {n : Fin 2} {v : Int} (hd : decode (z_c M) pc = .ok (.lconst n, 1)) (hv : Int64.ofNat (n : Nat) = Int64.ofInt v) (hn : -9223372036854775808 ≤ v ∧ v ≤ 9223372036854775807) (k : z_V X d mc ms M (pc + 1) ls ((1, v) :: st) uc us N σ g Q) : z_V X d mc ms M pc ls st uc us N σ g Q := by
  intro p e s m args below meth c H locs L F hL hl ho hH hq
  exact lv_lconst F.1 F.2.1 hd hv (k p e s m args below meth c H locs L F hL hl (z_op ho hn) hH hq)
theorem z_ldc {i : Nat} {v : Int} (hd : decode (z_c M) pc = .ok (.ldc i, 2)) (hw : Cond.constant (z_y M).cls i (Int32.ofInt v) ∈ z_tb) (hn : -2147483648 ≤ v ∧ v ≤ 2147483647) (k : z_V X d mc ms M (pc + 2) ls ((0, v) :: st) uc us N σ g Q) : z_V X d mc ms M pc ls st uc us N σ g Q := by
  intro p e s m args below meth c H locs L F hL hl ho hH hq
  exact lv_ldc F.1 F.2.1 F.2.2.2.2.1 (F.2.2.2.2.2.1 _ hw) hd (k p e s m args below meth c H locs L F hL hl (z_op ho hn) hH hq)
theorem z_ldcw {i : Nat} {v : Int} (hd : decode (z_c M) pc = .ok (.ldc_w i, 3)) (hw : Cond.constant (z_y M).cls i (Int32.ofInt v) ∈ z_tb) (hn : -2147483648 ≤ v ∧ v ≤ 2147483647) (k : z_V X d mc ms M (pc + 3) ls ((0, v) :: st) uc us N σ g Q) : z_V X d mc ms M pc ls st uc us N σ g Q := by
  intro p e s m args below meth c H locs L F hL hl ho hH hq
  exact lv_ldcw F.1 F.2.1 F.2.2.2.2.1 (F.2.2.2.2.2.1 _ hw) hd (k p e s m args below meth c H locs L F hL hl (z_op ho hn) hH hq)
theorem z_ldc2 {i : Nat} {v : Int} (hd : decode (z_c M) pc = .ok (.ldc2_w i, 3)) (hw : Cond.constantLong (z_y M).cls i (Int64.ofInt v) ∈ z_tb) (hn : -9223372036854775808 ≤ v ∧ v ≤ 9223372036854775807) (k : z_V X d mc ms M (pc + 3) ls ((1, v) :: st) uc us N σ g Q) : z_V X d mc ms M pc ls st uc us N σ g Q := by
  intro p e s m args below meth c H locs L F hL hl ho hH hq
  exact lv_ldc2 F.1 F.2.1 F.2.2.2.2.1 (F.2.2.2.2.2.1 _ hw) hd (k p e s m args below meth c H locs L F hL hl (z_op ho hn) hH hq)
theorem z_iload_n {q : Fin 4} {i : Nat} {x : Int} (j : Nat) (hd : decode (z_c M) pc = .ok (.iload_n q, 1)) (hi : (q : Nat) = i) (h : ls[j]? = some (i, (0, x))) (k : z_V X d mc ms M (pc + 1) ls ((0, x) :: st) uc us N σ g Q) : z_V X d mc ms M pc ls st uc us N σ g Q := by
  intro p e s m args below meth c H locs L F hL hl ho hH hq
  exact lv_iload_n F.1 F.2.1 hd hi (z_lt hL j h) (k p e s m args below meth c H locs L F hL hl (z_op ho (hl _ (List.mem_of_getElem? h))) hH hq)
theorem z_iload {i : Nat} {x : Int} (j : Nat) (hd : decode (z_c M) pc = .ok (.iload i, 2)) (h : ls[j]? = some (i, (0, x))) (k : z_V X d mc ms M (pc + 2) ls ((0, x) :: st) uc us N σ g Q) : z_V X d mc ms M pc ls st uc us N σ g Q := by
  intro p e s m args below meth c H locs L F hL hl ho hH hq
  exact lv_iload F.1 F.2.1 hd (z_lt hL j h) (k p e s m args below meth c H locs L F hL hl (z_op ho (hl _ (List.mem_of_getElem? h))) hH hq)
theorem z_lload_n {q : Fin 4} {i : Nat} {x : Int} (j : Nat) (hd : decode (z_c M) pc = .ok (.lload_n q, 1)) (hi : (q : Nat) = i) (h : ls[j]? = some (i, (1, x))) (k : z_V X d mc ms M (pc + 1) ls ((1, x) :: st) uc us N σ g Q) : z_V X d mc ms M pc ls st uc us N σ g Q := by
  intro p e s m args below meth c H locs L F hL hl ho hH hq
  exact lv_lload_n F.1 F.2.1 hd hi (z_lt hL j h) (k p e s m args below meth c H locs L F hL hl (z_op ho (hl _ (List.mem_of_getElem? h))) hH hq)
theorem z_lload {i : Nat} {x : Int} (j : Nat) (hd : decode (z_c M) pc = .ok (.lload i, 2)) (h : ls[j]? = some (i, (1, x))) (k : z_V X d mc ms M (pc + 2) ls ((1, x) :: st) uc us N σ g Q) : z_V X d mc ms M pc ls st uc us N σ g Q := by
  intro p e s m args below meth c H locs L F hL hl ho hH hq
  exact lv_lload F.1 F.2.1 hd (z_lt hL j h) (k p e s m args below meth c H locs L F hL hl (z_op ho (hl _ (List.mem_of_getElem? h))) hH hq)
theorem z_vr {L : Array Slot} {i c : Nat} {r : Int} (hr : r = (c : Int)) (h : L[i]? = some (.val (z_v X (2, r)))) : L[i]? = some (.val (.ref (z_b X + c))) := by
  subst hr; rw [h]; show some (Slot.val (z_ref X (c : Int))) = _; rw [z_ref_n]
theorem z_mr {r : Int} {c : Nat} (hr : r = (c : Int)) : (z_v X (2, r)) = .ref (z_b X + c) := by
  subst hr; exact z_ref_n X c
theorem z_aload_n {q : Fin 4} {i c : Nat} {r : Int} (j : Nat) (hd : decode (z_c M) pc = .ok (.aload_n q, 1)) (hi : (q : Nat) = i) (h : ls[j]? = some (i, (2, r))) (hr : r = (c : Int)) (k : z_V X d mc ms M (pc + 1) ls ((2, r) :: st) uc us N σ g Q) : z_V X d mc ms M pc ls st uc us N σ g Q := by
  intro p e s m args below meth c H locs L F hL hl ho hH hq
  have h9 := k p e s m args below meth c H locs L F hL hl (z_op ho trivial) hH hq
  rw [List.map_cons, z_mr hr] at h9
  exact lv_aload_n F.1 F.2.1 hd hi (z_vr hr (z_lt hL j h)) h9
theorem z_aload {i c : Nat} {r : Int} (j : Nat) (hd : decode (z_c M) pc = .ok (.aload i, 2)) (h : ls[j]? = some (i, (2, r))) (hr : r = (c : Int)) (k : z_V X d mc ms M (pc + 2) ls ((2, r) :: st) uc us N σ g Q) : z_V X d mc ms M pc ls st uc us N σ g Q := by
  intro p e s m args below meth c H locs L F hL hl ho hH hq
  have h9 := k p e s m args below meth c H locs L F hL hl (z_op ho trivial) hH hq
  rw [List.map_cons, z_mr hr] at h9
  exact lv_aload F.1 F.2.1 hd (z_vr hr (z_lt hL j h)) h9
theorem z_sload_n {q : Fin 4} {i : Nat} {r : Int} (j : Nat) (hd : decode (z_c M) pc = .ok (.aload_n q, 1)) (hi : (q : Nat) = i) (h : ls[j]? = some (i, (4, r))) (k : z_V X d mc ms M (pc + 1) ls ((4, r) :: st) uc us N σ g Q) : z_V X d mc ms M pc ls st uc us N σ g Q := by
  intro p e s m args below meth c H locs L F hL hl ho hH hq
  exact lv_aload_n F.1 F.2.1 hd hi (z_lt hL j h) (k p e s m args below meth c H locs L F hL hl (z_op ho trivial) hH hq)
/-- stores -/
def z_s1 (i : Nat) (x : z_t) (ls : z_L) : z_L := (i, x) :: ls.filter (fun q => !(q.1 == i) && !(q.1 + 1 == i && q.2.1 == 1))
def z_s2 (i : Nat) (x : z_t) (ls : z_L) : z_L := (i, x) :: ls.filter (fun q => !(q.1 == i) && (!(q.1 == i + 1) && !(q.1 + 1 == i && q.2.1 == 1)))
theorem z_ctb (X : z_X) (x : z_t) : ((z_v X x).category == 2) = (x.1 == 1) := by
  rw [z_cat]; by_cases h : x.1 = 1 <;> simp [h]
theorem z_s1_as (i : Nat) (x : z_t) : (i, z_v X x) :: (z_as X ls).filter (fun q => !(q.1 == i) && !(q.1 + 1 == i && q.2.category == 2)) = z_as X (z_s1 i x ls) := by
  unfold z_as z_s1
  rw [List.map_cons, List.filter_map]
  congr 3
  funext q
  simp only [Function.comp_apply, z_ctb]
theorem z_s2_as (i : Nat) (x : z_t) : (i, z_v X x) :: (z_as X ls).filter (fun q => !(q.1 == i) && (!(q.1 == i + 1) && !(q.1 + 1 == i && q.2.category == 2))) = z_as X (z_s2 i x ls) := by
  unfold z_as z_s2
  rw [List.map_cons, List.filter_map]
  congr 3
  funext q
  simp only [Function.comp_apply, z_ctb]
theorem z_s1_ok {i : Nat} {x : z_t} (hl : ∀ q ∈ ls, z_ok q.2) (hx : z_ok x) : ∀ q ∈ z_s1 i x ls, z_ok q.2 := fun q hq => by
  rcases List.mem_cons.mp hq with rfl | hq
  · exact hx
  · exact hl q (List.mem_filter.mp hq).1
theorem z_s2_ok {i : Nat} {x : z_t} (hl : ∀ q ∈ ls, z_ok q.2) (hx : z_ok x) : ∀ q ∈ z_s2 i x ls, z_ok q.2 := fun q hq => by
  rcases List.mem_cons.mp hq with rfl | hq
  · exact hx
  · exact hl q (List.mem_filter.mp hq).1
theorem z_istore_n {q : Fin 4} {i : Nat} {x : Int} {ls' : z_L} (hd : decode (z_c M) pc = .ok (.istore_n q, 1)) (hi : (q : Nat) = i) (hn : Nat.ble (i + 1) (z_n M) = true) (hs : z_s1 i (0, x) ls = ls') (k : z_V X d mc ms M (pc + 1) ls' st uc us N σ g Q) : z_V X d mc ms M pc ls ((0, x) :: st) uc us N σ g Q := by
  intro p e s m args below meth c H locs L F hL hl ho hH hq
  subst hs
  exact lv_istore_n F.1 F.2.1 hd hi hL (Nat.le_of_ble_eq_true hn) (z_s1_as i (0, x)) (fun L' hL' => k p e s m args below meth c H locs L' F hL' (z_s1_ok hl (z_oh ho)) (z_ot ho) hH hq)
theorem z_istore {i : Nat} {x : Int} {ls' : z_L} (hd : decode (z_c M) pc = .ok (.istore i, 2)) (hn : Nat.ble (i + 1) (z_n M) = true) (hs : z_s1 i (0, x) ls = ls') (k : z_V X d mc ms M (pc + 2) ls' st uc us N σ g Q) : z_V X d mc ms M pc ls ((0, x) :: st) uc us N σ g Q := by
  intro p e s m args below meth c H locs L F hL hl ho hH hq
  subst hs
  exact lv_istore F.1 F.2.1 hd hL (Nat.le_of_ble_eq_true hn) (z_s1_as i (0, x)) (fun L' hL' => k p e s m args below meth c H locs L' F hL' (z_s1_ok hl (z_oh ho)) (z_ot ho) hH hq)
theorem z_lstore_n {q : Fin 4} {i : Nat} {x : Int} {ls' : z_L} (hd : decode (z_c M) pc = .ok (.lstore_n q, 1)) (hi : (q : Nat) = i) (hn : Nat.ble (i + 2) (z_n M) = true) (hs : z_s2 i (1, x) ls = ls') (k : z_V X d mc ms M (pc + 1) ls' st uc us N σ g Q) : z_V X d mc ms M pc ls ((1, x) :: st) uc us N σ g Q := by
  intro p e s m args below meth c H locs L F hL hl ho hH hq
  subst hs
  exact lv_lstore_n F.1 F.2.1 hd hi hL (Nat.le_of_ble_eq_true hn) (z_s2_as i (1, x)) (fun L' hL' => k p e s m args below meth c H locs L' F hL' (z_s2_ok hl (z_oh ho)) (z_ot ho) hH hq)
theorem z_lstore {i : Nat} {x : Int} {ls' : z_L} (hd : decode (z_c M) pc = .ok (.lstore i, 2)) (hn : Nat.ble (i + 2) (z_n M) = true) (hs : z_s2 i (1, x) ls = ls') (k : z_V X d mc ms M (pc + 2) ls' st uc us N σ g Q) : z_V X d mc ms M pc ls ((1, x) :: st) uc us N σ g Q := by
  intro p e s m args below meth c H locs L F hL hl ho hH hq
  subst hs
  exact lv_lstore F.1 F.2.1 hd hL (Nat.le_of_ble_eq_true hn) (z_s2_as i (1, x)) (fun L' hL' => k p e s m args below meth c H locs L' F hL' (z_s2_ok hl (z_oh ho)) (z_ot ho) hH hq)
theorem z_astore_n {q : Fin 4} {i c : Nat} {r : Int} {ls' : z_L} (hd : decode (z_c M) pc = .ok (.astore_n q, 1)) (hi : (q : Nat) = i) (hr : r = (c : Int)) (hn : Nat.ble (i + 1) (z_n M) = true) (hs : z_s1 i (2, r) ls = ls') (k : z_V X d mc ms M (pc + 1) ls' st uc us N σ g Q) : z_V X d mc ms M pc ls ((2, r) :: st) uc us N σ g Q := by
  intro p e s m args below meth c H locs L F hL hl ho hH hq
  subst hs
  rw [List.map_cons, z_mr hr]
  have h1 := z_s1_as (X := X) (ls := ls) i (2, r)
  rw [z_mr hr] at h1
  exact lv_astore_n F.1 F.2.1 hd hi hL (Nat.le_of_ble_eq_true hn) h1 (fun L' hL' => k p e s m args below meth c H locs L' F hL' (z_s1_ok hl trivial) (z_ot ho) hH hq)
theorem z_astore {i c : Nat} {r : Int} {ls' : z_L} (hd : decode (z_c M) pc = .ok (.astore i, 2)) (hr : r = (c : Int)) (hn : Nat.ble (i + 1) (z_n M) = true) (hs : z_s1 i (2, r) ls = ls') (k : z_V X d mc ms M (pc + 2) ls' st uc us N σ g Q) : z_V X d mc ms M pc ls ((2, r) :: st) uc us N σ g Q := by
  intro p e s m args below meth c H locs L F hL hl ho hH hq
  subst hs
  rw [List.map_cons, z_mr hr]
  have h1 := z_s1_as (X := X) (ls := ls) i (2, r)
  rw [z_mr hr] at h1
  exact lv_astore F.1 F.2.1 hd hL (Nat.le_of_ble_eq_true hn) h1 (fun L' hL' => k p e s m args below meth c H locs L' F hL' (z_s1_ok hl trivial) (z_ot ho) hH hq)
theorem z_iinc {i : Nat} {n x : Int} {ls' : z_L} (j : Nat) (hd : decode (z_c M) pc = .ok (.iinc i n, 3)) (h : ls[j]? = some (i, (0, x))) (hr : -2147483648 ≤ x + n ∧ x + n ≤ 2147483647) (hn : Nat.ble (i + 1) (z_n M) = true) (hs : z_s1 i (0, x + n) ls = ls') (k : z_V X d mc ms M (pc + 3) ls' st uc us N σ g Q) : z_V X d mc ms M pc ls st uc us N σ g Q := by
  intro p e s m args below meth c H locs L F hL hl ho hH hq
  subst hs
  refine lv_iinc (k := j) F.1 F.2.1 hd hL (x := Int32.ofInt x) ?_ (v := Int32.ofInt (x + n)) (by rw [Int32.ofInt_add]) (Nat.le_of_ble_eq_true hn) (z_s1_as i (0, x + n)) (fun L' hL' => k p e s m args below meth c H locs L' F hL' (z_s1_ok hl hr) ho hH hq)
  unfold z_as
  rw [List.getElem?_map, h]; rfl
end ZV

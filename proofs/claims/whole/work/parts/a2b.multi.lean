/-! ## long[4][60]: the machine's own row -/
def y_out (cA : ClassId) (h0 i : Nat) : Cell := arrV cA 4 (fun j => if j < i then .ref (h0 + 1 + j) else .null)
def y_in (cB : ClassId) : Cell := arrV cB 60 (fun _ => .long 0)
/-- the state with i rows laid -/
def y_st (s : State) (cA cB : ClassId) : Nat → State
  | 0 => s.pushCell (y_out cA s.heap.size 0)
  | i + 1 => ((y_st s cA cB i).pushCell (y_in cB)).setCell s.heap.size (y_out cA s.heap.size (i + 1))
theorem y_out_s (cA : ClassId) (h0 i : Nat) : (y_out cA h0 i).setSlot i (.ref (h0 + 1 + i)) = y_out cA h0 (i + 1) := by
  unfold y_out
  rw [arrV_store]
  refine congrArg (arrV cA 4) (funext fun j => ?_)
  unfold updV
  by_cases e : j = i
  · rw [if_pos e, if_pos (by omega), e]
  · by_cases q : j < i
    · rw [if_neg e]; dsimp only; rw [if_pos q, if_pos (by omega)]
    · rw [if_neg e]; dsimp only; rw [if_neg q, if_neg (by omega)]
theorem y_facts (s : State) (cA cB : ClassId) : ∀ i : Nat, (y_st s cA cB i).heap.size = s.heap.size + 1 + i ∧ (y_st s cA cB i).heap[s.heap.size]? = some (y_out cA s.heap.size i) ∧ (y_st s cA cB i).vm = s.vm ∧ (y_st s cA cB i).slotsUsed = s.slotsUsed + 4 + i * 60 ∧ (∀ a : Nat, a < s.heap.size → (y_st s cA cB i).heap[a]? = s.heap[a]?) ∧ ∀ j : Nat, j < i → (y_st s cA cB i).heap[s.heap.size + 1 + j]? = some (y_in cB) := by
  intro i
  induction i with
  | zero => exact ⟨by simp [y_st], by simp [y_st], rfl, by simp [y_st, y_out, arrV_size], fun a ha => State.heap_pushCell_of_lt _ _ ha, fun j hj => absurd hj (Nat.not_lt_zero j)⟩
  | succ i ih =>
    obtain ⟨f1, f2, f3, f4, f5, f6⟩ := ih
    have lt : ∀ a : Nat, a < s.heap.size + 1 + i → ((y_st s cA cB i).pushCell (y_in cB)).heap[a]? = (y_st s cA cB i).heap[a]? := fun a ha => State.heap_pushCell_of_lt _ _ (by rw [f1]; exact ha)
    have h0 : ((y_st s cA cB i).pushCell (y_in cB)).heap[s.heap.size]? = some (y_out cA s.heap.size i) := by rw [lt _ (by omega)]; exact f2
    refine ⟨?_, State.heap_setCell_self h0, f3, ?_, fun a ha => ?_, fun j hj => ?_⟩
    · show (((y_st s cA cB i).pushCell (y_in cB)).setCell s.heap.size _).heap.size = _
      simp [State.setCell, f1]; omega
    · show ((y_st s cA cB i).pushCell (y_in cB)).slotsUsed = _
      rw [State.slotsUsed_pushCell, f4]
      unfold y_in; rw [arrV_size]; omega
    · show (((y_st s cA cB i).pushCell (y_in cB)).setCell s.heap.size _).heap[a]? = _
      rw [State.heap_setCell_other (show s.heap.size ≠ a by omega), lt _ (by omega)]; exact f5 a ha
    · show (((y_st s cA cB i).pushCell (y_in cB)).setCell s.heap.size _).heap[s.heap.size + 1 + j]? = _
      rw [State.heap_setCell_other (show s.heap.size ≠ s.heap.size + 1 + j by omega)]
      by_cases e : j = i
      · subst e; rw [← f1]; exact State.heap_pushCell_size _ _
      · rw [lt _ (by omega)]; exact f6 j (by omega)
theorem y_top (s : State) (f : JFrame) (cA cB : ClassId) : ∀ i : Nat, y_st (s.setTop f) cA cB i = (y_st s cA cB i).setTop f := by
  intro i
  induction i with
  | zero => rfl
  | succ i ih =>
    show ((y_st (s.setTop f) cA cB i).pushCell (y_in cB)).setCell s.heap.size (y_out cA s.heap.size (i + 1)) = _
    rw [ih]; rfl
section YM
variable {E : CtlPost} {e : Env} {d : Bool} {acts : List Action} {s : State} {Q : Addr → Pre} {cA cB cc : ClassId} {k kc : Class}
theorem y_make1 (hkc : s.vm.classes[cB]? = some kc) (hkindc : kc.kind = .array cc .long) (hl : ¬ 60 > e.platform.arrayLengthLimit) (hh : ¬ 60 * componentBytes .long > e.platform.maxHeapBytes) (h1 : s.heap.size < e.platform.maxCells) (h2 : s.slotsUsed + 60 ≤ e.platform.maxSlots) (hq : ∀ acts', Q s.heap.size d acts' (s.pushCell (y_in cB))) : wp (multianewarray.make cB [60]) Q E e d acts s := by
  have e60 : Int32.toNatClampNeg 60 = 60 := by decide
  have n60 : ¬ ((60 : Int32) < 0) := by decide
  rw [multianewarray.make]
  simp only [wp_bind', W.ite, n60, if_false, wp_pure', W.theClass, hkc, hkindc, Option.some.injEq, exists_eq_left']
  rw [e60]
  refine W.newArray_of hkc hkindc hl hh h1 h2 rfl fun acts' => ?_
  rw [show ({ cls := cB, slots := Array.replicate 60 (defaultValue .long) } : Cell) = y_in cB from arrV_new cB 60 (.long 0)]
  exact hq acts'
theorem y_make2 (hk : s.vm.classes[cA]? = some k) (hkind : k.kind = .array cB (.array .long)) (hkc : s.vm.classes[cB]? = some kc) (hkindc : kc.kind = .array cc .long) (hl : ¬ 60 > e.platform.arrayLengthLimit) (hh1 : ¬ 4 * componentBytes (.array .long) > e.platform.maxHeapBytes) (hh : ¬ 60 * componentBytes .long > e.platform.maxHeapBytes) (h1 : s.heap.size + 5 ≤ e.platform.maxCells) (h2 : s.slotsUsed + 244 ≤ e.platform.maxSlots) (hq : ∀ d' acts', Q s.heap.size d' acts' (y_st s cA cB 4)) : wp (multianewarray.make cA [4, 60]) Q E e d acts s := by
  have e4 : Int32.toNatClampNeg 4 = 4 := by decide
  have n4 : ¬ ((4 : Int32) < 0) := by decide
  have hf : ([60] : List Int32).find? (· < 0) = none := by decide
  rw [multianewarray.make]
  simp only [wp_bind', W.ite, n4, if_false, wp_pure', W.theClass, hk, hkind, Option.some.injEq, exists_eq_left']
  rw [e4]
  refine W.newArray_of hk hkind (by omega) hh1 (by omega) (by omega) rfl fun acts1 => ?_
  rw [show ({ cls := cA, slots := Array.replicate 4 .null } : Cell) = y_out cA s.heap.size 0 from arrV_new cA 4 .null]
  simp only [hf]
  rw [ite_self, wp_bind', Std.Legacy.Range.forIn_eq_forIn_range']
  show wp (forIn (List.range' 0 4 1) PUnit.unit _) _ E e d acts1 (y_st s cA cB 0)
  refine wp_forIn_inv (fun rest s' => ∃ i : Nat, i ≤ 4 ∧ rest = List.range' i (4 - i) ∧ s' = y_st s cA cB i) _ _ ⟨0, by omega, rfl, rfl⟩ ?_ ?_
  · rintro x rest s' d' acts' Q' ⟨i, hi, hr, rfl⟩ nx
    have i4 : i < 4 := by
      rcases Nat.lt_or_ge i 4 with h | h
      · exact h
      · rw [show 4 - i = 0 by omega] at hr; cases hr
    rw [show 4 - i = (4 - (i + 1)) + 1 by omega, List.range'_succ] at hr
    injection hr with hx hr
    subst hx
    obtain ⟨f1, f2, f3, f4, -, -⟩ := y_facts s cA cB x
    simp only [wp_bind']
    refine y_make1 (by rw [f3]; exact hkc) hkindc hl hh (by rw [f1]; omega) (by rw [f4]; omega) fun acts2 => ?_
    have hc : ((y_st s cA cB x).pushCell (y_in cB)).heap[s.heap.size]? = some (y_out cA s.heap.size x) := by rw [State.heap_pushCell_of_lt _ _ (show s.heap.size < (y_st s cA cB x).heap.size by rw [f1]; omega)]; exact f2
    simp only [wp_bind', W.writeLoc, wp_pure']
    refine ⟨y_out cA s.heap.size x, hc, fun h => (by cases h), by unfold y_out; rw [arrV_size]; exact i4, ?_, nx _ _ _ ⟨x + 1, by omega, hr, ?_⟩⟩
    · show State.fitsSlot _ cA .none _ _ = true
      simp [State.fitsSlot, State.slotType?, f3, hk, hkind, fits]
    · rw [f1, y_out_s]; rfl
  · rintro s' d' acts' ⟨i, hi, hr, rfl⟩
    have i4 : i = 4 := by
      rcases Nat.lt_or_ge i 4 with h | h
      · rw [show 4 - i = (4 - (i + 1)) + 1 by omega, List.range'_succ] at hr; cases hr
      · omega
    subst i4
    simp only [wp_pure']
    exact hq _ _
end YM
section YS
variable {p : Program} {l : Launch} {e : Env} {R : Room} {s : State} {m : MethodId} {args : Array Value} {below : List Frame} {meth : Method} {c : Code} {T : State} {locs : List Loc} {cells slots : Nat}
theorem y_stand (X : Stand p l e R s m args below meth c T locs cells slots) (cA cB : ClassId) : ∀ i : Nat, ∃ L' : List Loc, (∀ q ∈ L', q.base = T.heap.size) ∧ Stand p l e R s m args below meth c (y_st T cA cB i) (locs ++ L') (cells + 1 + i) (slots + 4 + i * 60) := by
  intro i
  induction i with
  | zero =>
    refine ⟨[], fun q h => (by cases h), ?_⟩
    have h := X.pushed (y_out cA T.heap.size 0)
    rw [show (y_out cA T.heap.size 0).slots.size = 4 from arrV_size _ _ _] at h
    rw [List.append_nil]
    exact h
  | succ i ih =>
    obtain ⟨L', hL, Xi⟩ := ih
    obtain ⟨f1, f2, -, -, -, -⟩ := y_facts T cA cB i
    have hc : ((y_st T cA cB i).pushCell (y_in cB)).heap[T.heap.size]? = some (y_out cA T.heap.size i) := by rw [State.heap_pushCell_of_lt _ _ (show T.heap.size < (y_st T cA cB i).heap.size by rw [f1]; omega)]; exact f2
    have h := (Xi.pushed (y_in cB)).stored hc i (.ref (T.heap.size + 1 + i))
    rw [y_out_s, show (y_in cB).slots.size = 60 from arrV_size _ _ _] at h
    refine ⟨L' ++ [⟨T.heap.size, i⟩], fun q hq => ?_, ?_⟩
    · rcases List.mem_append.mp hq with q1 | q1
      · exact hL q q1
      · rw [List.mem_singleton.mp q1]
    · rw [← List.append_assoc, show slots + 4 + (i + 1) * 60 = slots + 4 + i * 60 + 60 by omega]
      exact h
theorem y_multi (X : Stand p l e R s m args below meth c T locs cells slots) (hexec : p.tables.exec = Jvm.exec) {own : String} {index : Nat} (hown : s.vm.findClass own = some m.cls) (hclink : (Cond.classLink own index "[[J").before args s = true) (haw : z_aw s) (harr : (Cond.arrayClass .long).before args s = true) {g : JFrame} (hg : g.method = m) (hdg : decode c.code g.pc = .ok (.multianewarray index 2, 4)) {rest : List Value} (hstack : g.stack = .int 60 :: .int 4 :: rest) (hcells : cells + 5 ≤ R.cells) (hslots : slots + 244 ≤ R.slots) :
    ∃ (vm₁ : Vm) (cA cB : ClassId) (L' : List Loc), s.vm.findClass ("[" ++ (FieldType.array .long).toString) = some cA ∧ s.vm.findClass (FieldType.array .long).toString = some cB ∧ (∀ q ∈ L', q.base = T.heap.size) ∧ Stand p l e R s m args below meth c (y_st (T.setVm vm₁) cA cB 4) (locs ++ L') (cells + 5) (slots + 244) ∧
      ∀ target, Steps p.tables e below ((y_st (T.setVm vm₁) cA cB 4).setTop { g with pc := g.pc + 4, stack := .ref T.heap.size :: rest }) target → Steps p.tables e below (T.setTop g) target := by
  subst hg
  have hpl : e.platform.magicAccessors = ({} : Platform).magicAccessors := by rw [X.admits.platform]
  obtain ⟨cB, cA, kA, hcB, -, hkA, hkindA, hcA⟩ := z_aw_spec haw
  obtain ⟨cB', kB, cc, hcB', hkB, hkindB⟩ := Cond.arrayClass_spec harr
  obtain rfl : cB' = cB := Option.some.inj (hcB'.symm.trans hcB)
  obtain ⟨c0, hc0, hcl⟩ := Cond.classLink_spec hown hclink e.platform hpl
  obtain rfl : c0 = cA := Option.some.inj (hc0.symm.trans hcA)
  obtain ⟨hg₁, hw₁, -⟩ := State.classEntry (e := e) X.warmed hcl
  generalize T.vm.noted g.method.cls index (.cls c0) = vm₁ at hg₁ hw₁
  have hal : s.vm.Alike vm₁ := hw₁.alike
  obtain ⟨kA₁, hkA₁, heA⟩ := hal.2.2 _ _ hkA
  obtain ⟨kB₁, hkB₁, heB⟩ := hal.2.2 _ _ hkB
  obtain ⟨L', hL', X4⟩ := y_stand (X.noted hw₁) c0 cB' 4
  refine ⟨vm₁, c0, cB', L', hcA, hcB, hL', X4, fun target hrest => ?_⟩
  obtain ⟨hr1, hr2⟩ := X.roomAbove hcells hslots
  have hlim : ¬ 60 > e.platform.arrayLengthLimit := by rw [Launch.admits_arrayLengthLimit X.admits]; omega
  have hb1 : ¬ 4 * componentBytes (.array .long) > e.platform.maxHeapBytes := by rw [Launch.admits_maxHeapBytes X.admits]; decide
  have hb2 : ¬ 60 * componentBytes .long > e.platform.maxHeapBytes := by rw [Launch.admits_maxHeapBytes X.admits]; decide
  jvm_step X.here [hexec, hdg]
  simp only [multianewarray.sem, wp_bind', W.resolveClassAt_links (State.method?_setTop g X.here.top) hg₁]
  rw [W.popN, if_neg (by decide)]
  refine ⟨g, State.topJava?_setTop' (s := T.setVm vm₁) g X.here.top, [.int 4, .int 60], rest, rfl, hstack, ?_⟩
  simp only [List.mapM_cons, List.mapM_nil, wp_bind', wp_pure']
  refine y_make2 (k := kA₁) (kc := kB₁) (cB := cB') (cc := cc) hkA₁ (by rw [heA]; exact hkindA) hkB₁ (by rw [heB]; exact hkindB) hlim hb1 hb2 (by show T.heap.size + 5 ≤ _; omega) (by show T.slotsUsed + 244 ≤ _; omega) (fun d' acts' => ?_)
  have eS : ((T.setTop g).setVm vm₁).setTop { g with stack := rest } = (T.setVm vm₁).setTop { g with stack := rest } := by
    show ((T.setVm vm₁).setTop g).setTop _ = _
    rw [State.setTop_setTop]
  rw [eS, y_top]
  simp only [wp_bind', W.mark, W.pushRef, State.topJava?_setTop' _ X4.here.top, Option.some.injEq, exists_eq_left', State.setTop_setTop, State.heap_setTop]
  intro acts
  simp [jvm, X4.here.top]
  exact hrest
end YS
theorem y_ext {cI : ClassId} {n : Nat} {f f' : Nat → Value} (h : ∀ j, j < n → f j = f' j) : arrV cI n f = arrV cI n f' := by
  have e : (fun j : Fin n => f j.val) = fun j => f' j.val := funext fun j => h j.val j.isLt
  unfold arrV
  rw [e]
section ZM
variable {X : z_X} {d mc ms : Nat} {M : z_M} {pc : Nat} {ls : z_L} {st : List z_t} {uc us N : Nat} {σ g : z_G} {Q : z_Q}
theorem z_multi {n k idx : Nat} (hd : decode (z_c M) pc = .ok (.multianewarray idx 2, 4)) (hcl : Cond.classLink (z_y M).cls idx "[[J" ∈ z_tb) (hs0 : z_sh X N = (5, 4)) (hs1 : z_sh X (N + 1) = (2, 60)) (hs2 : z_sh X (N + 2) = (2, 60)) (hs3 : z_sh X (N + 3) = (2, 60)) (hs4 : z_sh X (N + 4) = (2, 60)) (ht : z_tl X = 0) (hu : uc + 5 ≤ mc) (hus : us + 244 ≤ ms)
    (kk : z_V X d mc ms M (pc + 4) ls ((2, (N : Int)) :: st) (uc + 5) (us + 244) (N + 5) (z_m5 σ N) (z_m0 g N) Q) : z_V X d mc ms M pc ls ((0, 60) :: (0, 4) :: st) uc us N σ g Q := by
  intro p e s m args below meth c9 H locs L F hL hl' ho hH hq
  have hts := F.2.2.2.2.2.1
  have hK := F.2.2.2.2.2.2.2.1
  have hsz : H.size = z_b X + N := by rw [hH.1, ht, Nat.add_zero]
  intro T hT XX
  obtain ⟨vm₁, cA, cB, L', hfA, hfC, hL', X1, step⟩ := y_multi XX F.1 (own := (z_y M).cls) (index := idx) F.2.2.2.2.1 (hts _ hcl) hK.2.2.2.2.2.1 (hts _ w_ac_long) (g := F0 m pc L (.int 60 :: .int 4 :: st.map (z_v X))) rfl (by rw [F.2.1]; exact hd) rfl hu hus
  have e5 : cA = z_A X 5 := Option.some.inj (hfA.symm.trans (hK.1.2 5 (z_A X 5, .array .long) rfl).2)
  have e2 : cB = z_A X 2 := Option.some.inj (hfC.symm.trans (hK.1.2 2 (z_A X 2, .long) rfl).2)
  subst e5; subst e2
  have hTs : (T.setVm vm₁).heap = H := hT
  obtain ⟨f1, f2, -, -, fo, fi⟩ := y_facts (T.setVm vm₁) (z_A X 5) (z_A X 2) 4
  rw [hTs] at f1 f2 fo fi
  rw [hT] at hL' step
  generalize y_st (T.setVm vm₁) (z_A X 5) (z_A X 2) 4 = T2 at *
  have key := kk p e s m args below meth c9 T2.heap (locs ++ L') L F hL hl' (z_op (z_ot (z_ot ho)) trivial) ?_ (fun q h => (List.mem_append.mp h).elim (hq q) (fun h => by rw [hL' q h, hsz]; omega)) _ rfl X1
  · obtain ⟨t, a1, b1⟩ := key
    refine ⟨t, step t ?_, b1⟩
    rw [List.map_cons, z_mr rfl, ← hsz] at a1
    exact a1
  · obtain ⟨h1, h2, h3⟩ := hH
    refine ⟨by rw [f1, hsz, ht]; omega, fun q hq => ?_, fun c hc => ?_⟩
    · rcases hq with hq | hq
      · rw [fo q (by omega)]; exact h2 q (Or.inl hq)
      · rw [← h2 q (Or.inr (by omega)), Array.getElem?_eq_none (by rw [f1]; omega), Array.getElem?_eq_none (by omega)]
    · by_cases c1 : c < N
      · have e1 : z_m5 σ N c = σ c := by unfold z_m5; rw [if_neg (by omega), if_neg (by omega)]
        have e2 : z_m0 g N c = g c := by unfold z_m0; rw [if_neg (by omega)]
        rw [e1, e2]
        exact z_cl_kept (h3 c c1) (fo _ (by omega))
      · have g0 : z_m0 g N c = fun _ => 0 := by unfold z_m0; rw [if_pos (by omega)]
        by_cases c2 : c = N
        · subst c2
          have e1 : z_m5 σ c c = fun j => ((c + 1 : Nat) : Int) + j := by unfold z_m5; rw [if_pos rfl]
          rw [e1, g0]
          unfold z_cl
          rw [hs0]
          refine ⟨?_, fun j hj => trivial⟩
          rw [← hsz, f2]
          unfold y_out
          refine congrArg some (y_ext fun j hj => ?_)
          show (if j < 4 then Value.ref (H.size + 1 + j) else .null) = z_ref X (((c + 1 : Nat) : Int) + (j : Int))
          rw [if_pos hj, show ((c + 1 : Nat) : Int) + (j : Int) = ((c + 1 + j : Nat) : Int) by omega, z_ref_n, hsz, show z_b X + (c + 1 + j) = z_b X + c + 1 + j by omega]
        · have e1 : z_m5 σ N c = fun _ => -1 := by unfold z_m5; rw [if_neg c2, if_pos (by omega)]
          have es : z_sh X c = (2, 60) := by
            rcases (show c = N + 1 ∨ c = N + 2 ∨ c = N + 3 ∨ c = N + 4 by omega) with rfl | rfl | rfl | rfl
            · exact hs1
            · exact hs2
            · exact hs3
            · exact hs4
          rw [e1, g0]
          unfold z_cl
          rw [es]
          refine ⟨?_, fun j hj => (by constructor <;> decide : z_rg 1 0)⟩
          have := fi (c - N - 1) (by omega)
          rw [show H.size + 1 + (c - N - 1) = z_b X + c by omega] at this
          rw [this]
          rfl
end ZM

/-! returns, calls, entry -/
section ZK
variable {X : z_X} {d mc ms : Nat} {M : z_M} {pc : Nat} {ls : z_L} {st : List z_t} {uc us N : Nat} {σ g : z_G} {Q : z_Q}
theorem z_iret {v : Int} (hd : decode (z_c M) pc = .ok (.ireturn, 1)) (hr : z_r M = some .int) (hu : uc ≤ mc) (hv : us ≤ ms) (h : Q v N σ g) : z_V X d mc ms M pc ls [(0, v)] uc us N σ g Q := by
  intro p e s m args below meth c9 H locs L F hL hl ho hH hq
  refine W.widen hu hv ?_
  exact W.iret (v := Int32.ofInt v) F.1 F.2.1 (F.2.2.1.trans hr) (fun t ht hW => ⟨v, N, σ, g, by rw [hr]; rfl, by rw [hr]; exact z_oh ho, h, by rw [ht]; exact hH⟩) hq hd F.2.2.2.2.2.2.1
theorem z_zret {v : Int} (hd : decode (z_c M) pc = .ok (.ireturn, 1)) (hr : z_r M = some .boolean) (hu : uc ≤ mc) (hv : us ≤ ms) (hb : v = 0 ∨ v = 1) (h : Q v N σ g) : z_V X d mc ms M pc ls [(0, v)] uc us N σ g Q := by
  intro p e s m args below meth c9 H locs L F hL hl ho hH hq
  refine W.widen hu hv ?_
  exact W.zret (v := Int32.ofInt v) (ty := .boolean) F.1 F.2.1 (F.2.2.1.trans hr) (by rcases hb with rfl | rfl <;> decide) (fun t ht hW => ⟨v, N, σ, g, by rw [hr]; rfl, by rw [hr]; show 0 ≤ v ∧ v ≤ 1; omega, h, by rw [ht]; exact hH⟩) hq hd F.2.2.2.2.2.2.1
theorem z_lret {v : Int} (hd : decode (z_c M) pc = .ok (.lreturn, 1)) (hr : z_r M = some .long) (hu : uc ≤ mc) (hv : us ≤ ms) (h : Q v N σ g) : z_V X d mc ms M pc ls [(1, v)] uc us N σ g Q := by
  intro p e s m args below meth c9 H locs L F hL hl ho hH hq
  refine W.widen hu hv ?_
  exact W.lret (v := Int64.ofInt v) F.1 F.2.1 (F.2.2.1.trans hr) (fun t ht hW => ⟨v, N, σ, g, by rw [hr]; rfl, by rw [hr]; exact z_oh ho, h, by rw [ht]; exact hH⟩) hq hd F.2.2.2.2.2.2.1
theorem z_vret (hd : decode (z_c M) pc = .ok (.return_, 1)) (hr : z_r M = none) (hu : uc ≤ mc) (hv : us ≤ ms) (h : Q 0 N σ g) : z_V X d mc ms M pc ls [] uc us N σ g Q := by
  intro p e s m args below meth c9 H locs L F hL hl ho hH hq
  refine W.widen hu hv ?_
  exact W.vret F.1 F.2.1 (F.2.2.1.trans hr) (fun t ht hW => ⟨0, N, σ, g, by rw [hr]; rfl, by rw [hr]; trivial, h, by rw [ht]; exact hH⟩) hq hd F.2.2.2.2.2.2.1
theorem z_sret {v : Int} {n : String} (hd : decode (z_c M) pc = .ok (.areturn, 1)) (hr : z_r M = some (.object n)) (hu : uc ≤ mc) (hv : us ≤ ms) (h : Q v N σ g) : z_V X d mc ms M pc ls [(4, v)] uc us N σ g Q := by
  intro p e s m args below meth c9 H locs L F hL hl ho hH hq
  refine W.widen hu hv ?_
  exact W.aret (v := z_v X (4, v)) F.1 F.2.1 (F.2.2.1.trans hr) (Or.inl ⟨n, rfl⟩) (Or.inr ⟨_, rfl⟩) (fun t ht hW => ⟨v, N, σ, g, by rw [hr]; rfl, by rw [hr]; trivial, h, by rw [ht]; exact hH⟩) hq hd F.2.2.2.2.2.2.1
/-- a method's entry: the locals of the arguments -/
def z_en : List z_t → Nat → z_L
  | [], _ => []
  | a :: as, i => (i, a) :: z_en as (if a.1 = 1 then i + 2 else i + 1)
theorem z_en_as (X : z_X) : ∀ (as : List z_t) (i : Nat), lv_args i (as.map (z_v X)) = z_as X (z_en as i) := by
  intro as
  induction as with
  | nil => intro i; rfl
  | cons a as ih =>
    intro i
    show (i, z_v X a) :: lv_args (if (z_v X a).category = 2 then i + 2 else i + 1) (as.map (z_v X)) = (i, z_v X a) :: z_as X (z_en as (if a.1 = 1 then i + 2 else i + 1))
    rw [← ih]
    congr 2
    rw [z_cat]
    by_cases h : a.1 = 1 <;> simp [h]
theorem z_en_ok : ∀ (as : List z_t) (i : Nat), (∀ x ∈ as, z_ok x) → ∀ q ∈ z_en as i, z_ok q.2 := by
  intro as
  induction as with
  | nil => intro i _ q hq; cases hq
  | cons a as ih =>
    intro i h q hq
    rcases List.mem_cons.mp hq with rfl | hq
    · exact h a List.mem_cons_self
    · exact ih _ (fun x hx => h x (List.mem_cons_of_mem _ hx)) q hq
def z_wd (as : List z_t) : Nat := (as.map (fun a => if a.1 = 1 then 2 else 1)).sum
theorem z_wd_eq (X : z_X) : ∀ as : List z_t, (lg_sl (as.map (z_v X))).length = z_wd as := by
  intro as
  induction as with
  | nil => rfl
  | cons a as ih =>
    show (List.flatMap _ (z_v X a :: as.map (z_v X))).length = _
    rw [List.flatMap_cons, List.length_append]
    have ih' : (List.flatMap (fun v : Value => if v.category = 2 then [Slot.val v, .second] else [.val v]) (as.map (z_v X))).length = z_wd as := ih
    rw [ih']
    unfold z_wd
    rw [List.map_cons, List.sum_cons, z_cat]
    by_cases h : a.1 = 1 <;> simp [h]
theorem z_enter {as : List z_t} {n : Nat} (hi : z_mi M n) (hw : z_wd as ≤ z_n M) (k : (∀ x ∈ as, z_ok x) → z_V X d mc ms M 0 (z_en as 0) [] 0 0 N σ g Q) : z_C X d mc ms M as N σ g Q := by
  refine Met.ofW (cc := z_c M) (maxL := z_n M) (ret := z_r M) hi.1 rfl ?_
  intro p e s m args below meth c9 s₁ B hml hv
  obtain ⟨rfl, hH, hK, ho⟩ := hv
  have hts := atoms_spec (ws := z_ws M) B.pre
  rw [lg_entry_eq]
  refine k ho p e s m _ below meth c9 s.heap [] _ ⟨B.exec, B.bytes, B.returns, hml, findClass_of_methodNamed B.named, fun w hw => hts w (List.mem_cons_of_mem _ hw), B.notSynchronized, hK, (name_of_methodNamed B.named B.method).1⟩ ?_ (z_en_ok as 0 ho) (fun x hx => by cases hx) hH (fun q hq => by cases hq)
  rw [← z_en_as]
  exact lv_entry _ (by rw [z_wd_eq]; exact hw)
theorem z_good : GoodIn z_tb z_tb := fun w hw => ⟨hw, good_of_word (List.mem_filter.mp hw).2⟩
theorem z_wsg {M' : z_M} {n : Nat} (hi : z_mi M' n) : GoodIn z_tb (z_ws M') := fun w hw => by
  rcases List.mem_cons.mp hw with rfl | hw
  · exact z_good _ hi.2.1
  · exact z_good _ hw
theorem z_blind {as : List z_t} : FrameBlind (va_Pc (as.map (z_v X)) (fun U => z_H X N σ g U.heap ∧ z_K X U ∧ ∀ x ∈ as, z_ok x)) := fun a U g mk q => by
  obtain ⟨q0, q1, q2, q3⟩ := q
  exact ⟨q0, q1, q2.same rfl, q3⟩
def z_pr (r : Option FieldType) (v : Int) : List z_t := match r with
  | none => []
  | some .long => [(1, v)]
  | some (.object _) => [(4, v)]
  | some _ => [(0, v)]
theorem z_pr_v (r : Option FieldType) (v : Int) : (z_rv X r v).toList = (z_pr r v).map (z_v X) := by
  cases r with
  | none => rfl
  | some t => cases t <;> rfl
theorem z_pr_ok {r : Option FieldType} {v : Int} (h : z_ro r v) : ∀ x ∈ z_pr r v, z_ok x := by
  intro x hx
  cases r with
  | none => cases hx
  | some t => cases t with
    | long => rw [List.mem_singleton.mp hx]; exact h
    | object n => rw [List.mem_singleton.mp hx]; trivial
    | boolean =>
      have h : 0 ≤ v ∧ v ≤ 1 := h
      rw [List.mem_singleton.mp hx]; exact (⟨by omega, by omega⟩ : -2147483648 ≤ v ∧ v ≤ 2147483647)
    | _ => rw [List.mem_singleton.mp hx]; exact h
/-- behind a call -/
theorem z_after {M' : z_M} {mc' ms' : Nat} {p : Program} {e : Env} {s : State} {m : MethodId} {args : Array Value} {below : List Frame} {meth : Method} {c9 : Code} {H : Heap} {locs : List Loc} {L : Array Slot} {stk : List Value} {a : Array Value}
    (F : z_F X M p s m args meth c9) (hL : lv_has L (z_n M) (z_as X ls)) (hl : ∀ q ∈ ls, z_ok q.2) (ho : ∀ x ∈ st, z_ok x) (hq : ∀ q ∈ locs, z_b X ≤ q.base)
    (hr : va_Run p (z_l X) e (z_R d mc ms) s m args below meth c9 H locs uc us mc' ms' (F0 m pc L stk) (st.map (z_v X)) (z_Qc X M' (fun r N' σ' g' => z_V X d mc ms M (pc + 3) ls (z_pr (z_r M') r ++ st) (uc + mc') (us + ms') N' σ' g' Q) a) (fun q => z_b X ≤ q)) :
    W p (z_l X) e (z_R d mc ms) s m args below meth c9 H locs uc us (MQ below (z_Qc X M Q) args s mc ms (fun q => z_b X ≤ q)) (F0 m pc L stk) := by
  intro T hT XX
  obtain ⟨v, st₀, t, T', L', h0, X', hL', e1, e2, ⟨r, N', σ', g', hv, hro, hV, hH'⟩, stp⟩ := hr T hT XX
  cases hv
  obtain ⟨t2, a1, b1⟩ := hV p e s m args below meth c9 T'.heap (locs ++ L') L F hL hl (fun x hx => (List.mem_append.mp hx).elim (z_pr_ok hro x) (ho x)) (by rw [e1]; exact hH') (fun q hq' => (List.mem_append.mp hq').elim (hq q) (hL' q)) T' rfl X'
  rw [List.map_append, ← z_pr_v] at a1
  exact ⟨t2, stp t2 a1, b1⟩
theorem z_rm {d' mc' ms' : Nat} (h : d' + 1 ≤ d) {n : Nat} (hn : n ≤ 40) : (z_R d' mc' ms').frames + 1 ≤ (z_R d mc ms).frames ∧ 8 + (n + 11) + (z_R d' mc' ms').locals ≤ (z_R d mc ms).locals := by
  refine ⟨h, ?_⟩
  show 8 + (n + 11) + 64 * d' ≤ 64 * d
  omega
theorem z_cB {M' : z_M} {n d' mc' ms' idx : Nat} {s : State} {args : Array Value} (hi : z_mi M' n) (hts : ∀ w ∈ z_tb, w.before args s = true) (hl : Cond.methodLink (z_y M).cls idx (z_y M') ∈ z_tb) (hd : d' + 1 ≤ d) (hn : z_n M' ≤ 40) : CallB (z_R d mc ms) s args (z_y M).cls idx (z_y M') (z_c M') (z_n M') (z_r M') (z_ws M') (z_R d' mc' ms') mc' ms' n :=
  callB_of n hts (z_wsg hi) rfl rfl rfl (hts _ hi.2.2.1) (hts _ hl) ⟨hi.2.2.2.1.1, hi.2.2.2.1.2, hi.2.2.2.2⟩ (z_rm hd hn)
theorem z_cs {st : List z_t} (h : (st.map (fun x : z_t => if x.1 = 1 then 2 else 1)).sum ≤ 8) : ((st.map (z_v X)).map fun v => v.category).sum ≤ 8 := by
  rw [List.map_map]
  have e : ((fun v => Value.category v) ∘ z_v X) = (fun x : z_t => if x.1 = 1 then 2 else 1) := funext fun x => z_cat X x
  rw [e]; exact h
theorem z_recv {c ci : Nat} {C : String} {T : u_T} {n : Nat} {s : State} {H : Heap} (hK : z_K X s) (hH : z_H X N σ g H) (hc : c < N) (hs : z_sh X c = (0, ci)) (hC : vwCl[ci]? = some (C, T, n)) : ∃ cellB : Cell, H[z_b X + c]? = some cellB ∧ cellB.vm.isStatics = false ∧ s.vm.findClass C = some cellB.cls := by
  obtain ⟨⟨cell, q1, q2, q3, q4⟩, -⟩ := z_obj hH hc hs
  obtain ⟨hS, hfc, -⟩ := hK.1.1 ci _ hC
  exact ⟨cell, q1, by rw [q3]; rfl, by rw [q2]; exact hfc⟩
/-- a virtual call: stk is what stands on the stack -/
theorem z_callV {M' : z_M} {as stk : List z_t} {n d' mc' ms' idx c ci nf : Nat} {C : String} {T : u_T} {r : Int} (hd : decode (z_c M) pc = .ok (.invokevirtual idx, 3)) (hi : z_mi M' n) (hl : Cond.methodLink (z_y M).cls idx (z_y M') ∈ z_tb) (hv : Cond.instanceMethod (z_y M') ∈ z_tb) (hse : Cond.selects (z_y M').cls (z_y M') (z_y M') ∈ z_tb)
    (hn : as.length = n) (hL9 : z_n M' ≤ 40) (hst : stk = as.reverse ++ (2, r) :: st) (hr : r = (c : Int)) (hs : z_sh X c = (0, ci)) (hC : vwCl[ci]? = some (C, T, nf)) (hCc : C = (z_y M').cls) (hc : c < N) (hcat : (st.map (fun x : z_t => if x.1 = 1 then 2 else 1)).sum ≤ 8) (hdd : d' + 1 ≤ d) (hu : uc + mc' ≤ mc) (hus : us + ms' ≤ ms)
    (k : z_C X d' mc' ms' M' ((2, r) :: as) N σ g (fun r N' σ' g' => z_V X d mc ms M (pc + 3) ls (z_pr (z_r M') r ++ st) (uc + mc') (us + ms') N' σ' g' Q)) : z_V X d mc ms M pc ls stk uc us N σ g Q := by
  intro p e s m args below meth c9 H locs L F hL hl' ho hH hq
  subst hst
  have ho1 : ∀ x ∈ (2, r) :: as, z_ok x := fun x hx => by
    rcases List.mem_cons.mp hx with rfl | hx
    · trivial
    · exact ho x (List.mem_append_left _ (List.mem_reverse.mpr hx))
  refine z_after (M' := M') (mc' := mc') (ms' := ms') (a := (Value.ref (z_b X + c) :: as.map (z_v X)).toArray) F hL hl' (fun x hx => ho x (List.mem_append_right _ (List.mem_cons_of_mem _ hx))) hq ?_
  have hkk := k
  unfold z_C at hkk
  rw [List.map_cons, z_mr hr] at hkk
  have hb := z_blind (X := X) (N := N) (σ := σ) (g := g) (as := (2, r) :: as)
  rw [List.map_cons, z_mr hr] at hb
  exact va_runV (As := as.map (z_v X)) (rest := st.map (z_v X)) ⟨F.1, F.2.1, F.2.2.2.1, F.2.2.2.2.1, F.2.2.2.2.2.1⟩ hkk ⟨z_cB hi F.2.2.2.2.2.1 hl hdd hL9, F.2.2.2.2.2.1 _ hv, F.2.2.2.2.2.1 _ hse⟩
    ⟨hb, by rw [← hCc]; exact z_recv F.2.2.2.2.2.2.2.1 hH hc hs hC, fun U hU hW => ⟨rfl, by rw [hU]; exact hH, F.2.2.2.2.2.2.2.1.warm hW, ho1⟩⟩ rfl (by rw [List.length_map]; exact hn) hL.1 (by show List.map (z_v X) _ = _; rw [List.map_append, List.map_reverse, List.map_cons, z_mr hr]) (lv_room (z_cs hcat)) hd ⟨hu, hus⟩
theorem z_callS {M' : z_M} {as stk : List z_t} {n d' mc' ms' idx : Nat} (hd : decode (z_c M) pc = .ok (.invokestatic idx, 3)) (hi : z_mi M' n) (hl : Cond.methodLink (z_y M).cls idx (z_y M') ∈ z_tb) (hv : Cond.static (z_y M') ∈ z_tb)
    (hn : as.length = n) (hL9 : z_n M' ≤ 40) (hst : stk = as.reverse ++ st) (hcat : (st.map (fun x : z_t => if x.1 = 1 then 2 else 1)).sum ≤ 8) (hdd : d' + 1 ≤ d) (hu : uc + mc' ≤ mc) (hus : us + ms' ≤ ms)
    (k : z_C X d' mc' ms' M' as N σ g (fun r N' σ' g' => z_V X d mc ms M (pc + 3) ls (z_pr (z_r M') r ++ st) (uc + mc') (us + ms') N' σ' g' Q)) : z_V X d mc ms M pc ls stk uc us N σ g Q := by
  intro p e s m args below meth c9 H locs L F hL hl' ho hH hq
  subst hst
  refine z_after (M' := M') (mc' := mc') (ms' := ms') (a := (as.map (z_v X)).toArray) F hL hl' (fun x hx => ho x (List.mem_append_right _ hx)) hq ?_
  exact va_runS (As := as.map (z_v X)) (rest := st.map (z_v X)) ⟨F.1, F.2.1, F.2.2.2.1, F.2.2.2.2.1, F.2.2.2.2.2.1⟩ k ⟨z_cB hi F.2.2.2.2.2.1 hl hdd hL9, F.2.2.2.2.2.1 _ hv⟩
    ⟨z_blind, fun U hU hW => ⟨rfl, by rw [hU]; exact hH, F.2.2.2.2.2.2.2.1.warm hW, fun x hx => ho x (List.mem_append_left _ (List.mem_reverse.mpr hx))⟩⟩ rfl (by rw [List.length_map]; exact hn) hL.1 (by show List.map (z_v X) _ = _; rw [List.map_append, List.map_reverse]) (lv_room (z_cs hcat)) hd ⟨hu, hus⟩
theorem z_callSN {M' : z_M} {as stk : List z_t} {n d' mc' ms' idx : Nat} (hd : decode (z_c M) pc = .ok (.invokestatic idx, 3)) (hi : z_mi M' n) (hl : ((z_y M).cls, idx, z_y M') ∈ z_nl) (hv : Cond.static (z_y M') ∈ z_tb)
    (hn : as.length = n) (hL9 : z_n M' ≤ 40) (hst : stk = as.reverse ++ st) (hcat : (st.map (fun x : z_t => if x.1 = 1 then 2 else 1)).sum ≤ 8) (hdd : d' + 1 ≤ d) (hu : uc + mc' ≤ mc) (hus : us + ms' ≤ ms)
    (k : z_C X d' mc' ms' M' as N σ g (fun r N' σ' g' => z_V X d mc ms M (pc + 3) ls (z_pr (z_r M') r ++ st) (uc + mc') (us + ms') N' σ' g' Q)) : z_V X d mc ms M pc ls stk uc us N σ g Q := by
  intro p e s m args below meth c9 H locs L F hL hl' ho hH hq
  subst hst
  refine z_after (M' := M') (mc' := mc') (ms' := ms') (a := (as.map (z_v X)).toArray) F hL hl' (fun x hx => ho x (List.mem_append_right _ hx)) hq ?_
  exact va_runSN (As := as.map (z_v X)) (rest := st.map (z_v X)) ⟨F.1, F.2.1, F.2.2.2.1, F.2.2.2.2.1, F.2.2.2.2.2.1⟩ k ⟨va_cnB n F.2.2.2.2.2.1 (z_wsg hi) rfl rfl rfl (F.2.2.2.2.2.2.2.1.2.2.2.1 _ hl) (F.2.2.2.2.2.1 _ hi.2.2.1) ⟨hi.2.2.2.1.1, hi.2.2.2.1.2, hi.2.2.2.2⟩ (z_rm hdd hL9), F.2.2.2.2.2.1 _ hv, trivial⟩
    ⟨z_blind, fun U hU hW => ⟨rfl, by rw [hU]; exact hH, F.2.2.2.2.2.2.2.1.warm hW, fun x hx => ho x (List.mem_append_left _ (List.mem_reverse.mpr hx))⟩⟩ rfl (by rw [List.length_map]; exact hn) hL.1 (by show List.map (z_v X) _ = _; rw [List.map_append, List.map_reverse]) (lv_room (z_cs hcat)) hd ⟨hu, hus⟩
theorem z_mrn {r : Int} {c : Nat} {as : List z_t} (hr : r = (c : Int)) : ((2, r) :: as).map (z_v X) = .ref (z_b X + c) :: as.map (z_v X) := by rw [List.map_cons, z_mr hr]
theorem z_callI {M' : z_M} {as stk : List z_t} {n d' mc' ms' idx c : Nat} {r : Int} (hd : decode (z_c M) pc = .ok (.invokespecial idx, 3)) (hi : z_mi M' n) (hl : Cond.methodLink (z_y M).cls idx (z_y M') ∈ z_tb) (hv : Cond.instanceMethod (z_y M') ∈ z_tb) (hin : (z_y M').name = "<init>") (hrt : z_r M' = none)
    (hn : as.length = n) (hL9 : z_n M' ≤ 40) (hst : stk = as.reverse ++ (2, r) :: st) (hr : r = (c : Int)) (hcat : (st.map (fun x : z_t => if x.1 = 1 then 2 else 1)).sum ≤ 8) (hdd : d' + 1 ≤ d) (hu : uc + mc' ≤ mc) (hus : us + ms' ≤ ms)
    (k : z_C X d' mc' ms' M' ((2, r) :: as) N σ g (fun r N' σ' g' => z_V X d mc ms M (pc + 3) ls (z_pr (z_r M') r ++ st) (uc + mc') (us + ms') N' σ' g' Q)) : z_V X d mc ms M pc ls stk uc us N σ g Q := by
  intro p e s m args below meth c9 H locs L F hL hl' ho hH hq
  subst hst
  have ho1 : ∀ x ∈ (2, r) :: as, z_ok x := fun x hx => by
    rcases List.mem_cons.mp hx with rfl | hx
    · trivial
    · exact ho x (List.mem_append_left _ (List.mem_reverse.mpr hx))
  refine z_after (M' := M') (mc' := mc') (ms' := ms') (a := (Value.ref (z_b X + c) :: as.map (z_v X)).toArray) F hL hl' (fun x hx => ho x (List.mem_append_right _ (List.mem_cons_of_mem _ hx))) hq ?_
  have hkk := k
  unfold z_C at hkk
  rw [z_mrn hr] at hkk
  have hb := z_blind (X := X) (N := N) (σ := σ) (g := g) (as := (2, r) :: as)
  rw [z_mrn hr] at hb
  have hB := z_cB (M := M) (mc := mc) (ms := ms) (mc' := mc') (ms' := ms') hi F.2.2.2.2.2.1 hl hdd hL9
  rw [hrt] at hB
  exact va_runI (As := as.map (z_v X)) (rest := st.map (z_v X)) ⟨F.1, F.2.1, F.2.2.2.1, F.2.2.2.2.1, F.2.2.2.2.2.1⟩ hkk ⟨hB, hin, F.2.2.2.2.2.1 _ hv⟩
    ⟨hb, fun U hU hW => ⟨rfl, by rw [hU]; exact hH, F.2.2.2.2.2.2.2.1.warm hW, ho1⟩⟩ rfl (by rw [List.length_map]; exact hn) hL.1 (by show List.map (z_v X) _ = _; rw [List.map_append, List.map_reverse, z_mrn hr]) (lv_room (z_cs hcat)) hd ⟨hu, hus⟩
theorem z_callIN {M' : z_M} {as stk : List z_t} {n d' mc' ms' idx c : Nat} {r : Int} (hd : decode (z_c M) pc = .ok (.invokespecial idx, 3)) (hi : z_mi M' n) (hl : ((z_y M).cls, idx, z_y M') ∈ z_nl) (hv : Cond.instanceMethod (z_y M') ∈ z_tb) (hin : (z_y M').name = "<init>") (hrt : z_r M' = none)
    (hn : as.length = n) (hL9 : z_n M' ≤ 40) (hst : stk = as.reverse ++ (2, r) :: st) (hr : r = (c : Int)) (hcat : (st.map (fun x : z_t => if x.1 = 1 then 2 else 1)).sum ≤ 8) (hdd : d' + 1 ≤ d) (hu : uc + mc' ≤ mc) (hus : us + ms' ≤ ms)
    (k : z_C X d' mc' ms' M' ((2, r) :: as) N σ g (fun r N' σ' g' => z_V X d mc ms M (pc + 3) ls (z_pr (z_r M') r ++ st) (uc + mc') (us + ms') N' σ' g' Q)) : z_V X d mc ms M pc ls stk uc us N σ g Q := by
  intro p e s m args below meth c9 H locs L F hL hl' ho hH hq
  subst hst
  have ho1 : ∀ x ∈ (2, r) :: as, z_ok x := fun x hx => by
    rcases List.mem_cons.mp hx with rfl | hx
    · trivial
    · exact ho x (List.mem_append_left _ (List.mem_reverse.mpr hx))
  refine z_after (M' := M') (mc' := mc') (ms' := ms') (a := (Value.ref (z_b X + c) :: as.map (z_v X)).toArray) F hL hl' (fun x hx => ho x (List.mem_append_right _ (List.mem_cons_of_mem _ hx))) hq ?_
  have hkk := k
  unfold z_C at hkk
  rw [z_mrn hr] at hkk
  have hb := z_blind (X := X) (N := N) (σ := σ) (g := g) (as := (2, r) :: as)
  rw [z_mrn hr] at hb
  have hB := va_cnB (R := z_R d mc ms) (args := args) (rm := z_R d' mc' ms') (mc := mc') (ms := ms') n F.2.2.2.2.2.1 (z_wsg hi) rfl rfl rfl (F.2.2.2.2.2.2.2.1.2.2.2.1 _ hl) (F.2.2.2.2.2.1 _ hi.2.2.1) ⟨hi.2.2.2.1.1, hi.2.2.2.1.2, hi.2.2.2.2⟩ (z_rm hdd hL9)
  rw [hrt] at hB
  exact va_runIN (As := as.map (z_v X)) (rest := st.map (z_v X)) ⟨F.1, F.2.1, F.2.2.2.1, F.2.2.2.2.1, F.2.2.2.2.2.1⟩ hkk ⟨hB, hin, F.2.2.2.2.2.1 _ hv⟩
    ⟨hb, fun U hU hW => ⟨rfl, by rw [hU]; exact hH, F.2.2.2.2.2.2.2.1.warm hW, ho1⟩⟩ rfl (by rw [List.length_map]; exact hn) hL.1 (by show List.map (z_v X) _ = _; rw [List.map_append, List.map_reverse, z_mrn hr]) (lv_room (z_cs hcat)) hd ⟨hu, hus⟩
/-- what a call's contract gives may be weakened -/
theorem z_C_mono {as : List z_t} {Q1 Q2 : z_Q} (h : z_C X d mc ms M as N σ g Q1) (k : ∀ r N' σ' g', z_ro (z_r M) r → Q1 r N' σ' g' → Q2 r N' σ' g') : z_C X d mc ms M as N σ g Q2 := by
  intro p e ha hc hk s m args below hf happ hP hK
  obtain ⟨n, o, h1, h2, h3, ⟨r, N', σ', g', q1, q2, q3, q4⟩, h5⟩ := h p e ha hc hk s m args below hf happ hP hK
  exact ⟨n, o, h1, h2, h3, ⟨r, N', σ', g', q1, q2, k r N' σ' g' q2 q3, q4⟩, h5⟩
end ZK

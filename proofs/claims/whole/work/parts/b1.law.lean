/-! ## the law: worlds, rows -/
/-- Ended and still within can't both be -/
theorem z_ended {t : State} {below : List Frame} {o : Outcome} (h : Ended t below o) : ¬ Within t below := by
  rintro ⟨above, e1, e2, e3⟩
  cases o with
  | threw a =>
    have h1 : t.frames = .throwing a :: below := h
    rw [h1] at e1
    have : above = [.throwing a] := (List.append_cancel_right (as := [Frame.throwing a]) (bs := below) e1).symm
    exact e3 a this
  | returned v =>
    have hl : t.frames.length = below.length := by
      cases below with
      | nil => exact congrArg List.length h.2
      | cons f r => cases f with
        | java g =>
          obtain ⟨c, i, len, -, -, h3⟩ := h
          rw [h3]; rfl
        | native g =>
          have h3 : t.frames = .native { g with awaiting := false, answer := some (.returned v) } :: r := h
          rw [h3]; rfl
        | proc g =>
          have h3 : t.frames = .proc { g with awaiting := false, answer := some (.returned v) } :: r := h
          rw [h3]; rfl
        | _ => exact congrArg List.length h.2
    rw [e1, List.length_append] at hl
    exact e2 (List.eq_nil_of_length_eq_zero (by omega))
/-- one run alone: what holds behind it may speak of the heap behind it -/
theorem z_C_heap {X : z_X} {d mc ms : Nat} {M : z_M} {as : List z_t} {N : Nat} {σ g : z_G} {Q : Heap → z_Q} (h : ∀ h', z_C X d mc ms M as N σ g (Q h')) : Met (z_l X) (z_y M) (z_ws M) (z_R d mc ms) (va_Pc (as.map (z_v X)) (fun U => z_H X N σ g U.heap ∧ z_K X U ∧ ∀ x ∈ as, z_ok x)) (fun a s o t => z_Qc X M (Q t.heap) a s o t) mc ms (fun q => z_b X ≤ q) := by
  intro p e ha hc hk s m args below hf happ hP hK
  obtain ⟨n, o, h1, h2, h3, -⟩ := h s.heap p e ha hc hk s m args below hf happ hP hK
  obtain ⟨n', o', h1', h2', h3', h4', h5'⟩ := h (stepsAlone p.tables e n s).heap p e ha hc hk s m args below hf happ hP hK
  have en : n = n' := by
    rcases Nat.lt_trichotomy n n' with q | q | q
    · exact absurd (h1' n q) (z_ended h3)
    · exact q
    · exact absurd (h1 n' q) (z_ended h3')
  subst en
  exact ⟨n, o', h1', h2', h3', h4', h5'⟩
def l_X (l : Launch) (D : va_G) (A : Nat → ClassId) (B : Nat) (aK aV : Nat → Nat) (tl : Nat) (h : Heap) : z_X := (l, D, A, (B, tl, h), (aK, aV), fun c => z_SF.getD c (9, 9))
def l_Y (l : Launch) (D : va_G) (A : Nat → ClassId) (B : Nat) (aK aV : Nat → Nat) (h : Heap) : z_X := (l, D, A, (B + 98, 0, h), (aK, aV), fun c => z_SM.getD c (9, 9))
def l_H (l : Launch) (D : va_G) (A : Nat → ClassId) (B : Nat) (aK aV : Nat → Nat) (h0 : Heap) (gx gm : z_G) (H : Heap) : Prop := H.size = B + 116 ∧ (∀ q : Nat, q < B → H[q]? = h0[q]?) ∧ (∀ c : Nat, c < 98 → z_cl (l_X l D A B aK aV 18 h0) c (kS_F c) (gx c) H) ∧ ∀ c : Nat, c < 18 → z_cl (l_Y l D A B aK aV h0) c (kS_M c) (gm c) H
section LW
variable {p : Program} {l : Launch} {e : Env} {s : State} {m : MethodId} {below : List Frame} {meth : Method} {c : Code} {b L : Nat} {xs : Nat → Int32} {D : va_G} {A : Nat → ClassId} {B : Nat} {aK aV : Nat → Nat} {h0 H H' : Heap} {gx gm gx' gm' : z_G}
theorem l_HX (h : l_H l D A B aK aV h0 gx gm H) : z_H (l_X l D A B aK aV 18 H) 98 kS_F gx H := ⟨h.1, fun _ _ => rfl, h.2.2.1⟩
theorem l_HY (h : l_H l D A B aK aV h0 gx gm H) : z_H (l_Y l D A B aK aV H) 18 kS_M gm H := ⟨h.1, fun _ _ => rfl, h.2.2.2⟩
theorem l_HX' (h : l_H l D A B aK aV h0 gx gm H) (h' : z_H (l_X l D A B aK aV 18 H) 98 kS_F gx' H') : l_H l D A B aK aV h0 gx' gm H' := by
  obtain ⟨a1, a2, a3, a4⟩ := h
  obtain ⟨b1, b2, b3⟩ := h'
  refine ⟨b1, fun q hq => (b2 q (Or.inl hq)).trans (a2 q hq), b3, fun c hc => z_cl_kept (a4 c hc) (b2 _ (Or.inr ?_))⟩
  show B + 98 ≤ B + 98 + c
  omega
theorem l_HY' (h : l_H l D A B aK aV h0 gx gm H) (h' : z_H (l_Y l D A B aK aV H) 18 kS_M gm' H') : l_H l D A B aK aV h0 gx gm' H' := by
  obtain ⟨a1, a2, a3, a4⟩ := h
  obtain ⟨b1, b2, b3⟩ := h'
  refine ⟨b1, fun q hq => (b2 q (Or.inl (show q < B + 98 by omega))).trans (a2 q hq), fun c hc => z_cl_kept (a3 c hc) (b2 _ (Or.inl ?_)), b3⟩
  show B + c < B + 98
  omega
theorem l_layX {tl : Nat} {h : Heap} : z_lay (l_X l D A B aK aV tl h) 98 kS_F 0 z_SF z_RF := by
  refine ⟨fun j s hj => ?_, by decide, fun k q hq => ?_⟩
  · show z_SF.getD (0 + j) (9, 9) = s
    rw [Nat.zero_add, List.getD_eq_getElem?_getD, hj]; rfl
  · rw [Nat.zero_add, Nat.zero_add]; exact kr_F q (List.mem_of_getElem? hq)
theorem l_layY {h : Heap} : z_lay (l_Y l D A B aK aV h) 18 kS_M 0 z_SM z_RM := by
  refine ⟨fun j s hj => ?_, by decide, fun k q hq => ?_⟩
  · show z_SM.getD (0 + j) (9, 9) = s
    rw [Nat.zero_add, List.getD_eq_getElem?_getD, hj]; rfl
  · rw [Nat.zero_add, Nat.zero_add]; exact kr_M q (List.mem_of_getElem? hq)
theorem l_KX {tl tl' : Nat} (hK : z_K (l_X l D A B aK aV tl h0) s) (hq : ∀ q : Nat, q < B → H[q]? = h0[q]?) : z_K (l_X l D A B aK aV tl' H) s := by
  obtain ⟨k1, k2, k3, k4, k5, k6, k7, k8⟩ := hK
  have hq' : ∀ a : Nat, a < h0.size → ¬ B ≤ a → H[a]? = h0[a]? := fun a _ h => hq a (by omega)
  exact ⟨k1, k2.kept hq', k3, k4, k5, k6, k7.kept hq', k8.elim (fun h => Or.inl (h.kept hq')) (fun h => Or.inr (h.kept hq'))⟩
theorem l_KY {tl : Nat} (hK : z_K (l_X l D A B aK aV tl h0) s) (hq : ∀ q : Nat, q < B → H[q]? = h0[q]?) : z_K (l_Y l D A B aK aV H) s := by
  obtain ⟨k1, k2, k3, k4, k5, k6, k7, k8⟩ := hK
  have hq' : ∀ a : Nat, a < h0.size → ¬ B ≤ a → H[a]? = h0[a]? := fun a _ h => hq a (by omega)
  have nr : ∀ q : Nat, B + 98 ≤ q → B ≤ q := fun q h => by omega
  exact ⟨k1, (k2.kept hq').narrow nr, k3, k4, k5, k6, (k7.kept hq').narrow nr, k8.elim (fun h => Or.inl ((h.kept hq').narrow nr)) (fun h => Or.inr ((h.kept hq').narrow nr))⟩
/-- the law, at a place of its body behind both constructors -/
def l_J (p : Program) (l : Launch) (e : Env) (s : State) (m : MethodId) (below : List Frame) (meth : Method) (c : Code) (b : Nat) (pc : Nat) (i : Int) (st : List Value) (H : Heap) : Prop := ∀ (locs : List Loc) (Lc : Array Slot), lv_has Lc 4 [(0, .ref b), (1, .ref s.heap.size), (2, .ref (s.heap.size + 98)), (3, .int (Int32.ofInt i))] → (∀ q ∈ locs, s.heap.size ≤ q.base) → W p l e room_1 s m #[Value.ref b] below meth c H locs 116 100000 (lw_Z below #[Value.ref b] s) (F0 m pc Lc st)
/-- a number of the script -/
def l_a (xs : Nat → Int32) (i : Int) (k : Nat) : Int := (xs (i.toNat + k)).toInt
theorem l_wd (C0 : lw_At p s m meth c b L xs) {w : Cond} (hw : w ∈ z_tb) : w.before #[Value.ref b] s = true := C0.2.2.2.2.2.1 w (List.mem_filter.mp hw).1
theorem l_ald1 (C0 : lw_At p s m meth c b L xs) {pc : Nat} {i : Int} {st : List Value} (hd : decode code pc = .ok (.aload_n 1, 1)) (k : l_J p l e s m below meth c b (pc + 1) i (.ref s.heap.size :: st) H) : l_J p l e s m below meth c b pc i st H := fun locs Lc hL hq => lv_aload_n C0.1 C0.2.1 hd rfl (hL.2.2 (1, .ref s.heap.size) (List.mem_of_getElem? (i := 1) rfl)) (k locs Lc hL hq)
theorem l_ald2 (C0 : lw_At p s m meth c b L xs) {pc : Nat} {i : Int} {st : List Value} (hd : decode code pc = .ok (.aload_n 2, 1)) (k : l_J p l e s m below meth c b (pc + 1) i (.ref (s.heap.size + 98) :: st) H) : l_J p l e s m below meth c b pc i st H := fun locs Lc hL hq => lv_aload_n C0.1 C0.2.1 hd rfl (hL.2.2 (2, .ref (s.heap.size + 98)) (List.mem_of_getElem? (i := 2) rfl)) (k locs Lc hL hq)
theorem l_arg (C0 : lw_At p s m meth c b L xs) (hH : l_H l D A s.heap.size aK aV s.heap gx gm H) {pc k : Nat} {i kI : Int} {st : List Value} (hk : kI = (k : Int)) (hi : 0 ≤ i ∧ i + k < L) (hL3 : L ≤ 3072) (d0 : decode code pc = .ok (.aload_n 0, 1)) (d1 : decode code (pc + 1) = .ok (.iload_n 3, 1)) (d2 : decode code (pc + 1 + 1) = .ok (.iconst kI, 1)) (d3 : decode code (pc + 1 + 1 + 1) = .ok (.iadd, 1)) (d4 : decode code (pc + 1 + 1 + 1 + 1) = .ok (.iaload, 1))
    (kk : l_J p l e s m below meth c b (pc + 1 + 1 + 1 + 1 + 1) i (.int (Int32.ofInt (l_a xs i k)) :: st) H) : l_J p l e s m below meth c b pc i st H := fun locs Lc hL hq => by
  have h0 := hL.2.2 (0, .ref b) (List.mem_of_getElem? (i := 0) rfl)
  have h3 := hL.2.2 (3, .int (Int32.ofInt i)) (List.mem_of_getElem? (i := 3) rfl)
  refine lv_aload_n C0.1 C0.2.1 d0 rfl h0 (lv_iload_n C0.1 C0.2.1 d1 rfl h3 (lv_iconst C0.1 C0.2.1 d2 rfl (lv_iadd C0.1 C0.2.1 d3 ?_)))
  rw [← Int32.ofInt_add]
  have hS : va_S (fun q : Nat => s.heap.size ≤ q) s.heap H locs := ⟨by rw [hH.1]; omega, fun q h1 _ => hH.2.1 q h1, hq⟩
  refine va_sld (A := fun q : Nat => s.heap.size ≤ q) C0.1 C0.2.1 C0.2.2.2.2.2.2.1 C0.2.2.2.2.2.2.2.1 (Nat.not_le.mpr C0.2.2.2.2.2.2.2.1) hS (z_in_vp (by omega) (by omega)) d4 ?_
  have e : xs (Int32.ofInt (i + kI)).toNatClampNeg = Int32.ofInt (l_a xs i k) := by
    rw [z_clamp (by omega), show (i + kI).toNat = i.toNat + k by omega]
    unfold l_a
    rw [Int32.ofInt_toInt]
  rw [e]
  exact kk locs Lc hL hq
/-- a long out of two numbers of the script -/
def l_aJ (xs : Nat → Int32) (i : Int) (k j : Nat) : Int := (((Int32.ofInt (l_a xs i k)).toInt64 <<< ((32 : Int32).toInt64 &&& 63)) ||| ((Int32.ofInt (l_a xs i j)).toInt64 &&& 4294967295)).toInt
theorem l_argJ1 (C0 : lw_At p s m meth c b L xs) {pc k : Nat} {i : Int} {st : List Value} (d5 : decode code pc = .ok (.i2l, 1)) (d6 : decode code (pc + 1) = .ok (.bipush 32, 2)) (d7 : decode code (pc + 1 + 2) = .ok (.lshl, 1))
    (kk : l_J p l e s m below meth c b (pc + 1 + 2 + 1) i (.long ((Int32.ofInt (l_a xs i k)).toInt64 <<< ((32 : Int32).toInt64 &&& 63)) :: st) H) : l_J p l e s m below meth c b pc i (.int (Int32.ofInt (l_a xs i k)) :: st) H := fun locs Lc hL hq =>
  lv_i2l C0.1 C0.2.1 d5 rfl (lv_bipush (v := 32) C0.1 C0.2.1 d6 (by decide) (lv_lshl C0.1 C0.2.1 d7 rfl (kk locs Lc hL hq)))
theorem l_argJ2 (C0 : lw_At p s m meth c b L xs) {pc k j idx : Nat} {i : Int} {st : List Value} (d5 : decode code pc = .ok (.i2l, 1)) (d6 : decode code (pc + 1) = .ok (.ldc2_w idx, 3)) (hw : Cond.constantLong R_law idx 4294967295 ∈ z_tb) (d7 : decode code (pc + 1 + 3) = .ok (.land, 1)) (d8 : decode code (pc + 1 + 3 + 1) = .ok (.lor, 1))
    (kk : l_J p l e s m below meth c b (pc + 1 + 3 + 1 + 1) i (.long (Int64.ofInt (l_aJ xs i k j)) :: st) H) : l_J p l e s m below meth c b pc i (.int (Int32.ofInt (l_a xs i j)) :: .long ((Int32.ofInt (l_a xs i k)).toInt64 <<< ((32 : Int32).toInt64 &&& 63)) :: st) H := fun locs Lc hL hq => by
  refine lv_i2l C0.1 C0.2.1 d5 rfl (lv_ldc2 C0.1 C0.2.1 C0.2.2.2.2.1 (l_wd C0 hw) d6 (lv_land C0.1 C0.2.1 d7 (lv_lor C0.1 C0.2.1 d8 ?_)))
  have e : ((Int32.ofInt (l_a xs i k)).toInt64 <<< ((32 : Int32).toInt64 &&& 63)) ||| ((Int32.ofInt (l_a xs i j)).toInt64 &&& 4294967295) = Int64.ofInt (l_aJ xs i k j) := by
    unfold l_aJ; rw [Int64.ofInt_toInt]
  rw [e]
  exact kk locs Lc hL hq
/-- the class is called -/
theorem l_callX (C0 : lw_At p s m meth c b L xs) {tl : Nat} (hK : z_K (l_X l D A s.heap.size aK aV tl s.heap) s) (hH : l_H l D A s.heap.size aK aV s.heap gx gm H) {M' : z_M} {as : List z_t} {st : List Value} {n d' idx pc : Nat} {i : Int} {Qh : Heap → z_P} (hd : decode code pc = .ok (.invokevirtual idx, 3)) (hi : z_mi M' n) (hl : Cond.methodLink R_law idx (z_y M') ∈ z_tb) (hv : Cond.instanceMethod (z_y M') ∈ z_tb) (hse : Cond.selects (z_y M').cls (z_y M') (z_y M') ∈ z_tb) (hn : as.length = n) (hL9 : Nat.ble (z_n M') 40 = true) (hC : (z_y M').cls = "FareyRank") (ho : ∀ x ∈ as, z_ok x) (hdd : Nat.ble d' 100 = true) (hcat : (st.map fun v => v.category).sum ≤ 8)
    (K : ∀ h', z_O (l_X l D A s.heap.size aK aV 18 H) d' M' ((2, 0) :: as) 98 kS_F gx (Qh h'))
    (k : ∀ r gx' H', z_ro (z_r M') r → l_H l D A s.heap.size aK aV s.heap gx' gm H' → Qh H' r gx' → l_J p l e s m below meth c b (pc + 3) i ((z_rv (l_X l D A s.heap.size aK aV 18 H) (z_r M') r).toList ++ st) H') : l_J p l e s m below meth c b pc i ((as.map (z_v (l_X l D A s.heap.size aK aV 18 H))).reverse ++ .ref s.heap.size :: st) H := fun locs Lc hL hq => by
  have hts : ∀ w ∈ z_tb, w.before #[Value.ref b] s = true := fun w hw => l_wd C0 hw
  have hKX : z_K (l_X l D A s.heap.size aK aV 18 H) s := l_KX hK hH.2.1
  have hHX := l_HX hH
  have hd9 := Nat.le_of_ble_eq_true hdd
  have hL9' := Nat.le_of_ble_eq_true hL9
  have ho1 : ∀ x ∈ (2, 0) :: as, z_ok x := z_op ho trivial
  have hM := z_C_heap (X := l_X l D A s.heap.size aK aV 18 H) (d := d') (mc := 0) (ms := 0) (M := M') (as := (2, 0) :: as) (N := 98) (σ := kS_F) (g := gx) (Q := fun h' r N' σ' g' => N' = 98 ∧ σ' = kS_F ∧ Qh h' r g') K
  have hB : CallB room_1 s #[Value.ref b] R_law idx (z_y M') (z_c M') (z_n M') (z_r M') (z_ws M') (z_R d' 0 0) 0 0 n := callB_of n hts (z_wsg hi) rfl rfl rfl (hts _ hi.2.2.1) (hts _ hl) ⟨hi.2.2.2.1.1, hi.2.2.2.1.2, hi.2.2.2.2⟩ ⟨by show d' + 1 ≤ 2048; omega, by show 8 + (z_n M' + 11) + 64 * d' ≤ 84000; omega⟩
  have run := va_runV (g := F0 m pc Lc ((as.map (z_v (l_X l D A s.heap.size aK aV 18 H))).reverse ++ .ref s.heap.size :: st)) (C := "FareyRank") (b := s.heap.size) (e := e) (locs := locs) (cells := 116) (slots := 100000) (below := below) (meth := meth) (H := H) (As := as.map (z_v (l_X l D A s.heap.size aK aV 18 H))) (rest := st) (cc := code) (nL := 4) (own := R_law) (Ts := z_tb) ⟨C0.1, C0.2.1, C0.2.2.2.1, C0.2.2.2.2.1, hts⟩ hM ⟨hB, hts _ hv, by rw [← hC]; exact hts _ hse⟩
    ⟨z_blind (as := (2, 0) :: as), z_recv (c := 0) (ci := 11) hKX hHX (by decide) rfl rfl, fun U hU hW => ⟨rfl, by rw [hU]; exact hHX, hKX.warm hW, ho1⟩⟩ rfl (by rw [List.length_map]; exact hn) hL.1 rfl (lv_room hcat) hd ⟨by show 116 + 0 ≤ 600000; omega, by show 100000 + 0 ≤ 7302250; omega⟩
  intro T hT XX
  obtain ⟨v, st₀, t, T', L', h0', X', hL', e1, e2, ⟨r, N', σ', g', hv', hro, ⟨q1, q2, q3⟩, hH'⟩, stp⟩ := run T hT XX
  subst q1; subst q2
  cases hv'
  obtain ⟨t2, a1, b1⟩ := k r g' T'.heap hro (l_HX' hH (by rw [e1]; exact hH')) (by rw [e1]; exact q3) (locs ++ L') Lc hL (fun q h => (List.mem_append.mp h).elim (hq q) (hL' q)) T' rfl X'
  exact ⟨t2, stp t2 a1, b1⟩
/-- the reference is called -/
theorem l_callY (C0 : lw_At p s m meth c b L xs) {tl : Nat} (hK : z_K (l_X l D A s.heap.size aK aV tl s.heap) s) (hH : l_H l D A s.heap.size aK aV s.heap gx gm H) {M' : z_M} {as : List z_t} {st : List Value} {n d' idx pc : Nat} {i : Int} {Q : z_P} (hd : decode code pc = .ok (.invokevirtual idx, 3)) (hi : z_mi M' n) (hl : Cond.methodLink R_law idx (z_y M') ∈ z_tb) (hv : Cond.instanceMethod (z_y M') ∈ z_tb) (hse : Cond.selects (z_y M').cls (z_y M') (z_y M') ∈ z_tb) (hn : as.length = n) (hL9 : Nat.ble (z_n M') 40 = true) (hC : (z_y M').cls = "FareyRankModel") (ho : ∀ x ∈ as, z_ok x) (hdd : Nat.ble d' 100 = true) (hcat : (st.map fun v => v.category).sum ≤ 8)
    (K : z_O (l_Y l D A s.heap.size aK aV H) d' M' ((2, 0) :: as) 18 kS_M gm Q)
    (k : ∀ r gm' H', z_ro (z_r M') r → l_H l D A s.heap.size aK aV s.heap gx gm' H' → Q r gm' → l_J p l e s m below meth c b (pc + 3) i ((z_rv (l_Y l D A s.heap.size aK aV H) (z_r M') r).toList ++ st) H') : l_J p l e s m below meth c b pc i ((as.map (z_v (l_Y l D A s.heap.size aK aV H))).reverse ++ .ref (s.heap.size + 98) :: st) H := fun locs Lc hL hq => by
  have hts : ∀ w ∈ z_tb, w.before #[Value.ref b] s = true := fun w hw => l_wd C0 hw
  have hKY : z_K (l_Y l D A s.heap.size aK aV H) s := l_KY hK hH.2.1
  have hHY := l_HY hH
  have hd9 := Nat.le_of_ble_eq_true hdd
  have hL9' := Nat.le_of_ble_eq_true hL9
  have ho1 : ∀ x ∈ (2, 0) :: as, z_ok x := z_op ho trivial
  have hM : Met (z_l (l_Y l D A s.heap.size aK aV H)) (z_y M') (z_ws M') (z_R d' 0 0) (va_Pc (((2, 0) :: as).map (z_v (l_Y l D A s.heap.size aK aV H))) (fun U => z_H (l_Y l D A s.heap.size aK aV H) 18 kS_M gm U.heap ∧ z_K (l_Y l D A s.heap.size aK aV H) U ∧ ∀ x ∈ (2, 0) :: as, z_ok x)) (z_Qc (l_Y l D A s.heap.size aK aV H) M' (fun r N' σ' g' => N' = 18 ∧ σ' = kS_M ∧ Q r g')) 0 0 (fun q => z_b (l_Y l D A s.heap.size aK aV H) ≤ q) := K
  have hB : CallB room_1 s #[Value.ref b] R_law idx (z_y M') (z_c M') (z_n M') (z_r M') (z_ws M') (z_R d' 0 0) 0 0 n := callB_of n hts (z_wsg hi) rfl rfl rfl (hts _ hi.2.2.1) (hts _ hl) ⟨hi.2.2.2.1.1, hi.2.2.2.1.2, hi.2.2.2.2⟩ ⟨by show d' + 1 ≤ 2048; omega, by show 8 + (z_n M' + 11) + 64 * d' ≤ 84000; omega⟩
  have run := va_runV (g := F0 m pc Lc ((as.map (z_v (l_Y l D A s.heap.size aK aV H))).reverse ++ .ref (s.heap.size + 98) :: st)) (C := "FareyRankModel") (b := s.heap.size + 98) (e := e) (locs := locs) (cells := 116) (slots := 100000) (below := below) (meth := meth) (H := H) (As := as.map (z_v (l_Y l D A s.heap.size aK aV H))) (rest := st) (cc := code) (nL := 4) (own := R_law) (Ts := z_tb) ⟨C0.1, C0.2.1, C0.2.2.2.1, C0.2.2.2.2.1, hts⟩ hM ⟨hB, hts _ hv, by rw [← hC]; exact hts _ hse⟩
    ⟨z_blind (as := (2, 0) :: as), z_recv (c := 0) (ci := 12) hKY hHY (by decide) rfl rfl, fun U hU hW => ⟨rfl, by rw [hU]; exact hHY, hKY.warm hW, ho1⟩⟩ rfl (by rw [List.length_map]; exact hn) hL.1 rfl (lv_room hcat) hd ⟨by show 116 + 0 ≤ 600000; omega, by show 100000 + 0 ≤ 7302250; omega⟩
  intro T hT XX
  obtain ⟨v, st₀, t, T', L', h0', X', hL', e1, e2, ⟨r, N', σ', g', hv', hro, ⟨q1, q2, q3⟩, hH'⟩, stp⟩ := run T hT XX
  subst q1; subst q2
  cases hv'
  obtain ⟨t2, a1, b1⟩ := k r g' T'.heap hro (l_HY' hH (by rw [e1]; exact hH')) q3 (locs ++ L') Lc hL (fun q h => (List.mem_append.mp h).elim (hq q) (fun h => Nat.le_trans (Nat.le_add_right _ 98) (hL' q h))) T' rfl X'
  exact ⟨t2, stp t2 a1, b1⟩
theorem l_cmpI (C0 : lw_At p s m meth c b L xs) {pc tgt : Nat} {i r off : Int} (hd : decode code pc = .ok (.if_icmp .eq off, 3)) (ht : (pc : Int) + off = (tgt : Int)) (k : l_J p l e s m below meth c b tgt i [] H) : l_J p l e s m below meth c b pc i [.int (Int32.ofInt r), .int (Int32.ofInt r)] H := fun locs Lc hL hq => lv_icmp_eq C0.1 C0.2.1 hd ht (fun _ => k locs Lc hL hq) (fun h => absurd rfl h)
theorem l_cmpJ (C0 : lw_At p s m meth c b L xs) {pc tgt : Nat} {i r off : Int} (hd : decode code pc = .ok (.lcmp, 1)) (hd1 : decode code (pc + 1) = .ok (.ifCond .eq off, 3)) (ht : ((pc + 1 : Nat) : Int) + off = (tgt : Int)) (k : l_J p l e s m below meth c b tgt i [] H) : l_J p l e s m below meth c b pc i [.long (Int64.ofInt r), .long (Int64.ofInt r)] H := fun locs Lc hL hq => by
  refine W.lcmp C0.1 C0.2.1 hd (lv_if_eq C0.1 C0.2.1 hd1 ht (fun _ => k locs Lc hL hq) (fun h => absurd ?_ h))
  simp [lg_cmp]
theorem l_next (C0 : lw_At p s m meth c b L xs) {i : Int} (hd : decode code 2134 = .ok (.iinc 3 6, 3)) (hd1 : decode code 2137 = .ok (.goto (-2119), 3)) (k : l_J p l e s m below meth c b 18 (i + 6) [] H) : l_J p l e s m below meth c b 2134 i [] H := fun locs Lc hL hq => by
  refine lv_iinc (k := 3) C0.1 C0.2.1 hd hL rfl (v := Int32.ofInt (i + 6)) (by rw [Int32.ofInt_add]) (by decide) rfl fun L' hL' => lv_goto (tgt := 18) C0.1 C0.2.1 hd1 (by decide) (k locs L' (lv_sub hL' [1, 2, 3, 0] rfl) hq)
end LW

/-! ## the law from its entry -/
section LMk
variable {p : Program} {l : Launch} {e : Env} {s : State} {m : MethodId} {below : List Frame} {meth : Method} {c : Code} {b L : Nat} {xs : Nat → Int32}
/-- an object of a class is made and its constructor run -/
theorem l_make (C0 : lw_At p s m meth c b L xs) {X : z_X} (eX : z_l X = l) (hK : z_K X s) (ht : z_tl X = 0) {H : Heap} (h0 : z_H X 0 (fun _ _ => -1) (fun _ _ => 0) H) {Cn : String} {T : u_T} {n ci idx idx2 mc' ms' pc cells slots : Nat} {ty : Nat → FieldType} {M' : z_M} {locs : List Loc} {Lc : Array Slot} {Z : State → Prop} {Q : z_Q}
    (d0 : decode code pc = .ok (.new idx, 3)) (d1 : decode code (pc + 3) = .ok (.dup, 1)) (d2 : decode code (pc + 3 + 1) = .ok (.invokespecial idx2, 3)) (hC : vwCl[ci]? = some (Cn, T, n)) (hnf : z_nf ci = n) (hin : ∀ w ∈ u_ws Cn T n, w ∈ z_tb) (hty : ∀ k, k < n → parseFieldDescriptor (T k).2.2.1 = some (ty k)) (hdf : ∀ k, k < n → (match z_fk ci k with | 1 => Value.long 0 | 2 => .null | _ => .int 0) = defaultValue (ty k)) (hcl : Cond.classLink R_law idx Cn ∈ z_tb) (hi : Cond.instantiable Cn n ∈ z_tb) (hini : Cond.initialized Cn ∈ z_tb) (hs : z_sh X 0 = (0, ci))
    (mi : z_mi M' 0) (ml : Cond.methodLink R_law idx2 (z_y M') ∈ z_tb) (mv : Cond.instanceMethod (z_y M') ∈ z_tb) (hnm : (z_y M').name = "<init>") (hrt : z_r M' = none) (hL9 : Nat.ble (z_n M') 40 = true) (hcells : cells + 1 + mc' ≤ 600000) (hslots : slots + n + ms' ≤ 7302250) (hLs : Lc.size = 4)
    (K : z_C X 8 mc' ms' M' [(2, 0)] 1 kM1 kZ Q)
    (k : ∀ r N' σ' g' H' L', Q r N' σ' g' → z_H X N' σ' g' H' → (∀ q ∈ L', z_b X ≤ q.base) → W p l e room_1 s m #[Value.ref b] below meth c H' (locs ++ L') (cells + 1 + mc') (slots + n + ms') Z (F0 m (pc + 3 + 1 + 3) Lc [.ref (z_b X)])) : W p l e room_1 s m #[Value.ref b] below meth c H locs cells slots Z (F0 m pc Lc []) := by
  subst eX
  have hts : ∀ w ∈ z_tb, w.before #[Value.ref b] s = true := fun w hw => l_wd C0 hw
  have hKn := hK.1.1 ci _ hC
  have hsz : H.size = z_b X := by have h := h0.1; rw [ht] at h; exact h
  have hL9' := Nat.le_of_ble_eq_true hL9
  refine W.newcK C0.1 C0.2.1 C0.2.2.2.2.1 (hts _ hcl) (hts _ hi) (hts _ hini) rfl d0 (by show cells + 1 ≤ 600000; omega) (by show slots + n ≤ 7302250; omega) hKn.2.1 hsz fun H1 kC hkC e1 z1 o1 => ?_
  have hH1 : z_H X 1 kM1 kZ H1 := by
    refine z_grow h0 ht (by omega) (fun q hq => o1 q (by omega)) ?_
    unfold z_cl; rw [hs]
    refine ⟨?_, fun k hk => ?_⟩
    · show t_OB (z_b X + 0) ((z_D X).1 ci) (z_nf ci) ((z_D X).2 ci) H1 (z_fv X ci (fun _ => -1) (fun _ => 0))
      rw [hnf]
      refine (u_born ty hts hin hKn hkC e1 hty).to fun k hk => ?_
      rw [← hdf k hk]
      unfold z_fv
      generalize z_fk ci k = t
      match t with
      | 0 => rfl
      | 1 => rfl
      | 2 => rfl
      | (n + 3) => rfl
    · show z_rg (z_fk ci k) 0
      generalize z_fk ci k = t
      unfold z_rg
      split <;> first | trivial | exact ⟨by decide, by decide⟩
  refine lv_dup C0.1 C0.2.1 d1 rfl ?_
  have ho1 : ∀ x ∈ [((2, 0) : z_t)], z_ok x := z_op (fun _ h => by cases h) trivial
  have hmap : [((2, 0) : z_t)].map (z_v X) = [.ref (z_b X + 0)] := z_mrn (as := []) (r := 0) (c := 0) rfl
  have hkk := K
  unfold z_C at hkk
  rw [hmap] at hkk
  have hb := z_blind (X := X) (N := 1) (σ := kM1) (g := kZ) (as := [((2, 0) : z_t)])
  rw [hmap] at hb
  have hB : CallB room_1 s #[Value.ref b] R_law idx2 (z_y M') (z_c M') (z_n M') (z_r M') (z_ws M') (z_R 8 mc' ms') mc' ms' 0 := callB_of 0 hts (z_wsg mi) rfl rfl rfl (hts _ mi.2.2.1) (hts _ ml) ⟨mi.2.2.2.1.1, mi.2.2.2.1.2, mi.2.2.2.2⟩ ⟨by show 8 + 1 ≤ 2048; omega, by show 8 + (z_n M' + 11) + 64 * 8 ≤ 84000; omega⟩
  rw [hrt] at hB
  have run := va_runI (g := F0 m (pc + 3 + 1) Lc [.ref (z_b X + 0), .ref (z_b X)]) (b := z_b X + 0) (e := e) (locs := locs) (cells := cells + 1) (slots := slots + n) (below := below) (meth := meth) (H := H1) (As := []) (rest := [.ref (z_b X)]) (cc := code) (nL := 4) (own := R_law) (Ts := z_tb) ⟨C0.1, C0.2.1, C0.2.2.2.1, C0.2.2.2.2.1, hts⟩ hkk ⟨hB, hnm, hts _ mv⟩ ⟨hb, fun U hU hW => ⟨rfl, by rw [hU]; exact hH1, hK.warm hW, ho1⟩⟩ rfl rfl hLs rfl (lv_room (by simp [Value.category])) d2 ⟨hcells, hslots⟩
  intro T hT XX
  obtain ⟨v, st₀, t, T', L', h0', X', hL', e1, e2, ⟨r, N', σ', g', hv', hro, q3, hH'⟩, stp⟩ := run T hT XX
  rw [hrt] at hv'
  cases hv'
  obtain ⟨t2, a1, b1⟩ := k r N' σ' g' T'.heap L' q3 (by rw [e1]; exact hH') hL' T' rfl X'
  exact ⟨t2, stp t2 a1, b1⟩
end LMk
/-- THE LAW, from its entry -/
theorem whole_start {p : Program} {e : Env} {s : State} {m : MethodId} {below : List Frame} {meth : Method} {c : Code} (l : Launch) (hflags : l.flags = flags0) {b L : Nat} {xs : Nat → Int32} (hL : L ≤ 3072) (C0 : lw_At p s m meth c b L xs) : W p l e room_1 s m #[Value.ref b] below meth c s.heap [] 0 0 (lw_Z below #[Value.ref b] s) (entryFrame m ([Value.ref b] : List Value).toArray 4) := by
  obtain ⟨D, A, aK, aV, hK⟩ := s_K (l := l) C0
  have hl := lv_entry ([.ref b]) (n := 4) (Nat.le_of_ble_eq_true rfl)
  rw [lg_entry_eq]
  generalize (lg_sl ([.ref b]) ++ List.replicate (4 - (lg_sl ([.ref b])).length) Slot.unset).toArray = ls at hl ⊢
  have hl : lv_has ls 4 [(0, .ref b)] := hl
  refine l_make C0 (X := l_X l D A s.heap.size aK aV 0 s.heap) rfl hK rfl ⟨rfl, fun _ _ => rfl, fun c hc => absurd hc (Nat.not_lt_zero c)⟩ (ci := 11) (ty := tyX11) (M' := m_F_init) (mc' := 97) (ms' := 4653) dl_0 dl_3 dl_4 rfl rfl z_ly11 z_ty11 z_df11 w_cl_Law_7 w_in_F w_it_F rfl mi_F_init ml_Law_9 mv_F_init rfl rfl rfl (Nat.le_of_ble_eq_true rfl) (Nat.le_of_ble_eq_true rfl) hl.1 (Q := fun _ N' σ' g' => N' = 98 ∧ σ' = kS_F ∧ kF0 g') (s_F_init rfl rfl rfl rfl rfl rfl rfl rfl rfl rfl rfl rfl rfl rfl rfl rfl rfl rfl rfl rfl rfl rfl rfl rfl rfl rfl rfl rfl rfl rfl rfl rfl rfl rfl rfl rfl rfl rfl rfl rfl rfl rfl rfl rfl rfl rfl rfl rfl rfl rfl rfl rfl rfl rfl rfl rfl rfl rfl rfl rfl rfl rfl rfl rfl rfl rfl rfl rfl rfl rfl rfl rfl rfl rfl rfl rfl rfl rfl rfl rfl rfl rfl rfl rfl rfl rfl rfl rfl rfl rfl rfl rfl rfl rfl rfl rfl rfl rfl rfl fun g hg => ⟨rfl, rfl, hg⟩) fun r N' σ' gx H2 L2 hq2 hH2 hL2 => ?_
  obtain ⟨rfl, rfl, hF⟩ := hq2
  have hB2 : ∀ q : Nat, q < s.heap.size → H2[q]? = s.heap[q]? := fun q hq => hH2.2.1 q (Or.inl hq)
  show W p l e room_1 s m #[Value.ref b] below meth c H2 ([] ++ L2) 98 4671 (lw_Z below #[Value.ref b] s) (F0 m 7 ls [.ref s.heap.size])
  refine lv_astore_n (lv' := [(1, .ref s.heap.size), (0, .ref b)]) C0.1 C0.2.1 dl_7 rfl hl (by decide) rfl (fun ls hl => ?_)
  refine l_make C0 (X := l_Y l D A s.heap.size aK aV H2) rfl (l_KY hK hB2) rfl ⟨hH2.1, fun _ _ => rfl, fun c hc => absurd hc (Nat.not_lt_zero c)⟩ (ci := 12) (ty := tyX12) (M' := m_M_init) (mc' := 17) (ms' := 33008) dl_8 dl_11 dl_12 rfl rfl z_ly12 z_ty12 z_df12 w_cl_Law_10 w_in_M w_it_M rfl mi_M_init ml_Law_12 mv_M_init rfl rfl rfl (Nat.le_of_ble_eq_true rfl) (Nat.le_of_ble_eq_true rfl) hl.1 (Q := fun _ N' σ' g' => N' = 18 ∧ σ' = kS_M ∧ kM0 g') (s_M_init rfl rfl rfl rfl rfl rfl rfl rfl rfl rfl rfl rfl rfl rfl rfl rfl rfl rfl rfl fun g hg => ⟨rfl, rfl, hg⟩) fun r N' σ' gm H4 L4 hq4 hH4 hL4 => ?_
  obtain ⟨rfl, rfl, hM⟩ := hq4
  show W p l e room_1 s m #[Value.ref b] below meth c H4 ([] ++ L2 ++ L4) 116 37721 (lw_Z below #[Value.ref b] s) (F0 m 15 ls [.ref (s.heap.size + 98)])
  refine lv_astore_n (lv' := [(2, .ref (s.heap.size + 98)), (1, .ref s.heap.size), (0, .ref b)]) C0.1 C0.2.1 dl_15 rfl hl (by decide) rfl (fun ls hl => ?_)
  refine lv_iconst (v := Int32.ofInt 0) C0.1 C0.2.1 dl_16 rfl ?_
  refine lv_istore_n (lv' := [(3, .int (Int32.ofInt 0)), (2, .ref (s.heap.size + 98)), (1, .ref s.heap.size), (0, .ref b)]) C0.1 C0.2.1 dl_17 rfl hl (by decide) rfl (fun ls hl => ?_)
  have hHH : l_H l D A s.heap.size aK aV s.heap gx gm H4 := by
    obtain ⟨a1, a2, a3⟩ := hH2
    obtain ⟨b1, b2, b3⟩ := hH4
    refine ⟨b1, fun q hq => (b2 q (Or.inl (show q < s.heap.size + 98 by omega))).trans (hB2 q hq), fun c hc => z_cl_kept (a3 c hc) (b2 _ (Or.inl ?_)), b3⟩
    show s.heap.size + c < s.heap.size + 98
    omega
  refine W.widen (k := 116) (n := 100000) (Nat.le_refl _) (Nat.le_of_ble_eq_true rfl) ?_
  exact l_loop C0 hL hK 512 0 gx gm H4 (by omega) (by omega) (by omega) hHH (s_Inv hF hM) _ ls (lv_sub hl [3, 2, 1, 0] rfl) (fun q hq => (List.mem_append.mp hq).elim (fun h => (List.mem_append.mp h).elim (fun h => by cases h) (hL2 q)) (fun h => Nat.le_trans (Nat.le_add_right _ 98) (hL4 q h)))

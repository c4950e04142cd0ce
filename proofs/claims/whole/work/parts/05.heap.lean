/-! fields and arrays -/
theorem z_cl_kept {X : z_X} {c : Nat} {σ g : Int → Int} {H H' : Heap} (h : z_cl X c σ g H) (hq : H'[z_b X + c]? = H[z_b X + c]?) : z_cl X c σ g H' := by
  unfold z_cl at h ⊢
  split
  · rename_i h0
    rw [if_pos h0] at h
    exact ⟨h.1.kept hq, h.2⟩
  · rename_i h0
    rw [if_neg h0] at h
    exact ⟨hq.trans h.1, h.2⟩
theorem z_H_set {X : z_X} {N c : Nat} {σ g σ' g' : z_G} {H H' : Heap} (hH : z_H X N σ g H) (hc : c < N) (hsz : H'.size = H.size) (ho : ∀ q : Nat, q ≠ z_b X + c → H'[q]? = H[q]?) (hσ : ∀ c', c' ≠ c → σ' c' = σ c') (hg : ∀ c', c' ≠ c → g' c' = g c') (hcl : z_cl X c (σ' c) (g' c) H') : z_H X N σ' g' H' := by
  refine ⟨hsz.trans hH.1, fun q hq => (ho q (by omega)).trans (hH.2.1 q hq), fun c' hc' => ?_⟩
  by_cases h : c' = c
  · subst h; exact hcl
  · rw [hσ c' h, hg c' h]
    exact z_cl_kept (hH.2.2 c' hc') (ho _ (by omega))
theorem z_up_ne {g : z_G} {c c' : Nat} {i v : Int} (h : c' ≠ c) : z_up g c i v c' = g c' := by
  funext j; unfold z_up; rw [if_neg (fun q => h q.1)]
theorem z_up_at {g : z_G} {c : Nat} {i v : Int} : z_up g c i v c = fun j => if j = i then v else g c j := by
  funext j; unfold z_up; by_cases h : j = i <;> simp [h]
theorem z_obj {X : z_X} {N c ci : Nat} {σ g : z_G} {H : Heap} (hH : z_H X N σ g H) (hc : c < N) (hs : z_sh X c = (0, ci)) : t_OB (z_b X + c) ((z_D X).1 ci) (z_nf ci) ((z_D X).2 ci) H (z_fv X ci (σ c) (g c)) ∧ ∀ k : Nat, k < z_nf ci → z_rg (z_fk ci k) (g c k) := by
  have h := hH.2.2 c hc
  unfold z_cl at h
  rw [hs] at h
  exact h
theorem z_arr {X : z_X} {N c t n : Nat} {σ g : z_G} {H : Heap} (hH : z_H X N σ g H) (hc : c < N) (hs : z_sh X c = (t + 1, n)) : H[z_b X + c]? = some (arrV (z_A X (t + 1)) n (z_ev X (t + 1) (σ c) (g c))) ∧ ∀ j : Nat, j < n → z_rg (z_et (t + 1)) (g c j) := by
  have h := hH.2.2 c hc
  unfold z_cl at h
  rw [hs] at h
  exact h
section ZH
variable {X : z_X} {d mc ms : Nat} {M : z_M} {pc : Nat} {ls : z_L} {st : List z_t} {uc us N : Nat} {σ g : z_G} {Q : z_Q}
variable {p : Program} {e : Env} {s : State} {m : MethodId} {args : Array Value} {below : List Frame} {meth : Method} {c0 : Code} {H : Heap} {locs : List Loc} {L : Array Slot} {R : Room} {P : State → Prop} {rest : List Value}
theorem z_getW {C : String} {T : u_T} {n ci k t idx c : Nat} {fin : Bool} (F : z_F X M p s m args meth c0) (hH : z_H X N σ g H) (hd : decode (z_c M) pc = .ok (.getfield idx, 3)) (hf : z_fd C T n ci k t fin) (hw : z_lk (z_y M).cls idx C T k) (hs : z_sh X c = (0, ci)) (hc : c < N)
    (kk : W p (z_l X) e R s m args below meth c0 H locs uc us P (F0 m (pc + 3) L (z_fv X ci (σ c) (g c) k :: rest))) : W p (z_l X) e R s m args below meth c0 H locs uc us P (F0 m pc L (.ref (z_b X + c) :: rest)) := by
  obtain ⟨h1, h2, h3, h4, h5, h6, -⟩ := hf
  obtain ⟨ho, -⟩ := z_obj hH hc hs
  refine va_get (D := z_D X) (cl := vwCl) (tys := z_tys X) (ws := [(z_b X + c, .inr (ci, (List.range n).map (z_fv X ci (σ c) (g c))))]) F.1 F.2.1 F.2.2.2.2.2.1 h4 F.2.2.2.2.1 F.2.2.2.2.2.2.2.1.1 ?_ 0 rfl h1 k h2 (ref := C) (F.2.2.2.2.2.1 _ hw) (by rw [h5]; exact fun _ h => h) ?_ hd kk
  · intro j q hj
    cases j with
    | succ j => simp at hj
    | zero =>
      cases hj
      refine ⟨_, h1, ?_⟩
      show t_OB (z_b X + c) ((z_D X).1 ci) n ((z_D X).2 ci) H _
      rw [← h3]
      exact ho.to (fun k hk => by unfold vp_V; rw [List.getD_eq_getElem?_getD, List.getElem?_map, List.getElem?_range (by omega)]; rfl)
  · rw [List.getElem?_map, List.getElem?_range h2]; rfl
theorem z_geti {C : String} {T : u_T} {n ci k t idx c : Nat} {fin : Bool} {r kI : Int} (hd : decode (z_c M) pc = .ok (.getfield idx, 3)) (hf : z_fd C T n ci k t fin) (hw : z_lk (z_y M).cls idx C T k) (ht : t = 0 ∨ t = 5) (hk : (k : Int) = kI) (hr : r = (c : Int)) (hs : z_sh X c = (0, ci)) (hc : c < N)
    (kk : z_V X d mc ms M (pc + 3) ls ((0, g c kI) :: st) uc us N σ g Q) : z_V X d mc ms M pc ls ((2, r) :: st) uc us N σ g Q := by
  intro p e s m args below meth c9 H locs L F hL hl ho hH hq
  rw [List.map_cons, z_mr hr]
  refine z_getW F hH hd hf hw hs hc ?_
  obtain ⟨h1, h2, h3, h4, h5, h6, -⟩ := hf
  have hg := (z_obj hH hc hs).2 k (by omega)
  subst hk
  have h9 := kk p e s m args below meth c9 H locs L F hL hl (z_o1 ho ?_) hH hq
  · have e : z_fv X ci (σ c) (g c) k = z_v X (0, g c (k : Int)) := by
      unfold z_fv; rw [h6]; rcases ht with rfl | rfl <;> rfl
    rw [e]
    exact h9
  · rw [h6] at hg
    rcases ht with rfl | rfl
    · exact hg
    · have hg1 : 0 ≤ g c (k : Int) ∧ g c (k : Int) ≤ 1 := hg
      exact (⟨by omega, by omega⟩ : -2147483648 ≤ g c (k : Int) ∧ g c (k : Int) ≤ 2147483647)
theorem z_getl {C : String} {T : u_T} {n ci k t idx c : Nat} {fin : Bool} {r kI : Int} (hd : decode (z_c M) pc = .ok (.getfield idx, 3)) (hf : z_fd C T n ci k t fin) (hw : z_lk (z_y M).cls idx C T k) (ht : t = 1) (hk : (k : Int) = kI) (hr : r = (c : Int)) (hs : z_sh X c = (0, ci)) (hc : c < N)
    (kk : z_V X d mc ms M (pc + 3) ls ((1, g c kI) :: st) uc us N σ g Q) : z_V X d mc ms M pc ls ((2, r) :: st) uc us N σ g Q := by
  intro p e s m args below meth c9 H locs L F hL hl ho hH hq
  rw [List.map_cons, z_mr hr]
  refine z_getW F hH hd hf hw hs hc ?_
  obtain ⟨h1, h2, h3, h4, h5, h6, -⟩ := hf
  have hg := (z_obj hH hc hs).2 k (by omega)
  subst hk
  subst ht
  rw [h6] at hg
  have h9 := kk p e s m args below meth c9 H locs L F hL hl (z_o1 ho hg) hH hq
  have e : z_fv X ci (σ c) (g c) k = z_v X (1, g c (k : Int)) := by unfold z_fv; rw [h6]; rfl
  rw [e]
  exact h9
theorem z_getr {C : String} {T : u_T} {n ci k t idx c : Nat} {fin : Bool} {r kI r2 : Int} (hd : decode (z_c M) pc = .ok (.getfield idx, 3)) (hf : z_fd C T n ci k t fin) (hw : z_lk (z_y M).cls idx C T k) (ht : t = 2) (hk : (k : Int) = kI) (hr : r = (c : Int)) (hs : z_sh X c = (0, ci)) (hc : c < N) (h2 : σ c kI = r2)
    (kk : z_V X d mc ms M (pc + 3) ls ((2, r2) :: st) uc us N σ g Q) : z_V X d mc ms M pc ls ((2, r) :: st) uc us N σ g Q := by
  intro p e s m args below meth c9 H locs L F hL hl ho hH hq
  rw [List.map_cons, z_mr hr]
  refine z_getW F hH hd hf hw hs hc ?_
  obtain ⟨h1, -, h3, h4, h5, h6, -⟩ := hf
  subst hk
  subst ht
  have h9 := kk p e s m args below meth c9 H locs L F hL hl (z_o1 ho trivial) hH hq
  have e : z_fv X ci (σ c) (g c) k = z_v X (2, r2) := by unfold z_fv; rw [h6, ← h2]; rfl
  rw [e]
  exact h9
/-- a store into a field, at the machine -/
theorem z_putW {C : String} {T : u_T} {n ci k t idx c : Nat} {fin : Bool} {v : Value} {ty : FieldType} {σ' g' : z_G} (F : z_F X M p s m args meth c0) (hH : z_H X N σ g H) (hd : decode (z_c M) pc = .ok (.putfield idx, 3)) (hf : z_fd C T n ci k t fin) (hw : z_lk (z_y M).cls idx C T k) (hfin : fin = false ∨ ((z_y M).name = "<init>" ∧ C = (z_y M).cls)) (hs : z_sh X c = (0, ci)) (hc : c < N)
    (hty : parseFieldDescriptor (T k).2.2.1 = some ty) (hn : narrow ty v = v) (hfit : fits ty v = true) (hσ : ∀ c', c' ≠ c → σ' c' = σ c') (hg : ∀ c', c' ≠ c → g' c' = g c') (hv : ∀ j, j < n → z_fv X ci (σ' c) (g' c) j = if j = k then v else z_fv X ci (σ c) (g c) j) (hrg : ∀ j : Nat, j < n → z_rg (z_fk ci j) (g' c j))
    (kk : ∀ (H' : Heap) (l' : Loc), z_H X N σ' g' H' → z_b X ≤ l'.base → W p (z_l X) e R s m args below meth c0 H' (locs ++ [l']) uc us P (F0 m (pc + 3) L rest)) : W p (z_l X) e R s m args below meth c0 H locs uc us P (F0 m pc L (v :: .ref (z_b X + c) :: rest)) := by
  obtain ⟨h1, h2, h3, h4, h5, h6, h7, h8, ty0, hty0⟩ := hf
  obtain ⟨⟨cell, q1, q2, q3, q4⟩, -⟩ := z_obj hH hc hs
  rw [h3] at q4
  have hK := F.2.2.2.2.2.2.2.1.1
  have hts := F.2.2.2.2.2.1
  have hown := F.2.2.2.2.1
  have hap := va_apart (own := (z_y M).cls) (args := args) hts h4 ty0 hty0 h8 hK h1
  obtain ⟨hS, hfc, kC, hkC, hkind⟩ := hK.1 ci _ h1
  obtain ⟨cf, kf, fi, f, hi, hsl⟩ := hS k h2
  have hsame : s.fieldFound? C (T k).2.1 (T k).2.2.1 = some (cf, kf, fi, f) := by rw [← h5]; exact hi
  have hst := (u_facts hfc hkC (u_lays hts h4 h2) hi).1
  have fin9 : ∀ H' : Heap, H'[z_b X + c]? = some (cell.setSlot f.slot v) → H'.size = H.size → (∀ q, q ≠ z_b X + c → H'[q]? = H[q]?) → z_H X N σ' g' H' := by
    intro H' e1 e2 e3
    refine z_H_set hH hc e2 e3 hσ hg ?_
    unfold z_cl
    rw [hs]
    rw [hsl] at e1
    refine ⟨t_OB.to (V := updV (z_fv X ci (σ c) (g c)) k v) ⟨_, e1, q2, q3, ?_⟩ (fun j hj => ?_), fun j hj => hrg j (by rw [h3] at hj; exact hj)⟩
    · rw [h3]; exact t_set q4 hap h2 v
    · rw [hv j (by rw [h3] at hj; exact hj)]; rfl
  rcases Bool.eq_false_or_eq_true fin with hb | hb
  · rcases hfin with hfin | ⟨hin2, hdecl⟩
    · rw [hb] at hfin; cases hfin
    · have hlay := hts _ (h4 _ (u_in_lay h2))
      unfold u_lay at hlay
      rw [if_pos (h7.trans hb)] at hlay
      have hcf : m.cls = cf := by
        obtain ⟨_, _, c', _, _, _, -, -, hf', -, -, -, hown2, -⟩ := Cond.laysFinal_spec hlay
        have e1 : c' = cf := by have := hi.symm.trans hf'; simp at this; exact this.1.symm
        rw [h5, hdecl] at hown2
        rw [← e1]; exact Option.some.inj (hown.symm.trans hown2)
      have h9 := u_fits hfc hkC hkind (Or.inr hlay) hi hty hn hfit
      exact W.putFinK F.1 F.2.1 hown (hts _ hw) hsame hst hcf (F.2.2.2.2.2.2.2.2.trans hin2) (by rw [q2]; exact h9) q1 q3 (by rw [hsl]; exact k2_hasslot (q4 k h2)) rfl rfl hd fun H' e1 e2 e3 => kk H' _ (fin9 H' e1 e2 e3) (Nat.le_add_right _ _)
  · have hlay := hts _ (h4 _ (u_in_lay h2))
    unfold u_lay at hlay
    rw [if_neg (by rw [h7, hb]; decide)] at hlay
    have h9 := u_store hfc hkC hkind hlay hi hty hn hfit
    exact W.putK F.1 F.2.1 (f := f) ⟨hown, hts _ hw, ⟨_, _, _, hsame⟩, hst⟩ (by rw [q2]; exact h9) q1 q3 (by rw [hsl]; exact k2_hasslot (q4 k h2)) rfl rfl hd fun H' e1 e2 e3 => kk H' _ (fin9 H' e1 e2 e3) (Nat.le_add_right _ _)
theorem z_lq {l' : Loc} (hq : ∀ q ∈ locs, z_b X ≤ q.base) (h : z_b X ≤ l'.base) : ∀ q ∈ locs ++ [l'], z_b X ≤ q.base := fun q hq' => by
  rcases List.mem_append.mp hq' with h1 | h1
  · exact hq q h1
  · rw [List.mem_singleton.mp h1]; exact h
theorem z_puti {C : String} {T : u_T} {n ci k t idx c : Nat} {fin : Bool} {r kI v : Int} (hd : decode (z_c M) pc = .ok (.putfield idx, 3)) (hf : z_fd C T n ci k t fin) (hw : z_lk (z_y M).cls idx C T k) (hty : parseFieldDescriptor (T k).2.2.1 = some .int) (ht : t = 0) (hfin : fin = false) (hk : (k : Int) = kI) (hr : r = (c : Int)) (hs : z_sh X c = (0, ci)) (hc : c < N)
    (kk : z_V X d mc ms M (pc + 3) ls st uc us N σ (z_up g c kI v) Q) : z_V X d mc ms M pc ls ((0, v) :: (2, r) :: st) uc us N σ g Q := by
  intro p e s m args below meth c9 H locs L F hL hl ho hH hq
  rw [List.map_cons, List.map_cons, z_mr hr]
  subst hk; subst ht
  refine z_putW (v := .int (Int32.ofInt v)) (ty := .int) (σ' := σ) (g' := z_up g c k v) F hH hd hf hw (Or.inl hfin) hs hc hty rfl rfl (fun _ _ => rfl) (fun _ h => z_up_ne h) ?_ ?_ fun H' l' h1 h2 => kk p e s m args below meth c9 H' _ L F hL hl (z_ot (z_ot ho)) h1 (z_lq hq h2)
  · intro j hj
    rw [z_up_at]
    by_cases h : j = k
    · subst h; rw [if_pos rfl]; unfold z_fv; rw [hf.2.2.2.2.2.1]; simp
    · rw [if_neg h]; unfold z_fv; dsimp only; rw [if_neg (by omega)]
  · intro j hj
    rw [z_up_at]
    by_cases h : j = k
    · subst h; simp only [if_true]; rw [hf.2.2.2.2.2.1]; exact z_oh ho
    · show z_rg _ (if (j : Int) = (k : Int) then v else g c j)
      rw [if_neg (by omega)]; exact (z_obj hH hc hs).2 j (by rw [hf.2.2.1]; exact hj)
theorem z_putz {C : String} {T : u_T} {n ci k t idx c : Nat} {fin : Bool} {r kI v : Int} (hd : decode (z_c M) pc = .ok (.putfield idx, 3)) (hf : z_fd C T n ci k t fin) (hw : z_lk (z_y M).cls idx C T k) (hty : parseFieldDescriptor (T k).2.2.1 = some .boolean) (ht : t = 5) (hfin : fin = false) (hk : (k : Int) = kI) (hr : r = (c : Int)) (hs : z_sh X c = (0, ci)) (hc : c < N) (hv : v = 0 ∨ v = 1)
    (kk : z_V X d mc ms M (pc + 3) ls st uc us N σ (z_up g c kI v) Q) : z_V X d mc ms M pc ls ((0, v) :: (2, r) :: st) uc us N σ g Q := by
  intro p e s m args below meth c9 H locs L F hL hl ho hH hq
  rw [List.map_cons, List.map_cons, z_mr hr]
  subst hk; subst ht
  refine z_putW (v := .int (Int32.ofInt v)) (ty := .boolean) (σ' := σ) (g' := z_up g c k v) F hH hd hf hw (Or.inl hfin) hs hc hty ?_ ?_ (fun _ _ => rfl) (fun _ h => z_up_ne h) ?_ ?_ fun H' l' h1 h2 => kk p e s m args below meth c9 H' _ L F hL hl (z_ot (z_ot ho)) h1 (z_lq hq h2)
  · rcases hv with rfl | rfl <;> decide
  · rcases hv with rfl | rfl <;> decide
  · intro j hj
    rw [z_up_at]
    by_cases h : j = k
    · subst h; rw [if_pos rfl]; unfold z_fv; rw [hf.2.2.2.2.2.1]; simp
    · rw [if_neg h]; unfold z_fv; dsimp only; rw [if_neg (by omega)]
  · intro j hj
    rw [z_up_at]
    by_cases h : j = k
    · subst h; simp only [if_true]; rw [hf.2.2.2.2.2.1]; show 0 ≤ v ∧ v ≤ 1; omega
    · show z_rg _ (if (j : Int) = (k : Int) then v else g c j)
      rw [if_neg (by omega)]; exact (z_obj hH hc hs).2 j (by rw [hf.2.2.1]; exact hj)
theorem z_putl {C : String} {T : u_T} {n ci k t idx c : Nat} {fin : Bool} {r kI v : Int} (hd : decode (z_c M) pc = .ok (.putfield idx, 3)) (hf : z_fd C T n ci k t fin) (hw : z_lk (z_y M).cls idx C T k) (hty : parseFieldDescriptor (T k).2.2.1 = some .long) (ht : t = 1) (hfin : fin = false) (hk : (k : Int) = kI) (hr : r = (c : Int)) (hs : z_sh X c = (0, ci)) (hc : c < N)
    (kk : z_V X d mc ms M (pc + 3) ls st uc us N σ (z_up g c kI v) Q) : z_V X d mc ms M pc ls ((1, v) :: (2, r) :: st) uc us N σ g Q := by
  intro p e s m args below meth c9 H locs L F hL hl ho hH hq
  rw [List.map_cons, List.map_cons, z_mr hr]
  subst hk; subst ht
  refine z_putW (v := .long (Int64.ofInt v)) (ty := .long) (σ' := σ) (g' := z_up g c k v) F hH hd hf hw (Or.inl hfin) hs hc hty rfl rfl (fun _ _ => rfl) (fun _ h => z_up_ne h) ?_ ?_ fun H' l' h1 h2 => kk p e s m args below meth c9 H' _ L F hL hl (z_ot (z_ot ho)) h1 (z_lq hq h2)
  · intro j hj
    rw [z_up_at]
    by_cases h : j = k
    · subst h; rw [if_pos rfl]; unfold z_fv; rw [hf.2.2.2.2.2.1]; simp
    · rw [if_neg h]; unfold z_fv; dsimp only; rw [if_neg (by omega)]
  · intro j hj
    rw [z_up_at]
    by_cases h : j = k
    · subst h; simp only [if_true]; rw [hf.2.2.2.2.2.1]; exact z_oh ho
    · show z_rg _ (if (j : Int) = (k : Int) then v else g c j)
      rw [if_neg (by omega)]; exact (z_obj hH hc hs).2 j (by rw [hf.2.2.1]; exact hj)
/-- a reference, into a final field in a constructor -/
theorem z_putr {C : String} {T : u_T} {n ci k t idx c c2 : Nat} {fin : Bool} {r kI r2 : Int} {ty : FieldType} (hd : decode (z_c M) pc = .ok (.putfield idx, 3)) (hf : z_fd C T n ci k t fin) (hw : z_lk (z_y M).cls idx C T k) (hty : parseFieldDescriptor (T k).2.2.1 = some ty) (hty2 : (∃ y, ty = .object y) ∨ ∃ y, ty = .array y) (ht : t = 2) (hin : (z_y M).name = "<init>") (hC : C = (z_y M).cls) (hk : (k : Int) = kI) (hr : r = (c : Int)) (hr2 : r2 = (c2 : Int)) (hs : z_sh X c = (0, ci)) (hc : c < N)
    (kk : z_V X d mc ms M (pc + 3) ls st uc us N (z_up σ c kI r2) g Q) : z_V X d mc ms M pc ls ((2, r2) :: (2, r) :: st) uc us N σ g Q := by
  intro p e s m args below meth c9 H locs L F hL hl ho hH hq
  rw [List.map_cons, List.map_cons, z_mr hr, z_mr hr2]
  subst hk; subst ht
  refine z_putW (v := .ref (z_b X + c2)) (ty := ty) (σ' := z_up σ c k r2) (g' := g) F hH hd hf hw (Or.inr ⟨hin, hC⟩) hs hc hty ?_ ?_ (fun _ h => z_up_ne h) (fun _ _ => rfl) ?_ ?_ fun H' l' h1 h2 => kk p e s m args below meth c9 H' _ L F hL hl (z_ot (z_ot ho)) h1 (z_lq hq h2)
  · rcases hty2 with ⟨y, rfl⟩ | ⟨y, rfl⟩ <;> rfl
  · rcases hty2 with ⟨y, rfl⟩ | ⟨y, rfl⟩ <;> rfl
  · intro j hj
    rw [z_up_at]
    by_cases h : j = k
    · subst h; rw [if_pos rfl]; unfold z_fv; rw [hf.2.2.2.2.2.1]; simp only [if_true]; rw [hr2, z_ref_n]
    · rw [if_neg h]; unfold z_fv; dsimp only; rw [if_neg (by omega)]
  · intro j hj
    exact (z_obj hH hc hs).2 j (by rw [hf.2.2.1]; exact hj)
end ZH

/-! ordinary methods: nothing is made -/
abbrev z_P : Type := Int → z_G → Prop
abbrev z_U (X : z_X) (d : Nat) (M : z_M) (pc : Nat) (ls : z_L) (st : List z_t) (N : Nat) (σ g : z_G) (Q : z_P) : Prop := z_V X d 0 0 M pc ls st 0 0 N σ g (fun r N' σ' g' => N' = N ∧ σ' = σ ∧ Q r g')
def z_O (X : z_X) (d : Nat) (M : z_M) (as : List z_t) (N : Nat) (σ g : z_G) (Q : z_P) : Prop := z_C X d 0 0 M as N σ g (fun r N' σ' g' => N' = N ∧ σ' = σ ∧ Q r g')
/-- layout of cells from o on -/
def z_lay (X : z_X) (N : Nat) (σ : z_G) (o : Nat) (SL : List (Nat × Nat)) (RL : List (Nat × Int × Nat)) : Prop :=
  (∀ (j : Nat) (s : Nat × Nat), SL[j]? = some s → z_sh X (o + j) = s) ∧ o + SL.length ≤ N ∧ ∀ (k : Nat) (q : Nat × Int × Nat), RL[k]? = some q → σ (o + q.1) q.2.1 = ((o + q.2.2 : Nat) : Int)
theorem z_lay.lt {X : z_X} {N o : Nat} {σ : z_G} {SL : List (Nat × Nat)} {RL : List (Nat × Int × Nat)} (h : z_lay X N σ o SL RL) (j : Nat) (hj : Nat.blt j SL.length = true) : o + j < N := by
  have := Nat.blt_eq.mp hj
  have := h.2.1
  omega
theorem z_lay.sub {X : z_X} {N o : Nat} {σ : z_G} {SL SL' : List (Nat × Nat)} {RL RL' : List (Nat × Int × Nat)} (h : z_lay X N σ o SL RL) (k : Nat) (h0 : k + SL'.length ≤ SL.length) (h1 : (SL.drop k).take SL'.length = SL') (h2 : ∀ q ∈ RL', (q.1 + k, q.2.1, q.2.2 + k) ∈ RL) : z_lay X N σ (o + k) SL' RL' := by
  refine ⟨fun j s hj => ?_, ?_, fun i q hq => ?_⟩
  · rw [← h1, List.getElem?_take] at hj
    split at hj
    · rw [List.getElem?_drop] at hj
      have := h.1 (k + j) s hj
      rw [Nat.add_assoc]; exact this
    · cases hj
  · have := h.2.1; omega
  · obtain ⟨i2, hi2⟩ := List.getElem?_of_mem (h2 q (List.mem_of_getElem? hq))
    have := h.2.2 i2 _ hi2
    dsimp only at this
    rw [show o + k + q.1 = o + (q.1 + k) by omega, show o + k + q.2.2 = o + (q.2.2 + k) by omega]
    exact this
theorem z_b01 {v : Int} (h : 0 ≤ v ∧ v ≤ 1) : v = 0 ∨ v = 1 := by omega
section ZW
variable {X : z_X} {d : Nat} {M : z_M} {pc : Nat} {ls : z_L} {st : List z_t} {N : Nat} {σ g : z_G} {Q : z_P}
theorem z_Oenter {as : List z_t} {n : Nat} (hi : z_mi M n) (hw : Nat.ble (z_wd as) (z_n M) = true) (k : (∀ x ∈ as, z_ok x) → z_U X d M 0 (z_en as 0) [] N σ g Q) : z_O X d M as N σ g Q := z_enter hi (Nat.le_of_ble_eq_true hw) k
theorem z_Omono {as : List z_t} {Q1 Q2 : z_P} (h : z_O X d M as N σ g Q1) (k : ∀ r g', z_ro (z_r M) r → Q1 r g' → Q2 r g') : z_O X d M as N σ g Q2 := z_C_mono h fun r _ _ g' ho h => ⟨h.1, h.2.1, k r g' ho h.2.2⟩
/-- another name for what stands on top -/
theorem z_ti {mc ms uc us : Nat} {Q : z_Q} {t : Nat} {a b : Int} (h : a = b) (k : z_V X d mc ms M pc ls ((t, b) :: st) uc us N σ g Q) : z_V X d mc ms M pc ls ((t, a) :: st) uc us N σ g Q := h ▸ k
theorem z_tg {mc ms uc us : Nat} {Q : z_Q} {g' : z_G} (h : g = g') (k : z_V X d mc ms M pc ls st uc us N σ g' Q) : z_V X d mc ms M pc ls st uc us N σ g Q := h ▸ k
theorem z_getz {mc ms uc us : Nat} {Q : z_Q} {C : String} {T : u_T} {n ci k t idx c : Nat} {fin : Bool} {r kI : Int} (hd : decode (z_c M) pc = .ok (.getfield idx, 3)) (hf : z_fd C T n ci k t fin) (hw : z_lk (z_y M).cls idx C T k) (ht : t = 5) (hk : (k : Int) = kI) (hr : r = (c : Int)) (hs : z_sh X c = (0, ci)) (hc : c < N)
    (kk : (g c kI = 0 ∨ g c kI = 1) → z_V X d mc ms M (pc + 3) ls ((0, g c kI) :: st) uc us N σ g Q) : z_V X d mc ms M pc ls ((2, r) :: st) uc us N σ g Q := by
  intro p e s m args below meth c9 H locs L F hL hl ho hH hq
  have hg := (z_obj hH hc hs).2 k (by rw [hf.2.2.1]; exact hf.2.1)
  rw [hf.2.2.2.2.2.1, ht, hk] at hg
  have hg : 0 ≤ g c kI ∧ g c kI ≤ 1 := hg
  exact z_geti hd hf hw (Or.inr ht) hk hr hs hc (kk (by omega)) p e s m args below meth c9 H locs L F hL hl ho hH hq
/-- a heap's ranges -/
theorem z_hr {mc ms uc us : Nat} {Q : z_Q} {c ci : Nat} (k : Nat) (hs : z_sh X c = (0, ci)) (hc : c < N) (hk : k < z_nf ci) (kk : z_rg (z_fk ci k) (g c k) → z_V X d mc ms M pc ls st uc us N σ g Q) : z_V X d mc ms M pc ls st uc us N σ g Q := by
  intro p e s m args below meth c9 H locs L F hL hl ho hH hq
  exact kk ((z_obj hH hc hs).2 k hk) p e s m args below meth c9 H locs L F hL hl ho hH hq
theorem z_cV {M' : z_M} {as stk : List z_t} {n d' idx c ci nf : Nat} {C : String} {T : u_T} {r : Int} (hd : decode (z_c M) pc = .ok (.invokevirtual idx, 3)) (hi : z_mi M' n) (hl : Cond.methodLink (z_y M).cls idx (z_y M') ∈ z_tb) (hv : Cond.instanceMethod (z_y M') ∈ z_tb) (hse : Cond.selects (z_y M').cls (z_y M') (z_y M') ∈ z_tb)
    (hn : as.length = n) (hL9 : Nat.ble (z_n M') 40 = true) (hst : stk = as.reverse ++ (2, r) :: st) (hr : r = (c : Int)) (hs : z_sh X c = (0, ci)) (hC : vwCl[ci]? = some (C, T, nf)) (hCc : C = (z_y M').cls) (hc : c < N) (hcat : Nat.ble (st.map (fun x : z_t => if x.1 = 1 then 2 else 1)).sum 8 = true) (hdd : Nat.ble (d' + 1) d = true)
    (k : z_O X d' M' ((2, r) :: as) N σ g (fun r g' => z_ro (z_r M') r → z_U X d M (pc + 3) ls (z_pr (z_r M') r ++ st) N σ g' Q)) : z_U X d M pc ls stk N σ g Q :=
  z_callV hd hi hl hv hse hn (Nat.le_of_ble_eq_true hL9) hst hr hs hC hCc hc (Nat.le_of_ble_eq_true hcat) (Nat.le_of_ble_eq_true hdd) (Nat.le_refl 0) (Nat.le_refl 0) (z_C_mono k fun r N' σ' g' hro ⟨h1, h2, h3⟩ => by subst h1; subst h2; exact h3 hro)
theorem z_cS {M' : z_M} {as stk : List z_t} {n d' idx : Nat} (hd : decode (z_c M) pc = .ok (.invokestatic idx, 3)) (hi : z_mi M' n) (hl : Cond.methodLink (z_y M).cls idx (z_y M') ∈ z_tb) (hv : Cond.static (z_y M') ∈ z_tb)
    (hn : as.length = n) (hL9 : Nat.ble (z_n M') 40 = true) (hst : stk = as.reverse ++ st) (hcat : Nat.ble (st.map (fun x : z_t => if x.1 = 1 then 2 else 1)).sum 8 = true) (hdd : Nat.ble (d' + 1) d = true)
    (k : z_O X d' M' as N σ g (fun r g' => z_ro (z_r M') r → z_U X d M (pc + 3) ls (z_pr (z_r M') r ++ st) N σ g' Q)) : z_U X d M pc ls stk N σ g Q :=
  z_callS hd hi hl hv hn (Nat.le_of_ble_eq_true hL9) hst (Nat.le_of_ble_eq_true hcat) (Nat.le_of_ble_eq_true hdd) (Nat.le_refl 0) (Nat.le_refl 0) (z_C_mono k fun r N' σ' g' hro ⟨h1, h2, h3⟩ => by subst h1; subst h2; exact h3 hro)
theorem z_cSN {M' : z_M} {as stk : List z_t} {n d' idx : Nat} (hd : decode (z_c M) pc = .ok (.invokestatic idx, 3)) (hi : z_mi M' n) (hl : ((z_y M).cls, idx, z_y M') ∈ z_nl) (hv : Cond.static (z_y M') ∈ z_tb)
    (hn : as.length = n) (hL9 : Nat.ble (z_n M') 40 = true) (hst : stk = as.reverse ++ st) (hcat : Nat.ble (st.map (fun x : z_t => if x.1 = 1 then 2 else 1)).sum 8 = true) (hdd : Nat.ble (d' + 1) d = true)
    (k : z_O X d' M' as N σ g (fun r g' => z_ro (z_r M') r → z_U X d M (pc + 3) ls (z_pr (z_r M') r ++ st) N σ g' Q)) : z_U X d M pc ls stk N σ g Q :=
  z_callSN hd hi hl hv hn (Nat.le_of_ble_eq_true hL9) hst (Nat.le_of_ble_eq_true hcat) (Nat.le_of_ble_eq_true hdd) (Nat.le_refl 0) (Nat.le_refl 0) (z_C_mono k fun r N' σ' g' hro ⟨h1, h2, h3⟩ => by subst h1; subst h2; exact h3 hro)
theorem z_ldcs {mc ms uc us : Nat} {Q : z_Q} {q : String × Nat × Nat} {i : Nat} {kI : Int} (hd : decode (z_c M) pc = .ok (.ldc i, 2)) (hq0 : q ∈ z_sr) (h1 : q.1 = (z_y M).cls) (h2 : q.2.1 = i) (h3 : ((q.2.2 : Nat) : Int) = kI) (k : z_V X d mc ms M (pc + 2) ls ((4, kI) :: st) uc us N σ g Q) : z_V X d mc ms M pc ls st uc us N σ g Q := by
  intro p e s m args below meth c9 H locs L F hL hl ho hH hq
  have hR := F.2.2.2.2.2.2.2.1.2.2.1 q hq0
  rw [h1, h2] at hR
  subst h3
  exact va_ldcS F.1 F.2.1 F.2.2.2.2.1 hR hd (k p e s m args below meth c9 H locs L F hL hl (z_op ho trivial) hH hq)
theorem z_cVs {M' : z_M} {as stk : List z_t} {n d' idx : Nat} {kI : Int} (hd : decode (z_c M) pc = .ok (.invokevirtual idx, 3)) (hi : z_mi M' n) (hl : Cond.methodLink (z_y M).cls idx (z_y M') ∈ z_tb) (hv : Cond.instanceMethod (z_y M') ∈ z_tb) (hse : Cond.selects (z_y M').cls (z_y M') (z_y M') ∈ z_tb)
    (hn : as.length = n) (hL9 : Nat.ble (z_n M') 40 = true) (hst : stk = as.reverse ++ (4, kI) :: st) (hcat : Nat.ble (st.map (fun x : z_t => if x.1 = 1 then 2 else 1)).sum 8 = true) (hdd : Nat.ble (d' + 1) d = true) (hk : 0 ≤ kI ∧ kI < 21) (hC : (z_y M').cls = "java/lang/String")
    (k : z_O X d' M' ((4, kI) :: as) N σ g (fun r g' => z_ro (z_r M') r → z_U X d M (pc + 3) ls (z_pr (z_r M') r ++ st) N σ g' Q)) : z_U X d M pc ls stk N σ g Q := by
  intro p e s m args below meth c9 H locs L F hL hl' ho hH hq
  subst hst
  have ho1 : ∀ x ∈ (4, kI) :: as, z_ok x := fun x hx => by
    rcases List.mem_cons.mp hx with rfl | hx
    · trivial
    · exact ho x (List.mem_append_left _ (List.mem_reverse.mpr hx))
  have k2 : z_C X d' 0 0 M' ((4, kI) :: as) N σ g (fun r N' σ' g' => z_V X d 0 0 M (pc + 3) ls (z_pr (z_r M') r ++ st) 0 0 N' σ' g' (fun r N' σ' g' => N' = N ∧ σ' = σ ∧ Q r g')) := z_C_mono k fun r N' σ' g' hro ⟨h1, h2, h3⟩ => by subst h1; subst h2; exact h3 hro
  refine z_after (M' := M') (mc' := 0) (ms' := 0) (a := (Value.ref (z_aK X kI.toNat) :: as.map (z_v X)).toArray) F hL hl' (fun x hx => ho x (List.mem_append_right _ (List.mem_cons_of_mem _ hx))) hq ?_
  have hrc : ∃ cellB : Cell, H[z_aK X kI.toNat]? = some cellB ∧ cellB.vm.isStatics = false ∧ s.vm.findClass (z_y M').cls = some cellB.cls := by
    obtain ⟨⟨cell, q1, q2, q3, q4⟩, -⟩ := F.2.2.2.2.2.2.2.1.2.1.1 kI.toNat (by omega)
    exact ⟨cell, by rw [hH.2.1 _ (Or.inl (Nat.not_le.mp q4))]; exact q1, q2, by rw [hC]; exact q3⟩
  exact va_runV (C := (z_y M').cls) (b := z_aK X kI.toNat) (As := as.map (z_v X)) (rest := st.map (z_v X)) ⟨F.1, F.2.1, F.2.2.2.1, F.2.2.2.2.1, F.2.2.2.2.2.1⟩ k2 ⟨z_cB hi F.2.2.2.2.2.1 hl (Nat.le_of_ble_eq_true hdd) (Nat.le_of_ble_eq_true hL9), F.2.2.2.2.2.1 _ hv, F.2.2.2.2.2.1 _ hse⟩
    ⟨z_blind (as := (4, kI) :: as), hrc, fun U hU hW => ⟨rfl, by rw [hU]; exact hH, F.2.2.2.2.2.2.2.1.warm hW, ho1⟩⟩ rfl (by rw [List.length_map]; exact hn) hL.1 (by show List.map (z_v X) _ = _; rw [List.map_append, List.map_reverse]; rfl) (lv_room (z_cs (Nat.le_of_ble_eq_true hcat))) hd ⟨Nat.le_refl 0, Nat.le_refl 0⟩
theorem z_mmax {a b : Int} {idx : Nat} (hd : decode (z_c M) pc = .ok (.invokestatic idx, 3)) (hl : Cond.methodLink (z_y M).cls idx Lib.Math.max.name ∈ z_tb) (hs : Cond.static Lib.Math.max.name ∈ z_tb) (hi : Cond.initialized "java/lang/Math" ∈ z_tb) (hc : Cond.code Lib.Math.max.name Lib.Math.max.code 2 (some .int) ∈ z_tb) (hdp : 1 ≤ d) (hlo : (st.map (fun x : z_t => if x.1 = 1 then 2 else 1)).sum + 13 ≤ 64 * d)
    (kt : a < b → z_U X d M (pc + 3) ls ((0, b) :: st) N σ g Q) (kf : ¬ (a < b) → z_U X d M (pc + 3) ls ((0, a) :: st) N σ g Q) : z_U X d M pc ls ((0, b) :: (0, a) :: st) N σ g Q := by
  intro p e s m args below meth c9 H locs L F hL hl' ho hH hq
  have hts := F.2.2.2.2.2.1
  have hb1 : -2147483648 ≤ b ∧ b ≤ 2147483647 := z_oh ho
  have ha1 : -2147483648 ≤ a ∧ a ≤ 2147483647 := z_oh (z_ot ho)
  refine va_mmax F.1 F.2.1 (F.2.2.2.1.trans hL.1.symm) F.2.2.2.2.1 (hts _ hl) (hts _ hs) (hts _ hi) (hts _ hc) hdp ?_ (Nat.le_refl 0) (Nat.le_refl 0) hd ?_
  · have e : ((fun v => Value.category v) ∘ z_v X) = (fun x : z_t => if x.1 = 1 then 2 else 1) := funext fun x => z_cat X x
    rw [List.map_map, e]; exact hlo
  · by_cases h : a < b
    · rw [if_pos (by rw [Int32.lt_iff_toInt_lt, z_i ha1, z_i hb1]; exact h)]
      exact kt h p e s m args below meth c9 H locs L F hL hl' (z_op (z_ot (z_ot ho)) hb1) hH hq
    · rw [if_neg (by rw [Int32.lt_iff_toInt_lt, z_i ha1, z_i hb1]; exact h)]
      exact kf h p e s m args below meth c9 H locs L F hL hl' (z_op (z_ot (z_ot ho)) ha1) hH hq
theorem z_mmin {a b : Int} {idx : Nat} (hd : decode (z_c M) pc = .ok (.invokestatic idx, 3)) (hl : Cond.methodLink (z_y M).cls idx Lib.Math.min.name ∈ z_tb) (hs : Cond.static Lib.Math.min.name ∈ z_tb) (hi : Cond.initialized "java/lang/Math" ∈ z_tb) (hc : Cond.code Lib.Math.min.name Lib.Math.min.code 2 (some .int) ∈ z_tb) (hdp : 1 ≤ d) (hlo : (st.map (fun x : z_t => if x.1 = 1 then 2 else 1)).sum + 13 ≤ 64 * d)
    (kt : b < a → z_U X d M (pc + 3) ls ((0, b) :: st) N σ g Q) (kf : ¬ (b < a) → z_U X d M (pc + 3) ls ((0, a) :: st) N σ g Q) : z_U X d M pc ls ((0, b) :: (0, a) :: st) N σ g Q := by
  intro p e s m args below meth c9 H locs L F hL hl' ho hH hq
  have hts := F.2.2.2.2.2.1
  have hb1 : -2147483648 ≤ b ∧ b ≤ 2147483647 := z_oh ho
  have ha1 : -2147483648 ≤ a ∧ a ≤ 2147483647 := z_oh (z_ot ho)
  refine va_mmin F.1 F.2.1 (F.2.2.2.1.trans hL.1.symm) F.2.2.2.2.1 (hts _ hl) (hts _ hs) (hts _ hi) (hts _ hc) hdp ?_ (Nat.le_refl 0) (Nat.le_refl 0) hd ?_
  · have e : ((fun v => Value.category v) ∘ z_v X) = (fun x : z_t => if x.1 = 1 then 2 else 1) := funext fun x => z_cat X x
    rw [List.map_map, e]; exact hlo
  · by_cases h : b < a
    · rw [if_pos (by rw [Int32.lt_iff_toInt_lt, z_i ha1, z_i hb1]; exact h)]
      exact kt h p e s m args below meth c9 H locs L F hL hl' (z_op (z_ot (z_ot ho)) hb1) hH hq
    · rw [if_neg (by rw [Int32.lt_iff_toInt_lt, z_i ha1, z_i hb1]; exact h)]
      exact kf h p e s m args below meth c9 H locs L F hL hl' (z_op (z_ot (z_ot ho)) ha1) hH hq
theorem z_mabs {a : Int} {idx : Nat} (hd : decode (z_c M) pc = .ok (.invokestatic idx, 3)) (hl : Cond.methodLink (z_y M).cls idx Lib.Math.abs.name ∈ z_tb) (hs : Cond.static Lib.Math.abs.name ∈ z_tb) (hi : Cond.initialized "java/lang/Math" ∈ z_tb) (hc : Cond.code Lib.Math.abs.name Lib.Math.abs.code 1 (some .int) ∈ z_tb) (hdp : 1 ≤ d) (hlo : (st.map (fun x : z_t => if x.1 = 1 then 2 else 1)).sum + 13 ≤ 64 * d) (hr : -2147483648 ≤ -a ∧ -a ≤ 2147483647)
    (kt : 0 ≤ a → z_U X d M (pc + 3) ls ((0, a) :: st) N σ g Q) (kf : ¬ (0 ≤ a) → z_U X d M (pc + 3) ls ((0, -a) :: st) N σ g Q) : z_U X d M pc ls ((0, a) :: st) N σ g Q := by
  intro p e s m args below meth c9 H locs L F hL hl' ho hH hq
  have hts := F.2.2.2.2.2.1
  have ha1 : -2147483648 ≤ a ∧ a ≤ 2147483647 := z_oh ho
  have h00 : (0 : Int32).toInt = 0 := by decide
  refine va_mabs F.1 F.2.1 (F.2.2.2.1.trans hL.1.symm) F.2.2.2.2.1 (hts _ hl) (hts _ hs) (hts _ hi) (hts _ hc) hdp ?_ (Nat.le_refl 0) (Nat.le_refl 0) hd ?_
  · have e : ((fun v => Value.category v) ∘ z_v X) = (fun x : z_t => if x.1 = 1 then 2 else 1) := funext fun x => z_cat X x
    rw [List.map_map, e]; exact hlo
  · by_cases h : 0 ≤ a
    · rw [if_pos (by rw [Int32.le_iff_toInt_le, z_i ha1, h00]; exact h)]
      exact kt h p e s m args below meth c9 H locs L F hL hl' (z_op (z_ot ho) ha1) hH hq
    · rw [if_neg (by rw [Int32.le_iff_toInt_le, z_i ha1, h00]; exact h)]
      have h9 := kf h p e s m args below meth c9 H locs L F hL hl' (z_op (z_ot ho) hr) hH hq
      rw [List.map_cons, show z_v X (0, -a) = .int (0 - Int32.ofInt a) by rw [Int32.zero_sub, ← Int32.ofInt_neg]; rfl] at h9
      exact h9
/-- System.arraycopy -/
def z_cp (g : z_G) (c c' : Nat) (sp dp n : Int) : z_G := fun a i => if a = c' ∧ dp ≤ i ∧ i < dp + n then g c (sp + (i - dp)) else g a i
theorem z_nn {v : Int} (h : 0 ≤ v ∧ v ≤ 2147483647) : ¬ Int32.ofInt v < 0 ∧ (Int32.ofInt v).toNatClampNeg = v.toNat ∧ (Int32.ofInt v).toInt = v := by
  have h1 := z_i (v := v) (by omega)
  refine ⟨fun q => ?_, z_clamp h, h1⟩
  rw [Int32.lt_iff_toInt_lt, h1] at q
  have : (0 : Int32).toInt = 0 := by decide
  omega
theorem z_cpy {mc ms uc us : Nat} {Q : z_Q} {t n0 n1 c0 c1 idx : Nat} {r0 r1 sp dp n m0 m1 : Int} {ty : FieldType} (hd : decode (z_c M) pc = .ok (.invokestatic idx, 3)) (hl : Cond.methodLink (z_y M).cls idx arraycopyName ∈ z_tb) (ht : (t = 0 ∧ ty = .int) ∨ (t = 1 ∧ ty = .long)) (hty : (z_tys X)[t + 1]? = some (z_A X (t + 1), ty)) (hr0 : r0 = (c0 : Int)) (hr1 : r1 = (c1 : Int)) (hs0 : z_sh X c0 = (t + 1, n0)) (hs1 : z_sh X c1 = (t + 1, n1)) (hc0 : c0 < N) (hc1 : c1 < N)
    (hn0 : ((n0 : Nat) : Int) = m0) (hn1 : ((n1 : Nat) : Int) = m1) (hm : m0 ≤ 2147483647 ∧ m1 ≤ 2147483647) (hst : Cond.static arraycopyName ∈ z_tb) (hnat : Cond.native arraycopyName ∈ z_tb) (hini : Cond.initialized "java/lang/System" ∈ z_tb) (hdp : 1 ≤ d) (hlo : (st.map (fun x : z_t => if x.1 = 1 then 2 else 1)).sum + (nativeFrameWords "java/lang/System" "arraycopy" 5 + 11) ≤ 64 * d)
    (h0 : 0 ≤ sp ∧ 0 ≤ dp ∧ 0 ≤ n ∧ sp + n ≤ m0 ∧ dp + n ≤ m1)
    (k : z_V X d mc ms M (pc + 3) ls st uc us N σ (z_cp g c0 c1 sp dp n) Q) : z_V X d mc ms M pc ls ((0, n) :: (0, dp) :: (2, r1) :: (0, sp) :: (2, r0) :: st) uc us N σ g Q := by
  intro p e s m args below meth c9 H locs L F hL hl' ho hH hq
  obtain ⟨a1, a2⟩ := z_arr hH hc0 hs0
  obtain ⟨b1, b2⟩ := z_arr hH hc1 hs1
  obtain ⟨s1, s2, s3⟩ := z_nn (v := sp) (by omega)
  obtain ⟨d1, d2, d3⟩ := z_nn (v := dp) (by omega)
  obtain ⟨n1', n2, n3⟩ := z_nn (v := n) (by omega)
  have hA := F.2.2.2.2.2.2.2.1.arr (t + 1) hty
  have hts := F.2.2.2.2.2.1
  have hev : ∀ (σc gc : Int → Int) (j : Nat), z_rg (z_et (t + 1)) (gc j) → fits ty (z_ev X (t + 1) σc gc j) = true := by
    intro σc gc j hg
    rcases ht with ⟨rfl, rfl⟩ | ⟨rfl, rfl⟩ <;> rfl
  have hrk : refKind ty = false := by rcases ht with ⟨rfl, rfl⟩ | ⟨rfl, rfl⟩ <;> rfl
  have hnr : ∀ (σc gc : Int → Int) (j : Nat), ∃ z, z_ev X (t + 1) σc gc j = .int z ∨ ∃ z, z_ev X (t + 1) σc gc j = .long z := by
    intro σc gc j
    rcases ht with ⟨rfl, rfl⟩ | ⟨rfl, rfl⟩
    · exact ⟨_, Or.inl rfl⟩
    · exact ⟨0, Or.inr ⟨_, rfl⟩⟩
  intro T hT XX
  obtain ⟨-, k0, hk0, cm0, hkk0⟩ := hA n0 (z_ev X (t + 1) (σ c0) (g c0))
  obtain ⟨-, k1, hk1, cm1, hkk1⟩ := hA n1 (z_ev X (t + 1) (σ c1) (g c1))
  obtain ⟨vm', X', step⟩ := XX.arraycopy F.1 F.2.2.2.2.1 (hts _ hl) (hts _ hnat) (hts _ hst) (hts _ hini) (src := z_b X + c0) (dst := z_b X + c1) (srcPos := Int32.ofInt sp) (destPos := Int32.ofInt dp) (n := Int32.ofInt n) (by rw [hT]; exact a1) (by rw [hT]; exact b1)
    (fun _ h => by cases h) (fun _ h => by cases h) (fun h => by cases h) (fun h => by cases h) hk0 hk1 hkk0 hkk1 (by simp [hrk]) s1 d1 n1'
    (by rw [s3, n3, arrV_size]; omega)
    (by rw [d3, n3, arrV_size]; omega)
    (fun vm₁ _ i hi => by
      rw [n2] at hi
      have e : (arrV (z_A X (t + 1)) n0 (z_ev X (t + 1) (σ c0) (g c0))).slots.getD ((Int32.ofInt sp).toNatClampNeg + i) .null = z_ev X (t + 1) (σ c0) (g c0) (sp.toNat + i) := by
        rw [Array.getD_eq_getD_getElem?, s2, arrV_read _ _ (by omega)]
        rfl
      rw [e]
      refine ⟨hev _ _ _ (a2 _ (by omega)), ?_⟩
      obtain ⟨z, h | ⟨z, h⟩⟩ := hnr (σ c0) (g c0) (sp.toNat + i)
      · rw [h]; exact trivial
      · rw [h]; exact trivial)
    (g := F0 m pc L (.int (Int32.ofInt n) :: .int (Int32.ofInt dp) :: .ref (z_b X + c1) :: .int (Int32.ofInt sp) :: .ref (z_b X + c0) :: st.map (z_v X))) rfl (by rw [F.2.2.2.1]; exact hL.1) (rest := st.map (z_v X)) rfl (by rw [F.2.1]; exact hd) hdp (by
      show 2 * 0 + _ + _ ≤ _
      have e : ((fun v => Value.category v) ∘ z_v X) = (fun x : z_t => if x.1 = 1 then 2 else 1) := funext fun x => z_cat X x
      rw [List.map_map, e, Nat.mul_zero, Nat.zero_add]
      exact hlo)
  have e1 : copied (arrV (z_A X (t + 1)) n0 (z_ev X (t + 1) (σ c0) (g c0))) (arrV (z_A X (t + 1)) n1 (z_ev X (t + 1) (σ c1) (g c1))) (Int32.ofInt sp) (Int32.ofInt dp) (Int32.ofInt n) = arrV (z_A X (t + 1)) n1 (va_cpy (z_ev X (t + 1) (σ c0) (g c0)) (z_ev X (t + 1) (σ c1) (g c1)) sp.toNat dp.toNat n.toNat) := by
    have h := va_copied (fun z : Value => z) (z_A X (t + 1)) (z_A X (t + 1)) (n0 := n0) (n1 := n1) (sp := (Int32.ofInt sp).toNatClampNeg) (dp := (Int32.ofInt dp).toNatClampNeg) (n := (Int32.ofInt n).toNatClampNeg) (z_ev X (t + 1) (σ c0) (g c0)) (z_ev X (t + 1) (σ c1) (g c1)) (by rw [s2, n2]; omega)
    rw [← s2, ← d2, ← n2]
    exact h
  rw [e1] at X' step
  have hlt : z_b X + c1 < H.size := (Array.getElem?_eq_some_iff.mp b1).1
  obtain ⟨t', a3, b3⟩ := k p e s m args below meth c9 (H.setIfInBounds (z_b X + c1) (arrV (z_A X (t + 1)) n1 (va_cpy (z_ev X (t + 1) (σ c0) (g c0)) (z_ev X (t + 1) (σ c1) (g c1)) sp.toNat dp.toNat n.toNat))) _ L F hL hl' (z_ot (z_ot (z_ot (z_ot (z_ot ho))))) (by
      refine z_H_set (c := c1) hH hc1 (by simp) (fun q hq => by simp [Array.getElem?_setIfInBounds, Ne.symm hq]) (fun _ _ => rfl) (fun c' h => by funext i; unfold z_cp; rw [if_neg (fun q => h q.1)]) ?_
      unfold z_cl
      rw [hs1, if_neg (by simp)]
      refine ⟨?_, fun j hj => ?_⟩
      · rw [Array.getElem?_setIfInBounds, if_pos rfl, if_pos hlt]
        refine congrArg some (congrArg (arrV _ _) (funext fun j => ?_))
        unfold va_cpy
        by_cases h : dp.toNat ≤ j ∧ j < dp.toNat + n.toNat
        · rw [if_pos h]
          have e2 : z_cp g c0 c1 sp dp n c1 (j : Int) = g c0 ((sp.toNat + (j - dp.toNat) : Nat) : Int) := by
            unfold z_cp; rw [if_pos ⟨rfl, by omega, by omega⟩]; congr 1; omega
          rcases ht with ⟨rfl, rfl⟩ | ⟨rfl, rfl⟩
          · show Value.int _ = Value.int (Int32.ofInt (z_cp g c0 c1 sp dp n c1 (j : Int))); rw [e2]
          · show Value.long _ = Value.long (Int64.ofInt (z_cp g c0 c1 sp dp n c1 (j : Int))); rw [e2]
        · rw [if_neg h]
          have e2 : z_cp g c0 c1 sp dp n c1 (j : Int) = g c1 (j : Int) := by
            unfold z_cp; rw [if_neg (fun q => h ⟨by omega, by omega⟩)]
          rcases ht with ⟨rfl, rfl⟩ | ⟨rfl, rfl⟩
          · show Value.int _ = Value.int (Int32.ofInt (z_cp g c0 c1 sp dp n c1 (j : Int))); rw [e2]
          · show Value.long _ = Value.long (Int64.ofInt (z_cp g c0 c1 sp dp n c1 (j : Int))); rw [e2]
      · unfold z_cp
        split
        · rename_i h
          have h9 := a2 (sp.toNat + (j - dp.toNat)) (by omega)
          rw [show ((sp.toNat + (j - dp.toNat) : Nat) : Int) = sp + ((j : Int) - dp) by omega] at h9
          exact h9
        · exact b2 j hj) (fun q hq' => by
      rcases List.mem_append.mp hq' with h | h
      · exact hq q h
      · obtain ⟨z, -, hz⟩ := List.mem_map.mp h
        rw [← hz]
        exact Nat.le_add_right _ _) _ (by rw [← hT]; rfl) X'
  refine ⟨t', ?_, b3⟩
  rw [List.map_cons, List.map_cons, List.map_cons, List.map_cons, List.map_cons, z_mr hr0, z_mr hr1]
  exact step t' a3
end ZW

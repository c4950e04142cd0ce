/-! ## cells are made -/
def z_nw (g : z_G) (c : Nat) (f : Int → Int) : z_G := fun c' => if c' = c then f else g c'
theorem z_nw1 {g : z_G} {c : Nat} {f : Int → Int} : z_nw g c f c = f := if_pos rfl
theorem z_nw2 {g : z_G} {c c' : Nat} {f : Int → Int} (h : c' ≠ c) : z_nw g c f c' = g c' := if_neg h
theorem z_grow {X : z_X} {N : Nat} {σ g : z_G} {H H' : Heap} {sc gc : Int → Int} (hH : z_H X N σ g H) (ht : z_tl X = 0) (hsz : H'.size = H.size + 1) (ho : ∀ q : Nat, q < H.size → H'[q]? = H[q]?) (hcl : z_cl X N sc gc H') : z_H X (N + 1) (z_nw σ N sc) (z_nw g N gc) H' := by
  obtain ⟨h1, h2, h3⟩ := hH
  refine ⟨by omega, fun q hq => ?_, fun c hc => ?_⟩
  · rcases hq with hq | hq
    · rw [ho q (by omega)]; exact h2 q (Or.inl hq)
    · rw [← h2 q (Or.inr (by omega)), Array.getElem?_eq_none (by omega), Array.getElem?_eq_none (by omega)]
  · by_cases e : c = N
    · subst e; rw [z_nw1, z_nw1]; exact hcl
    · rw [z_nw2 e, z_nw2 e]; exact z_cl_kept (h3 c (by omega)) (ho _ (by omega))
section ZN
variable {X : z_X} {d mc ms : Nat} {M : z_M} {pc : Nat} {ls : z_L} {st : List z_t} {uc us N : Nat} {σ g : z_G} {Q : z_Q}
theorem z_new {C : String} {T : u_T} {n ci idx : Nat} {ty : Nat → FieldType} (hd : decode (z_c M) pc = .ok (.new idx, 3)) (hC : vwCl[ci]? = some (C, T, n)) (hnf : z_nf ci = n) (hin : ∀ w ∈ u_ws C T n, w ∈ z_tb) (hty : ∀ k, k < n → parseFieldDescriptor (T k).2.2.1 = some (ty k)) (hdf : ∀ k, k < n → (match z_fk ci k with | 1 => Value.long 0 | 2 => .null | _ => .int 0) = defaultValue (ty k)) (hl : Cond.classLink (z_y M).cls idx C ∈ z_tb) (hi : Cond.instantiable C n ∈ z_tb) (hini : Cond.initialized C ∈ z_tb) (hs : z_sh X N = (0, ci)) (ht : z_tl X = 0) (hu : uc + 1 ≤ mc) (hus : us + n ≤ ms)
    (k : z_V X d mc ms M (pc + 3) ls ((2, (N : Int)) :: st) (uc + 1) (us + n) (N + 1) (z_nw σ N (fun _ => -1)) (z_nw g N (fun _ => 0)) Q) : z_V X d mc ms M pc ls st uc us N σ g Q := by
  intro p e s m args below meth c9 H locs L F hL hl' ho hH hq
  have hts := F.2.2.2.2.2.1
  have hKn := F.2.2.2.2.2.2.2.1.1.1 ci _ hC
  have hsz : H.size = z_b X + N := by rw [hH.1, ht, Nat.add_zero]
  refine W.newcK F.1 F.2.1 F.2.2.2.2.1 (hts _ hl) (hts _ hi) (hts _ hini) rfl hd hu hus hKn.2.1 hsz fun H1 kC hkC e1 z1 o1 => ?_
  have h9 := k p e s m args below meth c9 H1 locs L F hL hl' (z_op ho trivial) (z_grow hH ht (by omega) (fun q hq => o1 q (by omega)) ?_) hq
  · rw [List.map_cons, z_mr rfl] at h9; exact h9
  · unfold z_cl; rw [hs]
    refine ⟨?_, fun k hk => ?_⟩
    · show t_OB (z_b X + N) ((z_D X).1 ci) (z_nf ci) ((z_D X).2 ci) H1 (z_fv X ci (fun _ => -1) (fun _ => 0))
      rw [hnf]
      refine (u_born ty hts hin hKn hkC e1 hty).to fun k hk => ?_
      rw [← hdf k hk]
      unfold z_fv
      generalize z_fk ci k = t
      match t with
      | 0 => rfl
      | 1 => rfl
      | 2 => rfl
      | (n + 3) => rfl
    · show z_rg (z_fk ci k) 0
      generalize z_fk ci k = t
      unfold z_rg
      split <;> first | trivial | exact ⟨by decide, by decide⟩
theorem z_newa {at0 : ArrayType} {t n idx : Nat} {x : Int} (hd : decode (z_c M) pc = .ok (.newarray at0, 2)) (hw : Cond.arrayClass (newarray.typeOf at0) ∈ z_tb) (hty : (z_tys X)[t + 1]? = some (z_A X (t + 1), newarray.typeOf at0)) (hra : ∀ U cA, va_RA U cA (newarray.typeOf at0) → U.vm.findClass ("[" ++ (newarray.typeOf at0).toString) = some cA) (hdv : (match t + 1 with | 2 => Value.long 0 | 5 => .null | 6 => .null | _ => .int 0) = defaultValue (newarray.typeOf at0)) (hx : x = (n : Int)) (hn : Nat.ble n 100000 = true) (hb : componentBytes (newarray.typeOf at0) ≤ 8) (hs : z_sh X N = (t + 1, n)) (ht : z_tl X = 0) (hu : uc + 1 ≤ mc) (hus : us + n ≤ ms)
    (k : z_V X d mc ms M (pc + 2) ls ((2, (N : Int)) :: st) (uc + 1) (us + n) (N + 1) (z_nw σ N (fun _ => -1)) (z_nw g N (fun _ => 0)) Q) : z_V X d mc ms M pc ls ((0, x) :: st) uc us N σ g Q := by
  intro p e s m args below meth c9 H locs L F hL hl' ho hH hq
  have hts := F.2.2.2.2.2.1
  have hn := Nat.le_of_ble_eq_true hn
  have hsz : H.size = z_b X + N := by rw [hH.1, ht, Nat.add_zero]
  have h32 : ¬ Int32.ofInt x < 0 := by
    rw [Int32.lt_iff_toInt_lt, z_i (by omega)]
    show ¬ x < 0
    omega
  refine va_newaK (N := n) F.1 F.2.1 (hts _ hw) rfl hd rfl h32 (by rw [z_clamp (by omega)]; omega) ?_ hu hus hsz fun H1 cA e1 z1 o1 hAr hfc => ?_
  · have := Nat.mul_le_mul hn hb
    omega
  have ecA : cA = z_A X (t + 1) := Option.some.inj (hfc.symm.trans (hra s _ (F.2.2.2.2.2.2.2.1.1.2 _ _ hty).2))
  subst ecA
  have h9 := k p e s m args below meth c9 H1 locs L F hL hl' (z_op (z_ot ho) trivial) (z_grow hH ht (by omega) (fun q hq => o1 q (by omega)) ?_) hq
  · rw [List.map_cons, z_mr rfl] at h9; exact h9
  · unfold z_cl; rw [hs]
    refine ⟨?_, fun j hj => ?_⟩
    · rw [e1, ← hdv]
      rfl
    · show z_rg (z_et (t + 1)) 0
      unfold z_et
      split <;> (unfold z_rg; first | trivial | exact ⟨by decide, by decide⟩)
/-- Board[] -/
theorem z_anew {n idx : Nat} {x : Int} (hd : decode (z_c M) pc = .ok (.anewarray idx, 3)) (hl : Cond.classLink (z_y M).cls idx "FareyRank$Board" ∈ z_tb) (hx : x = (n : Int)) (hn : Nat.ble n 100000 = true) (hs : z_sh X N = (6, n)) (ht : z_tl X = 0) (hu : uc + 1 ≤ mc) (hus : us + n ≤ ms)
    (k : z_V X d mc ms M (pc + 3) ls ((2, (N : Int)) :: st) (uc + 1) (us + n) (N + 1) (z_nw σ N (fun _ => -1)) (z_nw g N (fun _ => 0)) Q) : z_V X d mc ms M pc ls ((0, x) :: st) uc us N σ g Q := by
  intro p e s m args below meth c9 H locs L F hL hl' ho hH hq
  have hts := F.2.2.2.2.2.1
  have hn := Nat.le_of_ble_eq_true hn
  have hsz : H.size = z_b X + N := by rw [hH.1, ht, Nat.add_zero]
  have h32 : ¬ Int32.ofInt x < 0 := by
    rw [Int32.lt_iff_toInt_lt, z_i (by omega)]
    show ¬ x < 0
    omega
  have hcl : (Int32.ofInt x).toNatClampNeg = n := by rw [z_clamp (by omega)]; omega
  refine W.anew F.1 F.2.1 F.2.2.2.2.1 (hts _ hl) (va_AO.use F.2.2.2.2.2.2.2.1.2.2.2.2.1) rfl hd rfl h32 (by rw [hcl]; omega) hu (by rw [hcl]; exact hus) fun cA kA comp f1 f2 f3 f4 => ?_
  rw [hcl]
  have ecA : cA = z_A X 6 := by
    obtain ⟨kA', comp', g1, g2, g3, g4⟩ := (F.2.2.2.2.2.2.2.1.1.2 6 (z_A X 6, .object "FareyRank$Board") rfl).2
    exact Option.some.inj (f1.symm.trans g4)
  subst ecA
  have h9 := k p e s m args below meth c9 (H.push { cls := z_A X 6, slots := Array.replicate n .null, vm := .none }) locs L F hL hl' (z_op (z_ot ho) trivial) (z_grow hH ht (by rw [Array.size_push]) (fun q hq => by rw [Array.getElem?_push, if_neg (Nat.ne_of_lt hq)]) ?_) hq
  · rw [List.map_cons, z_mr rfl, ← hsz] at h9; exact h9
  · unfold z_cl; rw [hs]
    refine ⟨?_, fun j hj => trivial⟩
    rw [← hsz, Array.getElem?_push_size]
    show some _ = some (arrV (z_A X 6) n (fun _ => Value.null))
    rw [← arrV_new]
/-- Object.<init> -/
theorem z_obin {idx : Nat} {r : Int} {c : Nat} (hd : decode (z_c M) pc = .ok (.invokespecial idx, 3)) (hl : Cond.methodLink (z_y M).cls idx Lib.objectInit ∈ z_tb) (hi : Cond.instanceMethod Lib.objectInit ∈ z_tb) (hc : Cond.code Lib.objectInit ⟨#[0xb1]⟩ 1 none ∈ z_tb) (hr : r = (c : Int)) (hdp : 1 ≤ d) (hst : st = [])
    (k : z_V X d mc ms M (pc + 3) ls st uc us N σ g Q) : z_V X d mc ms M pc ls ((2, r) :: st) uc us N σ g Q := by
  intro p e s m args below meth c9 H locs L F hL hl' ho hH hq
  have hts := F.2.2.2.2.2.1
  subst hst
  rw [List.map_cons, z_mr hr]
  refine W.objInit F.1 F.2.1 F.2.2.2.2.1 (hts _ hl) (hts _ hi) (hts _ hc) rfl (hL.1.trans F.2.2.2.1.symm) rfl hd hdp ?_ (k p e s m args below meth c9 H locs L F hL hl' (z_ot ho) hH hq)
  show _ ≤ 64 * d
  have : 2 * (F0 m pc L [Value.ref (z_b X + c)]).monitorRoom = 0 := rfl
  simp only [List.map_nil, List.sum_nil]
  omega
/-- a Board into Board[] -/
theorem z_aast {n c c2 : Nat} {r i r2 m : Int} (hd : decode (z_c M) pc = .ok (.aastore, 1)) (hr : r = (c : Int)) (hr2 : r2 = (c2 : Int)) (hs : z_sh X c = (6, n)) (hc : c < N) (hs2 : z_sh X c2 = (0, 0)) (hc2 : c2 < N) (hn : ((n : Nat) : Int) = m) (hm : m ≤ 2147483647) (hi : 0 ≤ i ∧ i < m)
    (kk : z_V X d mc ms M (pc + 1) ls st uc us N (z_up σ c i r2) g Q) : z_V X d mc ms M pc ls ((2, r2) :: (0, i) :: (2, r) :: st) uc us N σ g Q := by
  intro p e s m0 args below meth c9 H locs L F hL hl ho hH hq
  rw [List.map_cons, List.map_cons, List.map_cons, z_mr hr, z_mr hr2]
  obtain ⟨i1, i2, i3, i4⟩ := z_ix hi hn hm
  obtain ⟨a1, a2⟩ := z_arr hH hc hs
  obtain ⟨⟨cellV, g1, g2, g3, -⟩, -⟩ := z_obj hH hc2 hs2
  have hK := F.2.2.2.2.2.2.2.1.1
  have hcls := (hK.1 0 _ rfl).2
  obtain ⟨kA, comp, k1, k2, k3, -⟩ := (hK.2 6 (z_A X 6, .object "FareyRank$Board") rfl).2
  have hcomp : comp = (z_D X).1 0 := Option.some.inj (k3.symm.trans hcls.1)
  subst hcomp
  obtain ⟨kC, hkC, -⟩ := hcls.2
  refine W.aast F.1 F.2.1 a1 (fun q h => by cases h) (fun h => by cases h) k1 k2 rfl hkC ⟨fun q => i1 (Or.inl q), by rw [arrV_size, i2]; exact i3⟩ g1 (fun q h => by rw [g3] at h; cases h) (by rw [g2]; exact hkC) (by rw [g2]; exact va_assign hcls) rfl rfl hd fun H' e1 e2 e3 => ?_
  refine kk p e s m0 args below meth c9 H' _ L F hL hl (z_ot (z_ot (z_ot ho))) ?_ (z_lq hq (Nat.le_add_right _ _))
  refine z_H_set hH hc e2 e3 (fun _ h => z_up_ne h) (fun _ _ => rfl) ?_
  unfold z_cl
  rw [hs, if_neg (by simp)]
  refine ⟨?_, a2⟩
  rw [e1, i2, arrV_store]
  refine congrArg some (congrArg (arrV _ _) (funext fun j => ?_))
  unfold updV
  show _ = z_ref X (z_up σ c i r2 c (j : Int))
  rw [z_up_at]
  dsimp only
  by_cases h : j = i.toNat
  · rw [if_pos h, if_pos (by omega), hr2, z_ref_n]
  · rw [if_neg h, if_neg (by omega)]; rfl
end ZN
/-- long[4][60] -/
def z_m5 (σ : z_G) (N : Nat) : z_G := fun c => if c = N then (fun j => ((N + 1 : Nat) : Int) + j) else if N < c ∧ c < N + 5 then (fun _ => -1) else σ c
def z_m0 (g : z_G) (N : Nat) : z_G := fun c => if N ≤ c ∧ c < N + 5 then (fun _ => 0) else g c

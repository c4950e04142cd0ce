/-! own words: abstract values, cells, heaps -/
abbrev z_t : Type := Nat × Int
abbrev z_G : Type := Nat → Int → Int
abbrev z_X : Type := Launch × va_G × (Nat → ClassId) × (Nat × Nat × Heap) × ((Nat → Nat) × (Nat → Nat)) × (Nat → Nat × Nat)
def z_l (X : z_X) : Launch := X.1
def z_D (X : z_X) : va_G := X.2.1
def z_A (X : z_X) : Nat → ClassId := X.2.2.1
def z_b (X : z_X) : Nat := X.2.2.2.1.1
def z_tl (X : z_X) : Nat := X.2.2.2.1.2.1
def z_h (X : z_X) : Heap := X.2.2.2.1.2.2
def z_aK (X : z_X) : Nat → Nat := X.2.2.2.2.1.1
def z_aV (X : z_X) : Nat → Nat := X.2.2.2.2.1.2
def z_sh (X : z_X) : Nat → Nat × Nat := X.2.2.2.2.2
def z_ref (X : z_X) (v : Int) : Value := if v < 0 then .null else .ref (z_b X + v.toNat)
theorem z_ref_n (X : z_X) (c : Nat) : z_ref X (c : Int) = .ref (z_b X + c) := by
  unfold z_ref; rw [if_neg (by omega)]; rfl
def z_v (X : z_X) (x : z_t) : Value := match x.1 with
  | 0 => .int (Int32.ofInt x.2)
  | 1 => .long (Int64.ofInt x.2)
  | 2 => z_ref X x.2
  | 3 => .ref (z_aV X x.2.toNat)
  | _ => .ref (z_aK X x.2.toNat)
def z_ok (x : z_t) : Prop := match x.1 with
  | 0 => -2147483648 ≤ x.2 ∧ x.2 ≤ 2147483647
  | 1 => -9223372036854775808 ≤ x.2 ∧ x.2 ≤ 9223372036854775807
  | _ => True
theorem z_cat (X : z_X) (x : z_t) : (z_v X x).category = if x.1 = 1 then 2 else 1 := by
  obtain ⟨k, v⟩ := x
  match k with
  | 0 => rfl
  | 1 => rfl
  | 2 => show (z_ref X v).category = _; unfold z_ref; split <;> rfl
  | 3 => rfl
  | (n + 4) => rfl
def z_rg (t : Nat) (v : Int) : Prop := match t with
  | 0 => -2147483648 ≤ v ∧ v ≤ 2147483647
  | 1 => -9223372036854775808 ≤ v ∧ v ≤ 9223372036854775807
  | 3 => 0 ≤ v ∧ v ≤ 65535
  | 4 => -128 ≤ v ∧ v ≤ 127
  | 5 => 0 ≤ v ∧ v ≤ 1
  | _ => True
def z_fv (X : z_X) (ci : Nat) (σ g : Int → Int) (k : Nat) : Value := match z_fk ci k with
  | 1 => .long (Int64.ofInt (g (k : Int)))
  | 2 => z_ref X (σ (k : Int))
  | _ => .int (Int32.ofInt (g (k : Int)))
/-- what an array's kind (1 int, 2 long, 3 char, 4 byte, 5 long[], 6 Board) keeps to -/
def z_et (t : Nat) : Nat := match t with
  | 1 => 0
  | 2 => 1
  | 3 => 3
  | 4 => 4
  | _ => 9
def z_ev (X : z_X) (t : Nat) (σ g : Int → Int) (j : Nat) : Value := match t with
  | 2 => .long (Int64.ofInt (g (j : Int)))
  | 5 => z_ref X (σ (j : Int))
  | 6 => z_ref X (σ (j : Int))
  | _ => .int (Int32.ofInt (g (j : Int)))
def z_cl (X : z_X) (c : Nat) (σ g : Int → Int) (H : Heap) : Prop :=
  if (z_sh X c).1 = 0 then t_OB (z_b X + c) ((z_D X).1 (z_sh X c).2) (z_nf (z_sh X c).2) ((z_D X).2 (z_sh X c).2) H (z_fv X (z_sh X c).2 σ g) ∧ ∀ k : Nat, k < z_nf (z_sh X c).2 → z_rg (z_fk (z_sh X c).2 k) (g k)
  else H[z_b X + c]? = some (arrV (z_A X (z_sh X c).1) (z_sh X c).2 (z_ev X (z_sh X c).1 σ g)) ∧ ∀ j : Nat, j < (z_sh X c).2 → z_rg (z_et (z_sh X c).1) (g j)
def z_H (X : z_X) (N : Nat) (σ g : z_G) (H : Heap) : Prop :=
  H.size = z_b X + N + z_tl X ∧ (∀ q : Nat, (q < z_b X ∨ z_b X + N ≤ q) → H[q]? = (z_h X)[q]?) ∧ ∀ c : Nat, c < N → z_cl X c (σ c) (g c) H
def z_tys (X : z_X) : List (ClassId × FieldType) := [(z_A X 0, .int), (z_A X 1, .int), (z_A X 2, .long), (z_A X 3, .char), (z_A X 4, .byte), (z_A X 5, .array .long), (z_A X 6, .object "FareyRank$Board")]
/-- the texts: 21 unlike ones -/
def z_tx : List String := ["odds", "order", "here", "by", "pin", "weight", "end", "left", "right", "up", "flip", "lift", "any", "when", "loop", "stop", "at", "pinned", "depth", "bottom", " odds order here pin by weight left right up flip lift any when loop end stop at pinned depth bottom "]
def z_slen : List Nat := [4, 5, 4, 2, 3, 6, 3, 4, 5, 2, 4, 4, 3, 4, 4, 4, 2, 6, 5, 6, 101]
def z_sbyt : List (List Int32) := z_tx.map (fun s => s.toList.map (fun c => Int32.ofNat c.toNat))
/-- where a text is told: class, entry, which -/
def z_sr : List (String × Nat × Nat) := [("FareyRank$Parser", 70, 0), ("FareyRank$Parser", 83, 1), ("FareyRank$Parser", 88, 2), ("FareyRank$Parser", 162, 3), ("FareyRank$Parser", 93, 4), ("FareyRank$Parser", 156, 5), ("FareyRank$Parser", 182, 6), ("FareyRank$Program", 42, 7), ("FareyRank$Program", 44, 8), ("FareyRank$Program", 46, 9), ("FareyRank$Program", 48, 10), ("FareyRank$Program", 50, 4), ("FareyRank$Program", 52, 11), ("FareyRank$Program", 54, 1), ("FareyRank$Program", 56, 12), ("FareyRank$Program", 58, 13), ("FareyRank$Program", 60, 14), ("FareyRank$Program", 62, 15), ("FareyRank$Program", 64, 6), ("FareyRank$Parser", 235, 16), ("FareyRank$Parser", 236, 17), ("FareyRank$Parser", 238, 18), ("FareyRank$Parser", 240, 19), ("FareyRankModel", 169, 20)]
/-- the word of long[][] -/
def z_aw (U : State) : Prop := (Cond.arrayOver (.array .long)).before #[] U = true
theorem z_aw_spec {U : State} (h : z_aw U) : ∃ comp c k, U.vm.findClass (FieldType.array .long).toString = some comp ∧ (U.vm.classes.findIdx? fun (x : Class) => match x.kind with | .array component _ => component == comp | _ => false) = some c ∧ U.vm.classes[c]? = some k ∧ k.kind = .array comp (.array .long) ∧ U.vm.findClass ("[" ++ (FieldType.array .long).toString) = some c := by
  unfold z_aw Cond.before at h
  simp only [Cond.holds, Cond.value, beq_iff_eq] at h
  cases hc : U.vm.findClass (FieldType.array .long).toString with
  | none => simp [hc] at h
  | some comp =>
    simp only [hc, Option.bind_some, Option.bind_eq_some_iff, Option.map_eq_some_iff] at h
    obtain ⟨c, hi, k, hk, hb⟩ := h
    obtain ⟨hlt, hp, -⟩ := Array.findIdx?_eq_some_iff_getElem.mp hi
    have hkk : U.vm.classes[c] = k := (Array.getElem?_eq_some_iff.mp hk).2
    rw [hkk] at hp
    cases hkind : k.kind with
    | array component ty =>
      rw [hkind] at hb hp
      simp at hb hp
      exact ⟨comp, c, k, rfl, hi, hk, by rw [hkind, hp, hb.1], hb.2⟩
    | _ => rw [hkind] at hb; simp at hb
theorem z_aw_moved {u U : State} (hvm : u.vm.Alike U.vm) (h : z_aw u) : z_aw U := by
  obtain ⟨comp, c, k, h1, h2, h3, h4, h5⟩ := z_aw_spec h
  obtain ⟨k', hk', he⟩ := hvm.2.2 _ _ h3
  have hi : (U.vm.classes.findIdx? fun (x : Class) => match x.kind with | .array component _ => component == comp | _ => false) = some c := by
    have hb : U.vm.bare = u.vm.bare := by first | exact hvm.bare_eq | exact hvm.bare_eq.symm
    have e1 := va_idx_bare U.vm comp
    have e2 := va_idx_bare u.vm comp
    rw [hb] at e1
    exact e1.symm.trans (e2.trans h2)
  have hkind : k'.kind = .array comp (.array .long) := by rw [he]; exact h4
  have f1 : U.vm.findClass (FieldType.array .long).toString = some comp := by rw [hvm.findClass]; exact h1
  have f2 : U.vm.findClass ("[" ++ (FieldType.array .long).toString) = some c := by rw [hvm.findClass]; exact h5
  unfold z_aw Cond.before Cond.holds
  simp only [Cond.value]
  rw [f1, Option.bind_some]
  refine (congrArg (fun o : Option Nat => (o.bind (fun c => (U.vm.classes[c]?).map fun (k : Class) => match k.kind with | .array _ ty => decide (ty = FieldType.array .long) && decide (U.vm.findClass ("[" ++ (FieldType.array .long).toString) = some c) | _ => false) == some true)) hi).trans ?_
  simp [hk', hkind, f2]
/-- what static fields hold that nobody writes -/
def z_fo (X : z_X) (U : State) : Prop := va_Z "jdk/internal/util/Preconditions" "SIOOBE_FORMATTER" "Ljava/util/function/BiFunction;" .null (fun q => z_b X ≤ q) U (z_h X) ∨ va_Z "jdk/internal/util/Preconditions" "SIOOBE_FORMATTER" "Ljava/util/function/BiFunction;" (.ref (z_aV X 21)) (fun q => z_b X ≤ q) U (z_h X)
theorem z_fo_moved {X : z_X} {u U : State} (hvm : u.vm.Alike U.vm) (h : z_fo X u) : z_fo X U := h.elim (fun h => Or.inl (va_Z.moved hvm h)) (fun h => Or.inr (va_Z.moved hvm h))
def z_K (X : z_X) (U : State) : Prop := va_K (z_D X) vwCl (z_tys X) U ∧ vk_S 21 z_slen z_sbyt (z_aK X) (z_aV X) (fun q => z_b X ≤ q) U (z_h X) ∧ (∀ q ∈ z_sr, vk_R q.1 q.2.1 (z_tx.getD q.2.2 "") (z_aK X q.2.2) U) ∧ (∀ q ∈ z_nl, va_Nw (.methodLinkNest q.1 q.2.1 q.2.2 "FareyRank") U) ∧ va_AO "FareyRank$Board" U ∧ z_aw U ∧ va_Z "java/lang/String" "COMPACT_STRINGS" "Z" (.int 1) (fun q => z_b X ≤ q) U (z_h X) ∧ z_fo X U
theorem z_K.warm {X : z_X} {s U : State} (hW : s.WarmedH U.vm) (h : z_K X s) : z_K X U := ⟨va_K.moved hW.alike h.1, h.2.1.moved hW.alike, fun q hq => (h.2.2.1 q hq).warm hW, fun q hq => (h.2.2.2.1 q hq).warmM hW, h.2.2.2.2.1.moved hW.alike, z_aw_moved hW.alike h.2.2.2.2.2.1, va_Z.moved hW.alike h.2.2.2.2.2.2.1, z_fo_moved hW.alike h.2.2.2.2.2.2.2⟩
theorem z_K.same {X : z_X} {s U : State} (hv : U.vm = s.vm) (h : z_K X s) : z_K X U := ⟨va_K.moved (by rw [hv]; exact Vm.Alike.refl s.vm) h.1, h.2.1.moved (by rw [hv]; exact Vm.Alike.refl s.vm), fun q hq => (h.2.2.1 q hq).same hv, fun q hq => (h.2.2.2.1 q hq).same rfl hv.symm, h.2.2.2.2.1.moved (by rw [hv]; exact Vm.Alike.refl s.vm), z_aw_moved (by rw [hv]; exact Vm.Alike.refl s.vm) h.2.2.2.2.2.1, va_Z.moved (by rw [hv]; exact Vm.Alike.refl s.vm) h.2.2.2.2.2.2.1, z_fo_moved (by rw [hv]; exact Vm.Alike.refl s.vm) h.2.2.2.2.2.2.2⟩
/-- numbers -/
theorem z_i {v : Int} (h : -2147483648 ≤ v ∧ v ≤ 2147483647) : (Int32.ofInt v).toInt = v := Int32.toInt_ofInt_of_le (by omega) (by omega)
theorem z_j {v : Int} (h : -9223372036854775808 ≤ v ∧ v ≤ 9223372036854775807) : (Int64.ofInt v).toInt = v := Int64.toInt_ofInt_of_le (by omega) (by omega)
theorem z_ir (x : Int32) : -2147483648 ≤ x.toInt ∧ x.toInt ≤ 2147483647 := by
  have h1 := x.le_toInt
  have h2 := x.toInt_lt
  omega
theorem z_jr (x : Int64) : -9223372036854775808 ≤ x.toInt ∧ x.toInt ≤ 9223372036854775807 := by
  have h1 := x.le_toInt
  have h2 := x.toInt_lt
  omega
theorem z_in_vp {i : Int} {n : Nat} (h : 0 ≤ i ∧ i < n) (hn : (n : Int) ≤ 2147483647) : vp_in (Int32.ofInt i) n := by
  rw [vp_in_iff, z_i (by omega)]; exact h
theorem z_clamp {i : Int} (h : 0 ≤ i ∧ i ≤ 2147483647) : (Int32.ofInt i).toNatClampNeg = i.toNat := by
  show (Int32.ofInt i).toInt.toNat = _
  rw [z_i (by omega)]
def z_up (g : z_G) (c : Nat) (i v : Int) : z_G := fun c' i' => if c' = c ∧ i' = i then v else g c' i'

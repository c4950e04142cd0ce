/-! ## long[4][60] is made -/
section ZM
variable {X : z_X} {d mc ms : Nat} {M : z_M} {pc : Nat} {ls : z_L} {st : List z_t} {uc us N : Nat} {σ g : z_G} {Q : z_Q}
theorem z_outer {cA : ClassId} {h0 : Nat} {f : Nat → Value} (hf : ∀ j, j < 4 → f j = .ref (h0 + 1 + j)) : Multi.outerC cA 4 h0 4 = arrV cA 4 f := by
  obtain ⟨a1, a2, a3⟩ := Multi.outerC_facts cA 4 h0 4
  have hs : (Multi.outerC cA 4 h0 4).slots = (arrV cA 4 f).slots := by
    refine Array.ext_getElem? fun j => ?_
    by_cases hj : j < 4
    · rw [Multi.outerC_slot cA 4 h0 4 j hj, if_pos hj, arrV_read _ _ hj, hf j hj]
    · rw [Array.getElem?_eq_none (by rw [a3]; omega), Array.getElem?_eq_none (by rw [arrV_size]; omega)]
  have e : Multi.outerC cA 4 h0 4 = { arrV cA 4 f with slots := (Multi.outerC cA 4 h0 4).slots } := rfl
  exact e.trans (by rw [hs])
theorem z_multi {n k idx : Nat} (hd : decode (z_c M) pc = .ok (.multianewarray idx 2, 4)) (hcl : Cond.classLink (z_y M).cls idx "[[J" ∈ z_tb) (hs0 : z_sh X N = (5, 4)) (hs1 : z_sh X (N + 1) = (2, 60)) (hs2 : z_sh X (N + 2) = (2, 60)) (hs3 : z_sh X (N + 3) = (2, 60)) (hs4 : z_sh X (N + 4) = (2, 60)) (ht : z_tl X = 0) (hu : uc + 5 ≤ mc) (hus : us + 244 ≤ ms)
    (kk : z_V X d mc ms M (pc + 4) ls ((2, (N : Int)) :: st) (uc + 5) (us + 244) (N + 5) (z_m5 σ N) (z_m0 g N) Q) : z_V X d mc ms M pc ls ((0, 60) :: (0, 4) :: st) uc us N σ g Q := by
  intro p e s m args below meth c9 H locs L F hL hl' ho hH hq
  have hts := F.2.2.2.2.2.1
  have hK := F.2.2.2.2.2.2.2.1
  have hsz : H.size = z_b X + N := by rw [hH.1, ht, Nat.add_zero]
  have e4 : Int32.toNatClampNeg 4 = 4 := by decide
  have e60 : Int32.toNatClampNeg 60 = 60 := by decide
  intro T hT XX
  obtain ⟨vm₁, cA, comp, hW, hfA, hfC, hO, hI, X1, step⟩ := XX.multianewarray2F F.1 (own := (z_y M).cls) (index := idx) (ty := .long) F.2.2.2.2.1 (hts _ hcl) hK.2.2.2.2.2.1 (hts _ w_ac_long) (g := F0 m pc L (.int 60 :: .int 4 :: st.map (z_v X))) rfl (by rw [F.2.1]; exact hd) (n := 4) (k := 60) rfl (by decide) (by decide) (by decide) (by decide) (by decide) (by decide) (by decide) (by rw [e4]; exact hu) (by rw [e4, e60]; exact hus)
  rw [e4, e60] at X1 step
  have e5 : cA = z_A X 5 := Option.some.inj (hfA.symm.trans (hK.1.2 5 (z_A X 5, .array .long) rfl).2)
  have e2 : comp = z_A X 2 := Option.some.inj (hfC.symm.trans (hK.1.2 2 (z_A X 2, .long) rfl).2)
  subst e5; subst e2
  have hTs : (T.setVm vm₁).heap = H := hT
  obtain ⟨f1, f2, -, -⟩ := Multi.fill_facts (T.setVm vm₁) (z_A X 5) (z_A X 2) 4 60 (defaultValue .long) 4
  have fo : ∀ a : Nat, a < H.size → (Multi.fill (T.setVm vm₁) (z_A X 5) (z_A X 2) 4 60 (defaultValue .long) 4).heap[a]? = H[a]? := fun a ha => by
    have h := Multi.fill_old (T.setVm vm₁) (z_A X 5) (z_A X 2) 4 60 (defaultValue .long) (a := a) (by rw [hTs]; exact ha) 4
    rw [hTs] at h; exact h
  have fi : ∀ j : Nat, j < 4 → (Multi.fill (T.setVm vm₁) (z_A X 5) (z_A X 2) 4 60 (defaultValue .long) 4).heap[H.size + 1 + j]? = some (Multi.innerC (z_A X 2) 60 (defaultValue .long)) := fun j hj => by
    have h := Multi.fill_inner (T.setVm vm₁) (z_A X 5) (z_A X 2) 4 60 (defaultValue .long) 4 j hj
    rw [hTs] at h; exact h
  rw [hTs] at f1 f2
  generalize Multi.fill (T.setVm vm₁) (z_A X 5) (z_A X 2) 4 60 (defaultValue .long) 4 = T2 at *
  have key := kk p e s m args below meth c9 T2.heap locs L F hL hl' (z_op (z_ot (z_ot ho)) trivial) ?_ hq _ rfl X1
  · obtain ⟨t, a1, b1⟩ := key
    refine ⟨t, step t ?_, b1⟩
    rw [List.map_cons, z_mr rfl, ← hsz] at a1
    rw [hT]
    exact a1
  · obtain ⟨h1, h2, h3⟩ := hH
    refine ⟨by rw [f1, hsz, ht]; omega, fun q hq => ?_, fun c hc => ?_⟩
    · rcases hq with hq | hq
      · rw [fo q (by omega)]; exact h2 q (Or.inl hq)
      · rw [← h2 q (Or.inr (by omega)), Array.getElem?_eq_none (by rw [f1]; omega), Array.getElem?_eq_none (by omega)]
    · by_cases c1 : c < N
      · have e1 : z_m5 σ N c = σ c := by unfold z_m5; rw [if_neg (by omega), if_neg (by omega)]
        have e2 : z_m0 g N c = g c := by unfold z_m0; rw [if_neg (by omega)]
        rw [e1, e2]
        exact z_cl_kept (h3 c c1) (fo _ (by omega))
      · have g0 : z_m0 g N c = fun _ => 0 := by unfold z_m0; rw [if_pos (by omega)]
        by_cases c2 : c = N
        · subst c2
          have e1 : z_m5 σ c c = fun j => ((c + 1 : Nat) : Int) + j := by unfold z_m5; rw [if_pos rfl]
          rw [e1, g0]
          unfold z_cl
          rw [hs0]
          refine ⟨?_, fun j hj => trivial⟩
          rw [← hsz, f2]
          refine congrArg some (z_outer fun j hj => ?_)
          show z_ref X (((c + 1 : Nat) : Int) + (j : Int)) = _
          rw [show ((c + 1 : Nat) : Int) + (j : Int) = ((c + 1 + j : Nat) : Int) by omega, z_ref_n, hsz, show z_b X + (c + 1 + j) = z_b X + c + 1 + j by omega]
        · have e1 : z_m5 σ N c = fun _ => -1 := by unfold z_m5; rw [if_neg c2, if_pos (by omega)]
          have es : z_sh X c = (2, 60) := by
            rcases (show c = N + 1 ∨ c = N + 2 ∨ c = N + 3 ∨ c = N + 4 by omega) with rfl | rfl | rfl | rfl
            · exact hs1
            · exact hs2
            · exact hs3
            · exact hs4
          rw [e1, g0]
          unfold z_cl
          rw [es]
          refine ⟨?_, fun j hj => (by constructor <;> decide : z_rg 1 0)⟩
          have := fi (c - N - 1) (by omega)
          rw [show H.size + 1 + (c - N - 1) = z_b X + c by omega] at this
          rw [this]
          refine congrArg some ?_
          unfold Multi.innerC
          rw [arrV_new]; rfl
end ZM

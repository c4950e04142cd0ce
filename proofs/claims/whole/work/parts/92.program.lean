/-! ## TOURS as a text: the program so far -/
theorem iLn.c1 {fx fx' : Nat → Int → Int} {fm fm' : Int → Int} {n L L' : Int} (h : iLn fx fm n L) (hL : L ≤ L') (hx : ∀ j, 9 ≤ j → j ≤ 13 → fx' j n = fx j n) (hy : fx 9 n = 8 ∨ fx 9 n = 9 ∨ fx 9 n = 11 → fx' 9 (fx 13 n) = fx 9 (fx 13 n) ∧ fx' 13 (fx 13 n) = fx 13 (fx 13 n)) (hm : ∀ i, 246 + 6 * n ≤ i → i ≤ 246 + 6 * n + 5 → fm' i = fm i) : iLn fx' fm' n L' := by
  unfold iLn at h ⊢
  dsimp only at h ⊢
  rw [hx 9 (by omega) (by omega), hx 10 (by omega) (by omega), hx 11 (by omega) (by omega), hx 12 (by omega) (by omega), hx 13 (by omega) (by omega), hm _ (by omega) (by omega), hm _ (by omega) (by omega), hm _ (by omega) (by omega), hm _ (by omega) (by omega), hm _ (by omega) (by omega)]
  rcases h with h | h | h | h | h | h | h | h | ⟨q0, q1, q2, q3, q4, q5, q6⟩ | ⟨q0, q1, q2, q3, q4, q5, q6, q7, q8, q9⟩ | h | ⟨q0, q1, q2, q3, q4, q5, q6⟩
  · exact Or.inl h
  · exact Or.inr (Or.inl h)
  · exact Or.inr (Or.inr (Or.inl h))
  · exact Or.inr (Or.inr (Or.inr (Or.inl h)))
  · exact Or.inr (Or.inr (Or.inr (Or.inr (Or.inl h))))
  · exact Or.inr (Or.inr (Or.inr (Or.inr (Or.inr (Or.inl h)))))
  · exact Or.inr (Or.inr (Or.inr (Or.inr (Or.inr (Or.inr (Or.inl h))))))
  · exact Or.inr (Or.inr (Or.inr (Or.inr (Or.inr (Or.inr (Or.inr (Or.inl h)))))))
  · obtain ⟨e1, e2⟩ := hy (Or.inl q0)
    exact Or.inr (Or.inr (Or.inr (Or.inr (Or.inr (Or.inr (Or.inr (Or.inr (Or.inl ⟨q0, q1, q2, by omega, by rw [e1]; exact q4, by rw [e2]; exact q5, q6⟩))))))))
  · obtain ⟨e1, e2⟩ := hy (Or.inr (Or.inl q0))
    exact Or.inr (Or.inr (Or.inr (Or.inr (Or.inr (Or.inr (Or.inr (Or.inr (Or.inr (Or.inl ⟨q0, q1, q2, q3, q4, q5, q6, by omega, by rw [e1]; exact q8, by rw [e2]; exact q9⟩)))))))))
  · exact Or.inr (Or.inr (Or.inr (Or.inr (Or.inr (Or.inr (Or.inr (Or.inr (Or.inr (Or.inr (Or.inl h))))))))))
  · obtain ⟨e1, e2⟩ := hy (Or.inr (Or.inr q0))
    exact Or.inr (Or.inr (Or.inr (Or.inr (Or.inr (Or.inr (Or.inr (Or.inr (Or.inr (Or.inr (Or.inr ⟨q0, q1, q2, q3, q4, by rw [e1]; exact q5, by rw [e2]; exact q6⟩))))))))))
/-- a line that has no end yet -/
def pOp (fx : Nat → Int → Int) (fm : Int → Int) (n : Int) : Prop := fx 13 n = n ∧ ((fx 9 n = 8 ∧ ((fm (246 + 6 * n) = 1216 ∧ fx 10 n = 0 ∧ fx 11 n = fm (246 + 6 * n + 1) ∧ fx 12 n = fm (246 + 6 * n + 2)) ∨ (fm (246 + 6 * n) = 1217 ∧ fx 10 n = 1) ∨ ((fm (246 + 6 * n) = 1218 ∧ fx 10 n = 2 ∨ fm (246 + 6 * n) = 1219 ∧ fx 10 n = 3) ∧ fx 11 n = fm (246 + 6 * n + 5) ∧ (fm (246 + 6 * n + 5) = 60 ∨ fm (246 + 6 * n + 5) = 61 ∨ fm (246 + 6 * n + 5) = 62) ∧ fx 12 n = fm (246 + 6 * n + 1) ∧ 0 ≤ fm (246 + 6 * n + 1) ∧ fm (246 + 6 * n + 1) ≤ 9999))) ∨ (fx 9 n = 9 ∧ fm (246 + 6 * n) = 13 ∧ fx 11 n = fm (246 + 6 * n + 1) ∧ 1 ≤ fm (246 + 6 * n + 1) ∧ fm (246 + 6 * n + 1) ≤ 99))
theorem pOp.c1 {fx fx' : Nat → Int → Int} {fm fm' : Int → Int} {n : Int} (h : pOp fx fm n) (hx : ∀ j, 9 ≤ j → j ≤ 13 → fx' j n = fx j n) (hm : ∀ i, 246 + 6 * n ≤ i → i ≤ 246 + 6 * n + 5 → fm' i = fm i) : pOp fx' fm' n := by
  unfold pOp at h ⊢
  rw [hx 9 (by omega) (by omega), hx 10 (by omega) (by omega), hx 11 (by omega) (by omega), hx 12 (by omega) (by omega), hx 13 (by omega) (by omega), hm _ (by omega) (by omega), hm _ (by omega) (by omega), hm _ (by omega) (by omega), hm _ (by omega) (by omega)]
  exact h
/-- L lines, d of them without an end yet: those that s names -/
def gP (fx : Nat → Int → Int) (fm : Int → Int) (s : Int → Int) (L d : Int) : Prop :=
  (∀ n, 0 ≤ n → n < L → (∀ j, 0 ≤ j → j < d → s j ≠ n) → iLn fx fm n L) ∧ (∀ j, 0 ≤ j → j < d → 0 ≤ s j ∧ s j < L ∧ pOp fx fm (s j)) ∧ (∀ j k, 0 ≤ j → j < k → k < d → s j < s k)
  ∧ (∀ n m, 0 ≤ n → n < m → m < L → (fx 9 n = 8 ∨ fx 9 n = 9) → (fx 9 m = 8 ∨ fx 9 m = 9) → m < fx 13 n → fx 13 m < fx 13 n)
  ∧ (∀ j n, 0 ≤ j → j < d → 0 ≤ n → n < s j → (fx 9 n = 8 ∨ fx 9 n = 9) → fx 13 n < s j)
theorem iLn_mate {fx : Nat → Int → Int} {fm : Int → Int} {n L : Int} (h : iLn fx fm n L) (h0 : 0 ≤ n) : (fx 9 n = 8 ∨ fx 9 n = 9 → n < fx 13 n ∧ fx 13 n < L ∧ fx 9 (fx 13 n) = 11 ∧ fx 13 (fx 13 n) = n) ∧ (fx 9 n = 11 → 0 ≤ fx 13 n ∧ fx 13 n < n ∧ fx 13 (fx 13 n) = n ∧ (fx 9 (fx 13 n) = 8 ∨ fx 9 (fx 13 n) = 9)) := by
  unfold iLn at h
  dsimp only at h
  rcases h with h | h | h | h | h | h | h | h | ⟨q0, q1, q2, q3, q4, q5, q6⟩ | ⟨q0, q1, q2, q3, q4, q5, q6, q7, q8, q9⟩ | h | ⟨q0, q1, q2, q3, q4, q5, q6⟩
  · exact ⟨fun z => by exfalso; omega, fun z => by exfalso; omega⟩
  · exact ⟨fun z => by exfalso; omega, fun z => by exfalso; omega⟩
  · exact ⟨fun z => by exfalso; omega, fun z => by exfalso; omega⟩
  · exact ⟨fun z => by exfalso; omega, fun z => by exfalso; omega⟩
  · exact ⟨fun z => by exfalso; omega, fun z => by exfalso; omega⟩
  · exact ⟨fun z => by exfalso; omega, fun z => by exfalso; omega⟩
  · exact ⟨fun z => by exfalso; omega, fun z => by exfalso; omega⟩
  · exact ⟨fun z => by exfalso; omega, fun z => by exfalso; omega⟩
  · exact ⟨fun _ => ⟨by omega, by omega, q4, q5⟩, fun z => by exfalso; omega⟩
  · exact ⟨fun _ => ⟨by omega, by omega, q8, q9⟩, fun z => by exfalso; omega⟩
  · exact ⟨fun z => by exfalso; omega, fun z => by exfalso; omega⟩
  · exact ⟨fun z => by exfalso; omega, fun _ => ⟨by omega, by omega, q6, q5⟩⟩
section Prog
variable {fx fx' : Nat → Int → Int} {fm fm' : Int → Int} {s s' : Int → Int} {L d : Int}
/-- every when, every loop so far has its mate in range -/
theorem gP.mate (h : gP fx fm s L d) {n : Int} (h0 : 0 ≤ n) (hn : n < L) (hk : fx 9 n = 8 ∨ fx 9 n = 9) : n ≤ fx 13 n ∧ fx 13 n < L := by
  by_cases c : ∃ j, 0 ≤ j ∧ j < d ∧ s j = n
  · obtain ⟨j, j0, j1, j2⟩ := c
    have := (h.2.1 j j0 j1).2.2.1
    rw [j2] at this
    omega
  · have := (iLn_mate (h.1 n h0 hn fun j j0 j1 z => c ⟨j, j0, j1, z⟩) h0).1 hk
    omega
/-- an old closed line, where the lines below L are as they were -/
theorem gP.old (h : gP fx fm s L d) {L' n : Int} (hL : L ≤ L') (h0 : 0 ≤ n) (hn : n < L) (hc : ∀ j, 0 ≤ j → j < d → s j ≠ n) (hx : ∀ j i, 9 ≤ j → j ≤ 13 → 0 ≤ i → i < L → fx' j i = fx j i) (hm : ∀ i, 246 ≤ i → i < 246 + 6 * L → fm' i = fm i) : iLn fx' fm' n L' := by
  have hl := h.1 n h0 hn hc
  obtain ⟨m1, m2⟩ := iLn_mate hl h0
  refine hl.c1 hL (fun j j1 j2 => hx j n j1 j2 h0 hn) (fun z => ?_) (fun i i1 i2 => hm i (by omega) (by omega))
  have b : 0 ≤ fx 13 n ∧ fx 13 n < L := by
    rcases z with z | z | z
    · have := m1 (Or.inl z); omega
    · have := m1 (Or.inr z); omega
    · have := m2 z; omega
  exact ⟨hx 9 _ (by omega) (by omega) b.1 b.2, hx 13 _ (by omega) (by omega) b.1 b.2⟩
/-- a line that needs no end -/
theorem gP.step (h : gP fx fm s L d) (h0 : 0 ≤ L) (hx : ∀ j i, 9 ≤ j → j ≤ 13 → 0 ≤ i → i < L → fx' j i = fx j i) (hm : ∀ i, 246 ≤ i → i < 246 + 6 * L → fm' i = fm i) (hn : iLn fx' fm' L (L + 1)) (hk : ¬ (fx' 9 L = 8 ∨ fx' 9 L = 9)) : gP fx' fm' s (L + 1) d := by
  refine ⟨fun n n0 n1 hc => ?_, fun j j0 j1 => ?_, h.2.2.1, fun n m n0 nm m1 kn km hl => ?_, fun j n j0 j1 n0 n1 kn => ?_⟩
  · by_cases e : n = L
    · rw [e]; exact hn
    · exact h.old (by omega) n0 (by omega) hc hx hm
  · obtain ⟨q1, q2, q3⟩ := h.2.1 j j0 j1
    exact ⟨q1, by omega, q3.c1 (fun k k1 k2 => hx k _ k1 k2 q1 q2) (fun i i1 i2 => hm i (by omega) (by omega))⟩
  · have mL : m < L := by
      by_cases e : m = L
      · rw [e] at km; exact absurd km hk
      · omega
    rw [hx 9 n (by omega) (by omega) n0 (by omega)] at kn
    rw [hx 9 m (by omega) (by omega) (by omega) mL] at km
    rw [hx 13 n (by omega) (by omega) n0 (by omega)] at hl ⊢
    rw [hx 13 m (by omega) (by omega) (by omega) mL]
    exact h.2.2.2.1 n m n0 nm mL kn km hl
  · have := (h.2.1 j j0 j1).2.1
    rw [hx 9 n (by omega) (by omega) n0 (by omega)] at kn
    rw [hx 13 n (by omega) (by omega) n0 (by omega)]
    exact h.2.2.2.2 j n j0 j1 n0 n1 kn
/-- a when or a loop begins -/
theorem gP.opn (h : gP fx fm s L d) (h0 : 0 ≤ L) (hd : 0 ≤ d) (hx : ∀ j i, 9 ≤ j → j ≤ 13 → 0 ≤ i → i < L → fx' j i = fx j i) (hm : ∀ i, 246 ≤ i → i < 246 + 6 * L → fm' i = fm i) (hs : ∀ j, 0 ≤ j → j < d → s' j = s j) (hs' : s' d = L) (hn : pOp fx' fm' L) : gP fx' fm' s' (L + 1) (d + 1) := by
  have old : ∀ n, 0 ≤ n → n < L → (fx' 9 n = 8 ∨ fx' 9 n = 9) → fx' 13 n < L := fun n n0 n1 kn => by
    rw [hx 9 n (by omega) (by omega) n0 n1] at kn
    rw [hx 13 n (by omega) (by omega) n0 n1]
    exact (h.mate n0 n1 kn).2
  refine ⟨fun n n0 n1 hc => ?_, fun j j0 j1 => ?_, fun j k j0 jk k1 => ?_, fun n m n0 nm m1 kn km hl => ?_, fun j n j0 j1 n0 n1 kn => ?_⟩
  · have nL : n ≠ L := fun e => hc d hd (by omega) (by rw [hs', e])
    exact h.old (by omega) n0 (by omega) (fun j j0 j1 z => hc j j0 (by omega) (by rw [hs j j0 j1]; exact z)) hx hm
  · by_cases e : j = d
    · rw [e, hs']; exact ⟨h0, by omega, hn⟩
    · obtain ⟨q1, q2, q3⟩ := h.2.1 j j0 (by omega)
      rw [hs j j0 (by omega)]
      exact ⟨q1, by omega, q3.c1 (fun k k1 k2 => hx k _ k1 k2 q1 q2) (fun i i1 i2 => hm i (by omega) (by omega))⟩
  · by_cases e : k = d
    · rw [e, hs', hs j j0 (by omega)]; exact (h.2.1 j j0 (by omega)).2.1
    · rw [hs j j0 (by omega), hs k (by omega) (by omega)]; exact h.2.2.1 j k j0 jk (by omega)
  · by_cases e : m = L
    · have := old n n0 (by omega) kn; omega
    · rw [hx 9 n (by omega) (by omega) n0 (by omega)] at kn
      rw [hx 9 m (by omega) (by omega) (by omega) (by omega)] at km
      rw [hx 13 n (by omega) (by omega) n0 (by omega)] at hl ⊢
      rw [hx 13 m (by omega) (by omega) (by omega) (by omega)]
      exact h.2.2.2.1 n m n0 nm (by omega) kn km hl
  · by_cases e : j = d
    · rw [e, hs'] at n1 ⊢; exact old n n0 n1 kn
    · rw [hs j j0 (by omega)] at n1 ⊢
      have := (h.2.1 j j0 (by omega)).2.1
      rw [hx 9 n (by omega) (by omega) n0 (by omega)] at kn
      rw [hx 13 n (by omega) (by omega) n0 (by omega)]
      exact h.2.2.2.2 j n j0 (by omega) n0 n1 kn
end Prog

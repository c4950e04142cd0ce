/-! ## TOURS as a text: an end -/
section Prog
variable {fx fx' : Nat → Int → Int} {fm fm' : Int → Int} {s : Int → Int} {L d : Int}
theorem gP.cls (h : gP fx fm s L d) (hd : 1 ≤ d) {b : Int} (hb : s (d - 1) = b) (hx : ∀ j i, 9 ≤ j → j ≤ 13 → 0 ≤ i → i < L → ¬ (j = 13 ∧ i = b) → fx' j i = fx j i) (hm : ∀ i, 246 ≤ i → i < 246 + 6 * L → i ≠ 246 + 6 * b + 4 → fm' i = fm i) (x1 : fx' 9 L = 11) (x2 : fx' 13 L = b) (x3 : fx' 13 b = L) (m1 : fm' (246 + 6 * L) = 14) (m2 : fm' (246 + 6 * L + 4) = b) (m3 : fm' (246 + 6 * b + 4) = L) : gP fx' fm' s (L + 1) (d - 1) := by
  obtain ⟨b0, b1, bo⟩ := h.2.1 (d - 1) (by omega) (by omega)
  rw [hb] at b0 b1 bo
  have rise : ∀ j, 0 ≤ j → j < d - 1 → s j < b := fun j j0 j1 => by
    have := h.2.2.1 j (d - 1) j0 j1 (by omega)
    rw [hb] at this; exact this
  have bb : fx 13 b = b := bo.1
  have kb : fx' 9 b = fx 9 b := hx 9 b (by omega) (by omega) b0 b1 (by omega)
  refine ⟨fun n n0 n1 hc => ?_, fun j j0 j1 => ?_, fun j k j0 jk k1 => h.2.2.1 j k j0 jk (by omega), fun n m n0 nm mL kn km hl => ?_, fun j n j0 j1 n0 n1 kn => ?_⟩
  · by_cases e : n = L
    · rw [e]
      unfold iLn
      dsimp only
      refine Or.inr (Or.inr (Or.inr (Or.inr (Or.inr (Or.inr (Or.inr (Or.inr (Or.inr (Or.inr (Or.inr ⟨x1, m1, by rw [x2, m2], by omega, by omega, ?_, by rw [x2]; exact x3⟩))))))))))
      rw [x2, kb]
      rcases bo.2 with y | y
      · exact Or.inl y.1
      · exact Or.inr y.1
    · by_cases e2 : n = b
      · rw [e2]
        have y0 := hx 10 b (by omega) (by omega) b0 b1 (by omega)
        have y1 := hx 11 b (by omega) (by omega) b0 b1 (by omega)
        have y2 := hx 12 b (by omega) (by omega) b0 b1 (by omega)
        have z0 := hm (246 + 6 * b) (by omega) (by omega) (by omega)
        have z1 := hm (246 + 6 * b + 1) (by omega) (by omega) (by omega)
        have z2 := hm (246 + 6 * b + 2) (by omega) (by omega) (by omega)
        have z5 := hm (246 + 6 * b + 5) (by omega) (by omega) (by omega)
        unfold iLn
        dsimp only
        rcases bo.2 with y | y
        · refine Or.inr (Or.inr (Or.inr (Or.inr (Or.inr (Or.inr (Or.inr (Or.inr (Or.inl ⟨by rw [kb]; exact y.1, by rw [x3, m3], by omega, by omega, by rw [x3]; exact x1, by rw [x3]; exact x2, ?_⟩))))))))
          rw [y0, y1, y2, z0, z1, z2, z5]
          exact y.2
        · refine Or.inr (Or.inr (Or.inr (Or.inr (Or.inr (Or.inr (Or.inr (Or.inr (Or.inr (Or.inl ⟨by rw [kb]; exact y.1, by rw [z0]; exact y.2.1, by rw [y1, z1]; exact y.2.2.1, by rw [z1]; exact y.2.2.2.1, by rw [z1]; exact y.2.2.2.2, by rw [x3, m3], by omega, by omega, by rw [x3]; exact x1, by rw [x3]; exact x2⟩)))))))))
      · have hl := h.1 n n0 (by omega) fun j j0 j1 z => by
          by_cases e3 : j = d - 1
          · rw [e3, hb] at z; exact e2 z.symm
          · exact hc j j0 (by omega) z
        obtain ⟨t1, t2⟩ := iLn_mate hl n0
        refine hl.c1 (by omega) (fun j j1 j2 => hx j n j1 j2 n0 (by omega) (by omega)) (fun z => ?_) (fun i i1 i2 => hm i (by omega) (by omega) (by omega))
        have q : 0 ≤ fx 13 n ∧ fx 13 n < L ∧ fx 13 (fx 13 n) = n := by
          rcases z with z | z | z
          · have := t1 (Or.inl z); exact ⟨by omega, by omega, this.2.2.2⟩
          · have := t1 (Or.inr z); exact ⟨by omega, by omega, this.2.2.2⟩
          · have := t2 z; exact ⟨by omega, by omega, this.2.2.1⟩
        have nb : fx 13 n ≠ b := fun z => by
          have := q.2.2
          rw [z, bb] at this
          exact e2 this.symm
        exact ⟨hx 9 _ (by omega) (by omega) q.1 q.2.1 (by omega), hx 13 _ (by omega) (by omega) q.1 q.2.1 (by omega)⟩
  · have r := rise j j0 j1
    obtain ⟨q1, q2, q3⟩ := h.2.1 j j0 (by omega)
    exact ⟨q1, by omega, q3.c1 (fun k k1 k2 => hx k _ k1 k2 q1 q2 (by omega)) (fun i i1 i2 => hm i (by omega) (by omega) (by omega))⟩
  · have mL' : m < L := by
      by_cases e : m = L
      · rw [e, x1] at km; exfalso; omega
      · omega
    by_cases e : n = b
    · rw [e, x3]
      have hmk := km
      rw [hx 9 m (by omega) (by omega) (by omega) mL' (by omega)] at hmk
      rw [hx 13 m (by omega) (by omega) (by omega) mL' (by omega)]
      exact (h.mate (by omega) mL' hmk).2
    · rw [hx 9 n (by omega) (by omega) n0 (by omega) (by omega)] at kn
      rw [hx 13 n (by omega) (by omega) n0 (by omega) (by omega)] at hl ⊢
      by_cases e2 : m = b
      · have := h.2.2.2.2 (d - 1) n (by omega) (by omega) n0 (by rw [hb]; omega) kn
        rw [hb] at this
        exfalso; omega
      · rw [hx 9 m (by omega) (by omega) (by omega) mL' (by omega)] at km
        rw [hx 13 m (by omega) (by omega) (by omega) mL' (by omega)]
        exact h.2.2.2.1 n m n0 nm mL' kn km hl
  · have r := rise j j0 j1
    rw [hx 9 n (by omega) (by omega) n0 (by omega) (by omega)] at kn
    rw [hx 13 n (by omega) (by omega) n0 (by omega) (by omega)]
    exact h.2.2.2.2 j n j0 (by omega) n0 n1 kn
/-- all ends are there -/
theorem gP.fin (h : gP fx fm s L 0) (h1 : fx 8 0 = 1) (h2 : fx 8 2 = fm 6) (hL : fm 6 = L) (h0 : 0 ≤ L) (h60 : L ≤ 60) : iG fx fm := by
  refine Or.inr ⟨h1, h2, by omega, by omega, fun n n0 n1 => ?_, fun n m n0 nm mL => ?_⟩
  · rw [hL]; exact h.1 n n0 (by omega) (fun j j0 j1 => by exfalso; omega)
  · exact h.2.2.2.1 n m n0 nm (by omega)
end Prog

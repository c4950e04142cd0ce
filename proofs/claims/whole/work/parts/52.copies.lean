/-! ## boards are copied -/
theorem z_c1 {g : z_G} {c c' : Nat} {n i : Int} (h : 0 ≤ i ∧ i < n) : z_cp g c c' 0 0 n c' i = g c i := by
  unfold z_cp; rw [if_pos ⟨rfl, by omega, by omega⟩]; congr 1; omega
theorem z_c2 {g : z_G} {c c' a : Nat} {sp dp n i : Int} (h : a ≠ c') : z_cp g c c' sp dp n a i = g a i := by
  unfold z_cp; rw [if_neg (fun q => h q.1)]
def bR (j : Nat) (i : Int) : Prop := (j = 0 ∧ (i = 0 ∨ i = 1)) ∨ (j = 1 ∧ 0 ≤ i ∧ i ≤ 4) ∨ (j = 2 ∧ i = 3) ∨ (3 ≤ j ∧ j ≤ 5 ∧ 0 ≤ i ∧ i < 12) ∨ (j = 6 ∧ i = 1) ∨ (j = 7 ∧ 0 ≤ i ∧ i < 200) ∨ (j = 8 ∧ 0 ≤ i ∧ i ≤ 2) ∨ (9 ≤ j ∧ j ≤ 13 ∧ 0 ≤ i ∧ i < 60)
theorem s_Sp_copyFrom {X : z_X} {N : Nat} {σ g : z_G} {Q : z_P} {o p : Nat} (ho : z_lay X N σ o z_SSp z_RSp) (hp : z_lay X N σ p z_SSp z_RSp) (hop : p ≠ o) (hq : ∀ g', (∀ i : Int, 0 ≤ i → i ≤ 4 → g' o i = g p i) → (∀ c i, c ≠ o → g' c i = g c i) → Q 0 g') : z_O X 1 m_Sp_copyFrom [(2, ((o : Nat) : Int)), (2, ((p : Nat) : Int))] N σ g Q := by
  refine b_Sp_copyFrom_0 ho hp (hq _ (fun i i0 i4 => ?_) (fun c i hc => ?_))
  · rcases (show i = 0 ∨ i = 1 ∨ i = 2 ∨ i = 3 ∨ i = 4 by omega) with rfl | rfl | rfl | rfl | rfl <;> simp [z_up, hop]
  · simp [z_up, hc]
theorem s_Pi_copyFrom {X : z_X} {N : Nat} {σ g : z_G} {Q : z_P} {o p : Nat} (ho : z_lay X N σ o z_SPi z_RPi) (hp : z_lay X N σ p z_SPi z_RPi) (hop : o + 3 < p ∨ p + 3 < o) (hq : ∀ g', g' o 3 = g p 3 → (∀ (j : Nat) (i : Int), 1 ≤ j → j ≤ 3 → 0 ≤ i → i < 12 → g' (o + j) i = g (p + j) i) → (∀ c i, ¬ (o ≤ c ∧ c ≤ o + 3) → g' c i = g c i) → Q 0 g') : z_O X 1 m_Pi_copyFrom [(2, ((o : Nat) : Int)), (2, ((p : Nat) : Int))] N σ g Q := by
  refine b_Pi_copyFrom_0 ho hp (hq _ ?_ (fun j i j1 j2 i0 i1 => ?_) (fun c i hc => ?_))
  · rw [z_u1, z_c2 (by omega), z_c2 (by omega), z_c2 (by omega)]
  · rw [z_u2 (by omega)]
    rcases (show j = 1 ∨ j = 2 ∨ j = 3 by omega) with rfl | rfl | rfl
    · rw [z_c2 (by omega), z_c2 (by omega), z_c1 ⟨i0, i1⟩]
    · rw [z_c2 (by omega), z_c1 ⟨i0, i1⟩, z_c2 (by omega)]
    · rw [z_c1 ⟨i0, i1⟩, z_c2 (by omega), z_c2 (by omega)]
  · rw [z_u2 (by omega), z_c2 (by omega), z_c2 (by omega), z_c2 (by omega)]
theorem s_Vi_copyFrom {X : z_X} {N : Nat} {σ g : z_G} {Q : z_P} {o p : Nat} (ho : z_lay X N σ o z_SVi z_RVi) (hp : z_lay X N σ p z_SVi z_RVi) (hop : o + 1 < p ∨ p + 1 < o) (hq : ∀ g', g' o 1 = g p 1 → (∀ i : Int, 0 ≤ i → i < 200 → g' (o + 1) i = g (p + 1) i) → (∀ c i, ¬ (o ≤ c ∧ c ≤ o + 1) → g' c i = g c i) → Q 0 g') : z_O X 1 m_Vi_copyFrom [(2, ((o : Nat) : Int)), (2, ((p : Nat) : Int))] N σ g Q := by
  refine b_Vi_copyFrom_0 ho hp (hq _ ?_ (fun i i0 i1 => ?_) (fun c i hc => ?_))
  · rw [z_u1, z_c2 (by omega)]
  · rw [z_u2 (by omega), z_c1 ⟨i0, i1⟩]
  · rw [z_u2 (by omega), z_c2 (by omega)]
theorem s_Pg_copyFrom {X : z_X} {N : Nat} {σ g : z_G} {Q : z_P} {o p : Nat} (ho : z_lay X N σ o z_SPg z_RPg) (hp : z_lay X N σ p z_SPg z_RPg) (hop : o + 5 < p ∨ p + 5 < o) (hq : ∀ g', (∀ i : Int, 0 ≤ i → i ≤ 2 → g' o i = g p i) → (∀ (j : Nat) (i : Int), 1 ≤ j → j ≤ 5 → 0 ≤ i → i < 60 → g' (o + j) i = g (p + j) i) → (∀ c i, ¬ (o ≤ c ∧ c ≤ o + 5) → g' c i = g c i) → Q 0 g') : z_O X 1 m_Pg_copyFrom [(2, ((o : Nat) : Int)), (2, ((p : Nat) : Int))] N σ g Q := by
  refine b_Pg_copyFrom_0 ho hp (hq _ (fun i i0 i1 => ?_) (fun j i j1 j2 i0 i1 => ?_) (fun c i hc => ?_))
  · have hpo : p ≠ o := by omega
    rw [z_c2 (by omega), z_c2 (by omega), z_c2 (by omega), z_c2 (by omega), z_c2 (by omega)]
    rcases (show i = 0 ∨ i = 1 ∨ i = 2 by omega) with rfl | rfl | rfl <;> simp [z_up, hpo]
  · rcases (show j = 1 ∨ j = 2 ∨ j = 3 ∨ j = 4 ∨ j = 5 by omega) with rfl | rfl | rfl | rfl | rfl
    · rw [z_c2 (by omega), z_c2 (by omega), z_c2 (by omega), z_c2 (by omega), z_c1 ⟨i0, i1⟩, z_u2 (by omega), z_u2 (by omega), z_u2 (by omega)]
    · rw [z_c2 (by omega), z_c2 (by omega), z_c2 (by omega), z_c1 ⟨i0, i1⟩, z_c2 (by omega), z_u2 (by omega), z_u2 (by omega), z_u2 (by omega)]
    · rw [z_c2 (by omega), z_c2 (by omega), z_c1 ⟨i0, i1⟩, z_c2 (by omega), z_c2 (by omega), z_u2 (by omega), z_u2 (by omega), z_u2 (by omega)]
    · rw [z_c2 (by omega), z_c1 ⟨i0, i1⟩, z_c2 (by omega), z_c2 (by omega), z_c2 (by omega), z_u2 (by omega), z_u2 (by omega), z_u2 (by omega)]
    · rw [z_c1 ⟨i0, i1⟩, z_c2 (by omega), z_c2 (by omega), z_c2 (by omega), z_c2 (by omega), z_u2 (by omega), z_u2 (by omega), z_u2 (by omega)]
  · rw [z_c2 (by omega), z_c2 (by omega), z_c2 (by omega), z_c2 (by omega), z_c2 (by omega), z_u2 (by omega), z_u2 (by omega), z_u2 (by omega)]
theorem ky_Bd_2 {X : z_X} {N : Nat} {σ : z_G} {o : Nat} (h : z_lay X N σ o z_SBd z_RBd) : z_lay X N σ (o + 2) z_SPi z_RPi := by have h := h.sub (SL' := z_SPi) (RL' := z_RPi) 2 (by decide) rfl (by decide); exact h
theorem ky_Bd_8 {X : z_X} {N : Nat} {σ : z_G} {o : Nat} (h : z_lay X N σ o z_SBd z_RBd) : z_lay X N σ (o + 8) z_SPg z_RPg := by have h := h.sub (SL' := z_SPg) (RL' := z_RPg) 8 (by decide) rfl (by decide); exact h
theorem s_Bd_copyFrom {X : z_X} {N : Nat} {σ g : z_G} {Q : z_P} {o p : Nat} (ho : z_lay X N σ o z_SBd z_RBd) (hp : z_lay X N σ p z_SBd z_RBd) (hop : o + 13 < p ∨ p + 13 < o) (hq : ∀ g', (∀ j i, bR j i → g' (o + j) i = g (p + j) i) → (∀ c i, ¬ (o ≤ c ∧ c ≤ o + 13) → g' c i = g c i) → Q 0 g') : z_O X 2 m_Bd_copyFrom [(2, ((o : Nat) : Int)), (2, ((p : Nat) : Int))] N σ g Q := by
  refine b_Bd_copyFrom_0 ho hp (s_Sp_copyFrom (o := o + 1) (p := p + 1) (ky_Bd_1 ho) (ky_Bd_1 hp) (by omega) fun g1 a1 a2 => s_Pi_copyFrom (o := o + 2) (p := p + 2) (ky_Bd_2 ho) (ky_Bd_2 hp) (by omega) fun g2 b1 b2 b3 => s_Vi_copyFrom (o := o + 6) (p := p + 6) (ky_Bd_6 ho) (ky_Bd_6 hp) (by omega) fun g3 c1 c2 c3 => s_Pg_copyFrom (o := o + 8) (p := p + 8) (ky_Bd_8 ho) (ky_Bd_8 hp) (by omega) fun g4 d1 d2 d3 => hq g4 (fun j i hji => ?_) (fun c i hc => ?_))
  · unfold bR at hji
    by_cases j0 : j = 0
    · subst j0
      rw [d3 _ _ (by omega), c3 _ _ (by omega), b3 _ _ (by omega), a2 _ _ (by omega)]
      rcases (show i = 0 ∨ i = 1 by omega) with rfl | rfl
      · rw [z_u2 (by omega)]; exact z_u1
      · have e : z_up g o 0 (g p 0) p 1 = g p 1 := z_u2 (by omega)
        rw [e]; exact z_u1
    · by_cases j1 : j = 1
      · subst j1
        rw [d3 _ _ (by omega), c3 _ _ (by omega), b3 _ _ (by omega), a1 _ (by omega) (by omega), z_u2 (by omega), z_u2 (by omega)]
      · by_cases j5 : j ≤ 5
        · rw [d3 _ _ (by omega), c3 _ _ (by omega)]
          have e : ∀ c i, ¬ (c = o) → ¬ (c = o + 1) → g1 c i = g c i := fun c i q1 q2 => by rw [a2 c i q2, z_u2 (by omega), z_u2 (by omega)]
          by_cases j2 : j = 2
          · subst j2
            rw [show i = 3 by omega, b1, e _ _ (by omega) (by omega)]
          · have := b2 (j - 2) i (by omega) (by omega) (by omega) (by omega)
            rw [show o + 2 + (j - 2) = o + j by omega, show p + 2 + (j - 2) = p + j by omega] at this
            rw [this, e _ _ (by omega) (by omega)]
        · have e : ∀ c i, ¬ (o ≤ c ∧ c ≤ o + 5) → g2 c i = g c i := fun c i q1 => by rw [b3 c i (by omega), a2 c i (by omega), z_u2 (by omega), z_u2 (by omega)]
          by_cases j7 : j ≤ 7
          · rw [d3 _ _ (by omega)]
            by_cases j6 : j = 6
            · subst j6
              rw [show i = 1 by omega, c1, e _ _ (by omega)]
            · have j77 : j = 7 := by omega
              subst j77
              have := c2 i (by omega) (by omega)
              rw [this, e _ _ (by omega)]
          · have e3 : ∀ c i, ¬ (o ≤ c ∧ c ≤ o + 7) → g3 c i = g c i := fun c i q1 => by rw [c3 c i (by omega), e c i (by omega)]
            by_cases j8 : j = 8
            · subst j8
              rw [d1 i (by omega) (by omega), e3 _ _ (by omega)]
            · have := d2 (j - 8) i (by omega) (by omega) (by omega) (by omega)
              rw [show o + 8 + (j - 8) = o + j by omega, show p + 8 + (j - 8) = p + j by omega] at this
              rw [this, e3 _ _ (by omega)]
  · rw [d3 _ _ (by omega), c3 _ _ (by omega), b3 _ _ (by omega), a2 _ _ (by omega), z_u2 (by omega), z_u2 (by omega)]
theorem iLn.fine {fx fx' : Nat → Int → Int} {fm : Int → Int} {n len : Int} (h : iLn fx fm n len) (hn : 0 ≤ n ∧ n < len ∧ len ≤ 60) (hx : ∀ j i, 9 ≤ j → j ≤ 13 → 0 ≤ i → i < 60 → fx' j i = fx j i) : iLn fx' fm n len := by
  unfold iLn at h ⊢
  dsimp only at h ⊢
  rw [hx 9 n (by omega) (by omega) (by omega) (by omega), hx 10 n (by omega) (by omega) (by omega) (by omega), hx 11 n (by omega) (by omega) (by omega) (by omega), hx 12 n (by omega) (by omega) (by omega) (by omega), hx 13 n (by omega) (by omega) (by omega) (by omega)]
  by_cases c : 0 ≤ fx 13 n ∧ fx 13 n < 60
  · rw [hx 9 (fx 13 n) (by omega) (by omega) c.1 c.2, hx 13 (fx 13 n) (by omega) (by omega) c.1 c.2]; exact h
  · rcases h with h | h | h | h | h | h | h | h | h | h | h | h
    · exact Or.inl h
    · exact Or.inr (Or.inl h)
    · exact Or.inr (Or.inr (Or.inl h))
    · exact Or.inr (Or.inr (Or.inr (Or.inl h)))
    · exact Or.inr (Or.inr (Or.inr (Or.inr (Or.inl h))))
    · exact Or.inr (Or.inr (Or.inr (Or.inr (Or.inr (Or.inl h)))))
    · exact Or.inr (Or.inr (Or.inr (Or.inr (Or.inr (Or.inr (Or.inl h))))))
    · exact Or.inr (Or.inr (Or.inr (Or.inr (Or.inr (Or.inr (Or.inr (Or.inl h)))))))
    · exfalso; omega
    · exfalso; omega
    · exact Or.inr (Or.inr (Or.inr (Or.inr (Or.inr (Or.inr (Or.inr (Or.inr (Or.inr (Or.inr (Or.inl h))))))))))
    · exfalso; omega
theorem iB.fine {fx fx' : Nat → Int → Int} {fm : Int → Int} (h : iB fx fm) (hx : ∀ j i, bR j i → fx' j i = fx j i) : iB fx' fm := by
  obtain ⟨hO, hW, hP, hV, hG⟩ := h
  refine ⟨?_, ?_, ?_, ?_, ?_⟩
  · unfold iO at hO ⊢
    rw [hx 0 0 (by unfold bR; omega), hx 0 1 (by unfold bR; omega)]; exact hO
  · unfold iW at hW ⊢
    rw [hx 1 0 (by unfold bR; omega), hx 1 1 (by unfold bR; omega), hx 1 2 (by unfold bR; omega), hx 1 3 (by unfold bR; omega), hx 1 4 (by unfold bR; omega)]; exact hW
  · unfold iP at hP ⊢
    rw [hx 2 3 (by unfold bR; omega)]
    obtain ⟨p1, p2, p3, p4, p5⟩ := hP
    refine ⟨p1, p2, p3, fun k h1 h2 => ?_, p5⟩
    rw [hx 3 k (by unfold bR; omega), hx 4 k (by unfold bR; omega), hx 5 k (by unfold bR; omega)]
    exact p4 k h1 h2
  · unfold iV at hV ⊢
    rw [hx 6 1 (by unfold bR; omega)]
    obtain ⟨p1, p2, p3, p4, p5, p6, p7⟩ := hV
    refine ⟨p1, p2, p3, fun i j h1 h2 h3 => ?_, fun i h1 h2 => ?_, fun i h1 h2 => ?_, p7⟩
    · rw [hx 7 i (by unfold bR; omega), hx 7 j (by unfold bR; omega)]; exact p4 i j h1 h2 h3
    · obtain ⟨j, q1, q2, q3⟩ := p5 i h1 h2
      exact ⟨j, q1, q2, by rw [hx 7 j (by unfold bR; omega)]; exact q3⟩
    · obtain ⟨j, q1, q2, q3⟩ := p6 i h1 h2
      exact ⟨j, q1, q2, by rw [hx 7 i (by unfold bR; omega)]; exact q3⟩
  · unfold iG at hG ⊢
    rw [hx 8 0 (by unfold bR; omega), hx 8 2 (by unfold bR; omega)]
    rcases hG with h | ⟨p1, p2, p3, p4, p5, p6⟩
    · exact Or.inl h
    · exact Or.inr ⟨p1, p2, p3, p4, fun n h1 h2 => (p5 n h1 h2).fine ⟨h1, h2, p4⟩ fun j i j1 j2 i1 i2 => hx j i (by unfold bR; omega), fun n m h1 h2 h3 => by rw [hx 9 n (by unfold bR; omega), hx 9 m (by unfold bR; omega), hx 13 n (by unfold bR; omega), hx 13 m (by unfold bR; omega)]; exact p6 n m h1 h2 h3⟩

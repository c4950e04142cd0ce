/-! ## TOKENS of the reference -/
/-- kinds: of the class, of the reference -/
def kC (k m : Int) : Prop := (k = 0 ∧ m = 0) ∨ (k = 1 ∧ m = 2) ∨ (k = 2 ∧ m = 3) ∨ (k = 3 ∧ m = 4) ∨ (k = 4 ∧ m = 1)
section Nxt
variable {X : z_X} {N : Nat} {σ g0 : z_G} {Q : z_P} {n : Int}
def fB (g0 g : z_G) : Prop := ∀ c i, ¬ (c = 0 ∧ 11 ≤ i ∧ i ≤ 14) → g c i = g0 c i
theorem fB.up {g0 g : z_G} (h : fB g0 g) {i v : Int} (hi : 11 ≤ i ∧ i ≤ 14) : fB g0 (z_up g 0 i v) := fun c j hc => by rw [z_u2 (by omega)]; exact h c j hc
theorem nxt_81 (hx : z_lay X N σ 0 z_SM z_RM) (hn : g0 0 10 = n ∧ 0 ≤ n ∧ n ≤ 900) {a : Int} (ha : 0 ≤ a) (hq : ∀ g', fB g0 g' → g' 0 12 = a → a ≤ g' 0 13 → g' 0 13 ≤ n → (∀ i, a ≤ i → i < g' 0 13 → kL (g0 6 i % 256)) → (g' 0 13 = n ∨ ¬ kL (g0 6 (g' 0 13) % 256)) → g' 0 11 = 2 → Q 0 g') :
    ∀ (m : Nat) (e : Int) (g : z_G), n ≤ e + m → a ≤ e → e ≤ n → fB g0 g → g 0 12 = a → g 0 13 = e → (∀ i, a ≤ i → i < e → kL (g0 6 i % 256)) → L_M_nextToken_81 X N σ g Q := by
  intro m
  have fin : ∀ (e : Int) (g : z_G), a ≤ e → e ≤ n → fB g0 g → g 0 12 = a → g 0 13 = e → (∀ i, a ≤ i → i < e → kL (g0 6 i % 256)) → (e = n ∨ ¬ kL (g0 6 e % 256)) → Q 0 (z_up g 0 11 2) := fun e g h1 h2 h3 h4 h5 h6 h7 => by
    have e13 : z_up g 0 11 2 0 13 = e := by rw [z_u2 (by omega)]; exact h5
    exact hq _ (h3.up (by omega)) (by rw [z_u2 (by omega)]; exact h4) (by omega) (by omega) (fun i i1 i2 => h6 i i1 (by omega)) (by rw [e13]; exact h7) z_u1
  induction m with
  | zero =>
    intro e g h1 h2 h3 hB h12 h13 hs
    have g10 : g 0 10 = n := (hB 0 10 (by omega)).trans hn.1
    exact b_M_nextToken_81 hx ⟨fun _ => fin e g h2 h3 hB h12 h13 hs (by omega), fun z => by exfalso; omega⟩
  | succ m ih =>
    intro e g h1 h2 h3 hB h12 h13 hs
    have g10 : g 0 10 = n := (hB 0 10 (by omega)).trans hn.1
    have g6 : g 6 (g 0 13) = g0 6 e := by rw [hB 6 _ (by omega), h13]
    refine b_M_nextToken_81 hx ?_
    rw [k_255, g6]
    refine ⟨fun _ => fin e g h2 h3 hB h12 h13 hs (by omega), fun z => ⟨by omega, fun c => fin e g h2 h3 hB h12 h13 hs (Or.inr (by clear hs fin hq; (simp only [kL, kD, kG, kB, kR] at *; omega))), fun c => ⟨fun c2 => fin e g h2 h3 hB h12 h13 hs (Or.inr (by clear hs fin hq; (simp only [kL, kD, kG, kB, kR] at *; omega))), fun c2 => ⟨by omega, ih (e + 1) _ (by omega) (by omega) (by omega) (hB.up (by omega)) (by rw [z_u2 (by omega)]; exact h12) (by rw [z_u1, h13]) (fun i i1 i2 => ?_)⟩⟩⟩⟩
    by_cases w : i = e
    · subst w; clear hs fin hq; (simp only [kL, kD, kG, kB, kR] at *; omega)
    · exact hs i i1 (by omega)
theorem nxt_128 (hx : z_lay X N σ 0 z_SM z_RM) (hn : g0 0 10 = n ∧ 0 ≤ n ∧ n ≤ 900) {a : Int} (ha : 0 ≤ a) (hq : ∀ g', fB g0 g' → g' 0 12 = a → a ≤ g' 0 13 → g' 0 13 ≤ n → (∀ i, a ≤ i → i < g' 0 13 → kD (g0 6 i % 256)) → (g' 0 13 = n ∨ ¬ kD (g0 6 (g' 0 13) % 256)) → ((g' 0 13 - a ≤ 4 ∧ g' 0 11 = 3 ∧ g' 0 14 = kV (fun i => g0 6 i % 256) a (g' 0 13 - a).toNat) ∨ (4 < g' 0 13 - a ∧ g' 0 11 = 1)) → Q 0 g') :
    ∀ (m : Nat) (e : Int) (g : z_G), n ≤ e + m → a ≤ e → e ≤ n → fB g0 g → g 0 12 = a → g 0 13 = e → (∀ i, a ≤ i → i < e → kD (g0 6 i % 256)) → (0 ≤ g 0 14 ∧ g 0 14 ≤ 100000) → (e - a ≤ 4 → g 0 14 = kV (fun i => g0 6 i % 256) a (e - a).toNat) → L_M_nextToken_128 X N σ g Q := by
  intro m
  have fin : ∀ (e : Int) (g : z_G), a ≤ e → e ≤ n → fB g0 g → g 0 12 = a → g 0 13 = e → (∀ i, a ≤ i → i < e → kD (g0 6 i % 256)) → (e - a ≤ 4 → g 0 14 = kV (fun i => g0 6 i % 256) a (e - a).toNat) → (e = n ∨ ¬ kD (g0 6 e % 256)) → (-2147483648 ≤ g 0 13 - g 0 12 ∧ g 0 13 - g 0 12 ≤ 2147483647) ∧ ((g 0 13 - g 0 12 ≤ 4 → Q 0 (z_up g 0 11 3)) ∧ (¬ (g 0 13 - g 0 12 ≤ 4) → Q 0 (z_up g 0 11 1))) := fun e g h1 h2 h3 h4 h5 h6 hv h7 => by
    have e13 : ∀ v, z_up g 0 11 v 0 13 = e := fun v => by rw [z_u2 (by omega)]; exact h5
    have e14 : ∀ v, z_up g 0 11 v 0 14 = g 0 14 := fun v => z_u2 (by omega)
    refine ⟨by omega, fun z => hq _ (h3.up (by omega)) (by rw [z_u2 (by omega)]; exact h4) (by rw [e13]; exact h1) (by rw [e13]; exact h2) (fun i i1 i2 => h6 i i1 (by rw [e13] at i2; exact i2)) (by rw [e13]; exact h7) (Or.inl ⟨by rw [e13]; omega, z_u1, by rw [e13, e14]; exact hv (by omega)⟩), fun z => hq _ (h3.up (by omega)) (by rw [z_u2 (by omega)]; exact h4) (by rw [e13]; exact h1) (by rw [e13]; exact h2) (fun i i1 i2 => h6 i i1 (by rw [e13] at i2; exact i2)) (by rw [e13]; exact h7) (Or.inr ⟨by rw [e13]; omega, z_u1⟩)⟩
  induction m with
  | zero =>
    intro e g h1 h2 h3 hB h12 h13 hs hb hv
    have g10 : g 0 10 = n := (hB 0 10 (by omega)).trans hn.1
    exact b_M_nextToken_128 hx ⟨fun _ => fin e g h2 h3 hB h12 h13 hs hv (by omega), fun z => by exfalso; omega⟩
  | succ m ih =>
    intro e g h1 h2 h3 hB h12 h13 hs hb hv
    have g10 : g 0 10 = n := (hB 0 10 (by omega)).trans hn.1
    have g6 : g 6 (g 0 13) = g0 6 e := by rw [hB 6 _ (by omega), h13]
    refine b_M_nextToken_128 hx ?_
    rw [k_255, g6]
    refine ⟨fun _ => fin e g h2 h3 hB h12 h13 hs hv (by omega), fun z => ⟨by omega, fun c => fin e g h2 h3 hB h12 h13 hs hv (Or.inr (by clear hs fin hq hv; (simp only [kL, kD, kG, kB, kR] at *; omega))), fun c => ⟨fun c2 => fin e g h2 h3 hB h12 h13 hs hv (Or.inr (by clear hs fin hq hv; (simp only [kL, kD, kG, kB, kR] at *; omega))), fun c2 => ⟨by omega, by omega, by omega, fun c3 => ⟨by omega, ?_⟩, fun c3 => ⟨by omega, ?_⟩⟩⟩⟩⟩
    · refine ih (e + 1) _ (by omega) (by omega) (by omega) ((hB.up (by omega)).up (by omega)) (by rw [z_u2 (by omega), z_u2 (by omega)]; exact h12) (by rw [z_u1, h13]) (fun i i1 i2 => ?_) (by rw [z_u2 (by omega), z_u1]; omega) (fun z => ?_)
      · by_cases w : i = e
        · subst w; clear hs fin hq hv; (simp only [kL, kD, kG, kB, kR] at *; omega)
        · exact hs i i1 (by omega)
      · rw [z_u2 (by omega), z_u1, hv (by omega), show (e + 1 - a).toNat = (e - a).toNat + 1 by omega]
        show _ = kV (fun i => g0 6 i % 256) a (e - a).toNat * 10 + (g0 6 (a + ((e - a).toNat : Nat)) % 256 - 48)
        rw [show a + ((e - a).toNat : Int) = e by omega]
        generalize kV (fun i => g0 6 i % 256) a (e - a).toNat = w
        omega
    · refine ih (e + 1) _ (by omega) (by omega) (by omega) ((hB.up (by omega)).up (by omega)) (by rw [z_u2 (by omega), z_u2 (by omega)]; exact h12) (by rw [z_u1, h13]) (fun i i1 i2 => ?_) (by rw [z_u2 (by omega), z_u1]; omega) (fun z => ?_)
      · by_cases w : i = e
        · subst w; clear hs fin hq hv; (simp only [kL, kD, kG, kB, kR] at *; omega)
        · exact hs i i1 (by omega)
      · exfalso
        have v := hv (by omega)
        have vb := kV_4 (f := fun i => g0 6 i % 256) (a := a) (n := (e - a).toNat) (by omega) (fun i i1 i2 => hs i i1 (by omega))
        have vb3 := vb.2.2 (by omega)
        omega
theorem s_M_nextToken (hx : z_lay X N σ 0 z_SM z_RM) (hn : 0 ≤ g0 0 13 ∧ g0 0 13 ≤ g0 0 10 ∧ g0 0 10 ≤ 900) (hq : ∀ g' k, fB g0 g' → kC k (g' 0 11) → kT (fun i => g0 6 i % 256) (g0 0 10) (g0 0 13) (g' 0 12) (g' 0 13) k (g' 0 14) → (k = 3 → g' 0 14 = g0 6 (g' 0 12) % 256) → Q 0 g') : z_O X 2 m_M_nextToken [(2, 0)] N σ g0 Q := by
  have L : ∀ (m : Nat) (x : Int) (g : z_G), g0 0 10 ≤ x + m → g0 0 13 ≤ x → x ≤ g0 0 10 → fB g0 g → g 0 13 = x → (∀ i, g0 0 13 ≤ i → i < x → kB (g0 6 i % 256)) → L_M_nextToken_0 X N σ g Q := by
    have fin : ∀ (x : Int) (g : z_G), g0 0 10 = x → g0 0 13 ≤ x → fB g0 g → g 0 13 = x → (∀ i, g0 0 13 ≤ i → i < x → kB (g0 6 i % 256)) → Q 0 (z_up (z_up (z_up g 0 12 (g 0 13)) 0 14 (-1)) 0 11 0) := fun x g h1 h2 h3 h4 h5 => by
      refine hq _ 0 (((h3.up (by omega)).up (by omega)).up (by omega)) (Or.inl ⟨rfl, z_u1⟩) ?_ (fun z => by exfalso; omega)
      rw [z_u2 (by omega), z_u2 (by omega), z_u1, z_u2 (by omega), z_u2 (by omega), z_u2 (by omega), h4]
      exact ⟨h2, h5, Or.inl ⟨h1.symm, h1.symm, rfl⟩⟩
    intro m
    induction m with
    | zero =>
      intro x g h1 h2 h3 hB h13 hb
      have g10 : g 0 10 = g0 0 10 := hB 0 10 (by omega)
      refine b_M_nextToken_0 hx ?_
      rw [show z_up g 0 12 (g 0 13) 0 10 = g 0 10 from z_u2 (by omega)]
      exact ⟨fun z => ⟨fun _ => fin x g (by omega) h2 hB h13 hb, fun w => absurd z w⟩, fun z => by exfalso; omega⟩
    | succ m ih =>
      intro x g h1 h2 h3 hB h13 hb
      have g10 : g 0 10 = g0 0 10 := hB 0 10 (by omega)
      have g6 : g 6 (g 0 13) = g0 6 x := by rw [hB 6 _ (by omega), h13]
      refine b_M_nextToken_0 hx ?_
      rw [show z_up g 0 12 (g 0 13) 0 10 = g 0 10 from z_u2 (by omega), show z_up g 0 12 (g 0 13) 6 (g 0 13) = g 6 (g 0 13) from z_u2 (by omega), k_255, g6]
      have hc : 0 ≤ g0 6 x % 256 ∧ g0 6 x % 256 < 256 := by omega
      generalize hcc : g0 6 x % 256 = c at *
      refine ⟨fun z => ⟨fun _ => fin x g (by omega) h2 hB h13 hb, fun w => absurd z w⟩, fun z => ⟨by omega, fun c32 => ⟨by omega, ?_⟩, fun c32 => ⟨fun c10 => ⟨by omega, ?_⟩, fun c10 => ⟨fun w => absurd w z, fun _ => ⟨fun w => by exfalso; omega, fun _ => ?_⟩⟩⟩⟩⟩
      · refine ih (x + 1) _ (by omega) (by omega) (by omega) (hB.up (by omega)) (by rw [z_u1, h13]) (fun i i1 i2 => ?_)
        by_cases w : i = x
        · subst w; rw [hcc]; exact Or.inr c32
        · exact hb i i1 (by omega)
      · refine ih (x + 1) _ (by omega) (by omega) (by omega) (hB.up (by omega)) (by rw [z_u1, h13]) (fun i i1 i2 => ?_)
        by_cases w : i = x
        · subst w; rw [hcc]; exact Or.inl c10
        · exact hb i i1 (by omega)
      · have nb : ¬ kB (g0 6 x % 256) := by rw [hcc]; unfold kB; omega
        have hB1 : fB g0 (z_up (z_up g 0 12 (g 0 13)) 0 14 c) := (hB.up (by omega)).up (by omega)
        have sg : ∀ k v, kC k v → (k = 3 ∧ kG c) ∨ (k = 4 ∧ ¬ kL c ∧ ¬ kD c ∧ ¬ kG c) → Q 0 (z_up (z_up (z_up (z_up g 0 12 (g 0 13)) 0 14 c) 0 13 (g 0 13 + 1)) 0 11 v) := fun k v hk hh => by
          refine hq _ k ((hB1.up (by omega)).up (by omega)) (by rw [z_u1]; exact hk) ?_ (fun _ => ?_)
          · rw [z_u2 (by omega), z_u2 (by omega), z_u2 (by omega), z_u1, z_u2 (by omega), z_u1, z_u2 (by omega), z_u2 (by omega), z_u1, h13]
            refine ⟨h2, hb, Or.inr ⟨by omega, nb, Or.inr (Or.inr ?_)⟩⟩
            dsimp only
            rw [hcc]
            rcases hh with w | w
            · exact Or.inl ⟨w.2, w.1, rfl⟩
            · exact Or.inr ⟨w.2.1, w.2.2.1, w.2.2.2, w.1, rfl⟩
          · rw [z_u2 (by omega), z_u2 (by omega), z_u1, z_u2 (by omega), z_u2 (by omega), z_u2 (by omega), z_u1, h13]
            exact hcc.symm
        have s4 : kG c → Q 0 (z_up (z_up (z_up (z_up g 0 12 (g 0 13)) 0 14 c) 0 13 (g 0 13 + 1)) 0 11 4) := fun w => sg 3 4 (by unfold kC; omega) (Or.inl ⟨rfl, w⟩)
        have s1 : ¬ kL c ∧ ¬ kD c ∧ ¬ kG c → Q 0 (z_up (z_up (z_up (z_up g 0 12 (g 0 13)) 0 14 c) 0 13 (g 0 13 + 1)) 0 11 1) := fun w => sg 4 1 (by unfold kC; omega) (Or.inr ⟨rfl, w⟩)
        have dig : kD c → L_M_nextToken_128 X N σ (z_up (z_up (z_up g 0 12 (g 0 13)) 0 14 c) 0 14 0) Q := fun w => by
          refine nxt_128 hx (n := g0 0 10) ⟨rfl, by omega, by omega⟩ (a := x) (by omega) (fun g' q1 q2 q3 q4 q5 q6 q7 => ?_) (m + 1) x _ (by omega) (by omega) (by omega) (hB1.up (by omega)) (by rw [z_u2 (by omega), z_u2 (by omega), z_u1, h13]) (by rw [z_u2 (by omega), z_u2 (by omega), z_u2 (by omega), h13]) (fun i i1 i2 => by exfalso; omega) (by rw [z_u1]; omega) (fun _ => by rw [z_u1, show (x - x).toNat = 0 by omega]; rfl)
          have lt : x < g' 0 13 := by
            rcases q6 with y | y
            · omega
            · rcases Int.lt_or_le x (g' 0 13) with z | z
              · exact z
              · rw [show g' 0 13 = x by omega, hcc] at y; exact absurd w y
          have go : ∀ k, ((g' 0 13 - x ≤ 4 ∧ k = 2 ∧ g' 0 14 = kV (fun i => g0 6 i % 256) x (g' 0 13 - x).toNat) ∨ (4 < g' 0 13 - x ∧ k = 4)) → kC k (g' 0 11) → k ≠ 3 → Q 0 g' := fun k y1 y2 y3 => hq g' k q1 y2 (by rw [q2]; exact ⟨h2, hb, Or.inr ⟨by omega, nb, Or.inr (Or.inl ⟨lt, q4, q5, q6, y1⟩)⟩⟩) (fun z => absurd z y3)
          rcases q7 with ⟨y1, y2, y3⟩ | ⟨y1, y2⟩
          · exact go 2 (Or.inl ⟨y1, rfl, y3⟩) (by unfold kC; omega) (by omega)
          · exact go 4 (Or.inr ⟨y1, rfl⟩) (by unfold kC; omega) (by omega)
        have let' : kL c → L_M_nextToken_81 X N σ (z_up (z_up g 0 12 (g 0 13)) 0 14 c) Q := fun w => by
          refine nxt_81 hx (n := g0 0 10) ⟨rfl, by omega, by omega⟩ (a := x) (by omega) (fun g' q1 q2 q3 q4 q5 q6 q7 => ?_) (m + 1) x _ (by omega) (by omega) (by omega) hB1 (by rw [z_u2 (by omega), z_u1, h13]) (by rw [z_u2 (by omega), z_u2 (by omega), h13]) (fun i i1 i2 => by exfalso; omega)
          have lt : x < g' 0 13 := by
            rcases q6 with y | y
            · omega
            · rcases Int.lt_or_le x (g' 0 13) with z | z
              · exact z
              · rw [show g' 0 13 = x by omega, hcc] at y; exact absurd w y
          exact hq g' 1 q1 (by unfold kC; omega) (by rw [q2]; exact ⟨h2, hb, Or.inr ⟨by omega, nb, Or.inl ⟨rfl, lt, q4, q5, q6⟩⟩⟩) (fun z => by exfalso; omega)
        refine ⟨fun y => ⟨fun y2 => ⟨by omega, fun w => s4 (by unfold kG; omega), fun w1 => ⟨fun w => s4 (by unfold kG; omega), fun w2 => ⟨fun w => s4 (by unfold kG; omega), fun w3 => ⟨fun w => s4 (by unfold kG; omega), fun w4 => s1 (by unfold kL kD kG; omega)⟩⟩⟩⟩, fun y2 => ⟨fun y3 => ⟨by omega, fun w => s4 (by unfold kG; omega), fun w1 => ⟨fun w => s4 (by unfold kG; omega), fun w2 => ⟨fun w => s4 (by unfold kG; omega), fun w3 => ⟨fun w => s4 (by unfold kG; omega), fun w4 => s1 (by unfold kL kD kG; omega)⟩⟩⟩⟩, fun y3 => dig (by unfold kD; omega)⟩⟩, fun y => ⟨fun y2 => ⟨fun y3 => by exfalso; omega, fun y3 => ⟨fun y4 => ⟨by omega, fun w => s4 (by unfold kG; omega), fun w1 => ⟨fun w => s4 (by unfold kG; omega), fun w2 => ⟨fun w => s4 (by unfold kG; omega), fun w3 => ⟨fun w => s4 (by unfold kG; omega), fun w4 => s1 (by unfold kL kD kG; omega)⟩⟩⟩⟩, fun y4 => by exfalso; omega⟩⟩, fun y2 => let' (by unfold kL; omega)⟩⟩
  exact b_M_nextToken_e hx (L (g0 0 10 - g0 0 13).toNat (g0 0 13) g0 (by omega) (Int.le_refl _) hn.2.1 (fun _ _ _ => rfl) rfl (fun i i1 i2 => by exfalso; omega))
end Nxt

/-! ## TOKENS -/
def kB (x : Int) : Prop := x = 10 ∨ x = 32
def kL (x : Int) : Prop := 97 ≤ x ∧ x ≤ 122
def kD (x : Int) : Prop := 48 ≤ x ∧ x ≤ 57
def kG (x : Int) : Prop := x = 59 ∨ x = 60 ∨ x = 62 ∨ x = 61
def kV (f : Int → Int) (a : Int) : Nat → Int
  | 0 => 0
  | n + 1 => kV f a n * 10 + (f (a + n) - 48)
/-- the TOKEN from place b on, of n signs: where it begins, where it ends, its kind as the class numbers it, its value -/
def kT (f : Int → Int) (n b a e k v : Int) : Prop := b ≤ a ∧ (∀ i, b ≤ i → i < a → kB (f i)) ∧
  ((a = n ∧ e = n ∧ k = 0) ∨ (a < n ∧ ¬ kB (f a) ∧
    ((k = 1 ∧ a < e ∧ e ≤ n ∧ (∀ i, a ≤ i → i < e → kL (f i)) ∧ (e = n ∨ ¬ kL (f e)))
    ∨ (a < e ∧ e ≤ n ∧ (∀ i, a ≤ i → i < e → kD (f i)) ∧ (e = n ∨ ¬ kD (f e)) ∧ ((e - a ≤ 4 ∧ k = 2 ∧ v = kV f a (e - a).toNat) ∨ (4 < e - a ∧ k = 4)))
    ∨ (kG (f a) ∧ k = 3 ∧ e = a + 1) ∨ (¬ kL (f a) ∧ ¬ kD (f a) ∧ ¬ kG (f a) ∧ k = 4 ∧ e = a + 1))))
theorem kT_u {f : Int → Int} {n b a e k v a' e' k' v' : Int} (h : kT f n b a e k v) (h' : kT f n b a' e' k' v') : a = a' ∧ e = e' ∧ k = k' ∧ (k = 2 → v = v') := by
  obtain ⟨h1, h2, h3⟩ := h
  obtain ⟨g1, g2, g3⟩ := h'
  have ea : a = a' := by
    rcases Int.lt_trichotomy a a' with c | c | c
    · have := g2 a h1 c
      rcases h3 with q | q
      · rcases g3 with p | p <;> omega
      · exact absurd this q.2.1
    · exact c
    · have := h2 a' g1 c
      rcases g3 with q | q
      · rcases h3 with p | p <;> omega
      · exact absurd this q.2.1
  subst ea
  refine ⟨rfl, ?_⟩
  have nL : ∀ x, kL x → ¬ kD x ∧ ¬ kG x := fun x q => by unfold kL at q; unfold kD kG; omega
  have nD : ∀ x, kD x → ¬ kL x ∧ ¬ kG x := fun x q => by unfold kD at q; unfold kL kG; omega
  rcases h3 with ⟨p1, p2, p3⟩ | ⟨p1, -, p3⟩
  · rcases g3 with ⟨q1, q2, q3⟩ | ⟨q1, -⟩
    · exact ⟨by omega, by omega, fun z => by exfalso; omega⟩
    · exfalso; omega
  · rcases g3 with ⟨q1, -⟩ | ⟨-, -, q3⟩
    · exfalso; omega
    · rcases p3 with ⟨r1, r2, r3, r4, r5⟩ | ⟨r1, r2, r3, r4, r5⟩ | ⟨r1, r2, r3⟩ | ⟨r1, r2, r3, r4, r5⟩
      · have la := nL _ (r4 a (Int.le_refl a) r2)
        rcases q3 with ⟨s1, s2, s3, s4, s5⟩ | ⟨s1, s2, s3, s4, s5⟩ | ⟨s1, s2, s3⟩ | ⟨s1, s2, s3, s4, s5⟩
        · refine ⟨?_, by omega, fun z => by exfalso; omega⟩
          rcases Int.lt_trichotomy e e' with c | c | c
          · rcases r5 with z | z
            · omega
            · exact absurd (s4 e (by omega) c) z
          · exact c
          · rcases s5 with z | z
            · omega
            · exact absurd (r4 e' (by omega) c) z
        · exact absurd (s3 a (Int.le_refl a) s1) la.1
        · exact absurd s1 la.2
        · exact absurd (r4 a (Int.le_refl a) r2) s1
      · have la := nD _ (r3 a (Int.le_refl a) r1)
        rcases q3 with ⟨s1, s2, s3, s4, s5⟩ | ⟨s1, s2, s3, s4, s5⟩ | ⟨s1, s2, s3⟩ | ⟨s1, s2, s3, s4, s5⟩
        · exact absurd (s4 a (Int.le_refl a) s2) la.1
        · have ee : e = e' := by
            rcases Int.lt_trichotomy e e' with c | c | c
            · rcases r4 with z | z
              · omega
              · exact absurd (s3 e (by omega) c) z
            · exact c
            · rcases s4 with z | z
              · omega
              · exact absurd (r3 e' (by omega) c) z
          subst ee
          rcases r5 with ⟨t1, t2, t3⟩ | ⟨t1, t2⟩
          · rcases s5 with ⟨u1, u2, u3⟩ | ⟨u1, u2⟩
            · exact ⟨rfl, by omega, fun _ => by rw [t3, u3]⟩
            · exfalso; omega
          · rcases s5 with ⟨u1, u2, u3⟩ | ⟨u1, u2⟩
            · exfalso; omega
            · exact ⟨rfl, by omega, fun z => by exfalso; omega⟩
        · exact absurd s1 la.2
        · exact absurd (r3 a (Int.le_refl a) r1) s2
      · rcases q3 with ⟨s1, s2, s3, s4, s5⟩ | ⟨s1, s2, s3, s4, s5⟩ | ⟨s1, s2, s3⟩ | ⟨s1, s2, s3, s4, s5⟩
        · exact absurd r1 (nL _ (s4 a (Int.le_refl a) s2)).2
        · exact absurd r1 (nD _ (s3 a (Int.le_refl a) s1)).2
        · exact ⟨by omega, by omega, fun z => by exfalso; omega⟩
        · exact absurd r1 s3
      · rcases q3 with ⟨s1, s2, s3, s4, s5⟩ | ⟨s1, s2, s3, s4, s5⟩ | ⟨s1, s2, s3⟩ | ⟨s1, s2, s3, s4, s5⟩
        · exact absurd (s4 a (Int.le_refl a) s2) r1
        · exact absurd (s3 a (Int.le_refl a) s1) r2
        · exact absurd s1 r3
        · exact ⟨by omega, by omega, fun z => by exfalso; omega⟩
theorem kV_b {f : Int → Int} {a : Int} (n : Nat) (h : ∀ i, a ≤ i → i < a + n → kD (f i)) : 0 ≤ kV f a n ∧ kV f a n + 1 ≤ 10 ^ n := by
  induction n with
  | zero => exact ⟨Int.le_refl 0, Int.le_of_eq (by show (0 : Int) + 1 = 10 ^ 0; rfl)⟩
  | succ n ih =>
    obtain ⟨i1, i2⟩ := ih (fun i i1 i2 => h i i1 (by omega))
    have d := h (a + n) (by omega) (by omega)
    unfold kD at d
    have e : (10 : Int) ^ (n + 1) = 10 ^ n * 10 := Int.pow_succ 10 n
    show 0 ≤ kV f a n * 10 + (f (a + n) - 48) ∧ kV f a n * 10 + (f (a + n) - 48) + 1 ≤ 10 ^ (n + 1)
    rw [e]
    omega
theorem kV_4 {f : Int → Int} {a : Int} {n : Nat} (hn : n ≤ 4) (h : ∀ i, a ≤ i → i < a + n → kD (f i)) : 0 ≤ kV f a n ∧ kV f a n ≤ 9999 ∧ (n ≤ 3 → kV f a n ≤ 999) := by
  obtain ⟨h1, h2⟩ := kV_b n h
  have p : ((10 : Int) ^ n ≤ 10000) ∧ (n ≤ 3 → (10 : Int) ^ n ≤ 1000) := by
    rcases (show n = 0 ∨ n = 1 ∨ n = 2 ∨ n = 3 ∨ n = 4 by omega) with rfl | rfl | rfl | rfl | rfl <;> decide
  refine ⟨h1, by omega, fun z => ?_⟩
  have := p.2 z
  omega
theorem k_255 (v : Int) : Int32.toInt (Int32.ofInt v &&& Int32.ofInt 255) = v % 256 := by
  rw [show Int32.ofInt 255 = (255 : Int32) from by decide, pk_and _ (m := 255) 8 (by decide), nI_toInt (by omega), Int32.toBitVec_ofInt, BitVec.toNat_ofInt]
  rw [Int.natCast_emod, Int.toNat_of_nonneg (Int.emod_nonneg _ (by decide))]
  simp only [Nat.reducePow]
  omega
/-- sortOfSign -/
def kR (c r : Int) : Prop := (kL c ∧ r = 1) ∨ (kD c ∧ r = 2) ∨ (kG c ∧ r = 3) ∨ (kB c ∧ r = 5) ∨ (¬ kL c ∧ ¬ kD c ∧ ¬ kG c ∧ ¬ kB c ∧ r = 4)
theorem s_Ta_sort {X : z_X} {N : Nat} {σ g : z_G} {Q : z_P} {c : Int} (hq : ∀ r, kR c r → Q r g) : z_O X 1 m_Ta_sortOfSign [(0, c)] N σ g Q := by
  refine b_Ta_sortOfSign_0 ?_
  repeat' (first | refine And.intro ?_ ?_ | with_reducible intro _)
  all_goals exact hq _ (by unfold kR kL kD kG kB; omega)
section Adv
variable {X : z_X} {N : Nat} {σ g0 : z_G} {Q : z_P} {n b : Int} {f : Int → Int}
def fA (g0 g : z_G) : Prop := ∀ c i, ¬ (c = 10 ∧ 3 ≤ i ∧ i ≤ 6) → g c i = g0 c i
theorem fA.up {g0 g : z_G} (h : fA g0 g) {i v : Int} (hi : 3 ≤ i ∧ i ≤ 6) : fA g0 (z_up g 10 i v) := fun c j hc => by rw [z_u2 (by omega)]; exact h c j hc
theorem adv_end (hx : z_lay X N σ 0 z_SF z_RF) {g : z_G} (h : 0 ≤ g 10 3 - g 10 6 ∧ g 10 3 - g 10 6 ≤ 900) (h1 : ¬ (g 10 4 = 2 ∧ 4 < g 10 3 - g 10 6) → Q 0 g) (h2 : g 10 4 = 2 → 4 < g 10 3 - g 10 6 → Q 0 (z_up g 10 4 4)) : L_Ta_advance_109 X N σ 0 g Q := by
  refine b_Ta_advance_109 hx ⟨fun _ => ⟨fun z => ⟨by omega, fun z2 => h1 (by omega), fun z2 => h2 z (by omega)⟩, fun z => h1 (by omega)⟩, fun z => absurd rfl z⟩
theorem adv_go (hx : z_lay X N σ 0 z_SF z_RF) (hn : g0 10 2 = n ∧ 0 ≤ n ∧ n ≤ 900) (hf : ∀ i, g0 11 i = f i) {a k : Int} (hk : k = 1 ∨ k = 2) (ha : 0 ≤ a) (hq : ∀ g', fA g0 g' → g' 10 6 = a → a < g' 10 3 → g' 10 3 ≤ n → (∀ i, a ≤ i → i < g' 10 3 → (k = 1 ∧ kL (f i)) ∨ (k = 2 ∧ kD (f i))) → (g' 10 3 = n ∨ ¬ ((k = 1 ∧ kL (f (g' 10 3))) ∨ (k = 2 ∧ kD (f (g' 10 3))))) → (k = 1 → g' 10 4 = 1) → (k = 2 → (g' 10 3 - a ≤ 4 ∧ g' 10 4 = 2 ∧ g' 10 5 = kV f a (g' 10 3 - a).toNat) ∨ (4 < g' 10 3 - a ∧ g' 10 4 = 4)) → Q 0 g') :
    ∀ (m : Nat) (e : Int) (g : z_G), n ≤ e + m → a ≤ e → e < n → fA g0 g → g 10 6 = a → g 10 4 = k → g 10 3 = e → (∀ i, a ≤ i → i ≤ e → (k = 1 ∧ kL (f i)) ∨ (k = 2 ∧ kD (f i))) → (k = 2 → e - a ≤ 4 → g 10 5 = kV f a (e - a).toNat) → L_Ta_advance_109 X N σ 1 g Q := by
  intro m
  induction m with
  | zero => intro e g h1 h2 h3; exfalso; omega
  | succ m ih =>
    intro e g h1 h2 h3 hA h6 h4 h3' hs hv
    have g2 : g 10 2 = n := (hA 10 2 (by omega)).trans hn.1
    have gf : ∀ i, g 11 i = f i := fun i => (hA 11 i (by omega)).trans (hf i)
    -- what is done with the sign
    have fin : ∀ g1 : z_G, fA g0 g1 → g1 10 6 = a → g1 10 4 = k → g1 10 3 = e + 1 → (k = 2 → e + 1 - a ≤ 4 → g1 10 5 = kV f a (e + 1 - a).toNat) → (n = e + 1 ∨ ¬ ((k = 1 ∧ kL (f (e + 1))) ∨ (k = 2 ∧ kD (f (e + 1))))) → L_Ta_advance_109 X N σ 0 g1 Q := by
      intro g1 q1 q2 q3 q4 q5 q6
      refine adv_end hx (by omega) (fun z => hq g1 q1 q2 (by omega) (by omega) (fun i i1 i2 => hs i i1 (by omega)) ?_ (fun y => by omega) fun y => Or.inl ⟨by omega, by omega, ?_⟩) (fun z1 z2 => hq _ (q1.up (by omega)) (by rw [z_u2 (by omega)]; exact q2) (by rw [z_u2 (by omega)]; omega) (by rw [z_u2 (by omega)]; omega) (fun i i1 i2 => hs i i1 (by rw [z_u2 (by omega)] at i2; omega)) ?_ (fun y => by exfalso; omega) fun y => Or.inr ⟨by rw [z_u2 (by omega)]; omega, z_u1⟩)
      · rw [q4]; rcases q6 with w | w
        · exact Or.inl w.symm
        · exact Or.inr w
      · rw [q4]; exact q5 y (by omega)
      · rw [z_u2 (by omega), q4]; rcases q6 with w | w
        · exact Or.inl w.symm
        · exact Or.inr w
    have go : ∀ g1 : z_G, fA g0 g1 → g1 10 6 = a → g1 10 4 = k → g1 10 3 = e + 1 → (k = 2 → e + 1 - a ≤ 4 → g1 10 5 = kV f a (e + 1 - a).toNat) → e + 1 < n → ∀ r, kR (f (e + 1)) r → (r = g1 10 4 → L_Ta_advance_109 X N σ 1 g1 Q) ∧ (¬ (r = g1 10 4) → L_Ta_advance_109 X N σ 0 g1 Q) := by
      intro g1 q1 q2 q3 q4 q5 q6 r hr
      refine ⟨fun z => ih (e + 1) g1 (by omega) (by omega) q6 q1 q2 q3 q4 (fun i i1 i2 => ?_) q5, fun z => fin g1 q1 q2 q3 q4 q5 (Or.inr ?_)⟩
      · by_cases w : i = e + 1
        · subst w; (simp only [kL, kD, kG, kB, kR] at *; omega)
        · exact hs i i1 (by omega)
      · (simp only [kL, kD, kG, kB, kR] at *; omega)
    have gE : f (e + 1) = g 11 (g 10 3 + 1) := by rw [h3', gf]
    refine b_Ta_advance_109 hx ⟨fun z => by exfalso; omega, fun _ => ⟨fun z => by exfalso; omega, fun _ => ⟨fun k2 => ⟨by omega, fun big => ⟨by omega, fun z => by exfalso; omega, fun _ => ⟨fun z => ?_, fun z => ⟨by omega, s_Ta_sort fun r hr => ?_⟩⟩⟩, fun small => ?_⟩, fun k2 => ⟨by omega, fun k1 => ⟨fun z => ?_, fun z => ⟨by omega, s_Ta_sort fun r hr => ?_⟩⟩, fun z => by exfalso; omega⟩⟩⟩⟩
    · exact fin _ (hA.up (by omega)) (by rw [z_u2 (by omega)]; exact h6) (by rw [z_u2 (by omega)]; exact h4) (by rw [z_u1, h3']) (fun _ z => by exfalso; omega) (Or.inl (by omega))
    · exact go _ (hA.up (by omega)) (by rw [z_u2 (by omega)]; exact h6) (by rw [z_u2 (by omega)]; exact h4) (by rw [z_u1, h3']) (fun _ z => by exfalso; omega) (by omega) r (by rw [gE]; exact hr)
    · have d : ∀ i, a ≤ i → i ≤ e → kD (f i) := fun i i1 i2 => by
        have := hs i i1 i2; (simp only [kL, kD, kG, kB, kR] at *; omega)
      have v := hv (by omega) (by omega)
      have vb := kV_4 (f := f) (a := a) (n := (e - a).toNat) (by omega) (fun i i1 i2 => d i i1 (by omega))
      have vb3 := vb.2.2 (by omega)
      have de := d e h2 (Int.le_refl e)
      have ge : g 11 (g 10 3) = f e := by rw [h3', gf]
      unfold kD at de
      have nv : g 10 5 * 10 + (g 11 (g 10 3) - 48) = kV f a (e + 1 - a).toNat := by
        rw [show (e + 1 - a).toNat = (e - a).toNat + 1 by omega, ge, v]
        show _ = kV f a (e - a).toNat * 10 + (f (a + ((e - a).toNat : Nat)) - 48)
        rw [show a + ((e - a).toNat : Int) = e by omega]
      refine ⟨by omega, by omega, by omega, by omega, by omega, fun z => by exfalso; omega, fun _ => ⟨fun z => ?_, fun z => ⟨by omega, s_Ta_sort fun r hr => ?_⟩⟩⟩
      · exact fin _ ((hA.up (by omega)).up (by omega)) (by rw [z_u2 (by omega), z_u2 (by omega)]; exact h6) (by rw [z_u2 (by omega), z_u2 (by omega)]; exact h4) (by rw [z_u1, h3']) (fun _ _ => by rw [z_u2 (by omega), z_u1]; exact nv) (Or.inl (by omega))
      · exact go _ ((hA.up (by omega)).up (by omega)) (by rw [z_u2 (by omega), z_u2 (by omega)]; exact h6) (by rw [z_u2 (by omega), z_u2 (by omega)]; exact h4) (by rw [z_u1, h3']) (fun _ _ => by rw [z_u2 (by omega), z_u1]; exact nv) (by omega) r (by rw [gE]; exact hr)
    · exact fin _ (hA.up (by omega)) (by rw [z_u2 (by omega)]; exact h6) (by rw [z_u2 (by omega)]; exact h4) (by rw [z_u1, h3']) (fun z => by exfalso; omega) (Or.inl (by omega))
    · exact go _ (hA.up (by omega)) (by rw [z_u2 (by omega)]; exact h6) (by rw [z_u2 (by omega)]; exact h4) (by rw [z_u1, h3']) (fun z => by exfalso; omega) (by omega) r (by rw [gE]; exact hr)
theorem s_Ta_advance (hx : z_lay X N σ 0 z_SF z_RF) (hn : 0 ≤ g0 10 3 ∧ g0 10 3 ≤ g0 10 2 ∧ g0 10 2 ≤ 900) (hq : ∀ g', fA g0 g' → kT (g0 11) (g0 10 2) (g0 10 3) (g' 10 6) (g' 10 3) (g' 10 4) (g' 10 5) → Q 0 g') : z_O X 2 m_Ta_advance [(2, 10)] N σ g0 Q := by
  have L : ∀ (m : Nat) (x : Int) (g : z_G), g0 10 2 ≤ x + m → g0 10 3 ≤ x → x ≤ g0 10 2 → fA g0 g → g 10 6 = x → (∀ i, g0 10 3 ≤ i → i < x → kB (g0 11 i)) → L_Ta_advance_8 X N σ g Q := by
    intro m
    induction m with
    | zero =>
      intro x g h1 h2 h3 hA h6 hb
      have g2 : g 10 2 = g0 10 2 := hA 10 2 (by omega)
      refine b_Ta_advance_8 hx ⟨fun _ => adv_end hx ?_ (fun _ => hq _ (((hA.up (by omega)).up (by omega)).up (by omega)) ?_) (fun z => by rw [z_u2 (by omega), z_u1] at z; exfalso; omega), fun z => by exfalso; omega⟩
      · rw [z_u2 (by omega), z_u2 (by omega), z_u1, z_u2 (by omega), z_u2 (by omega), z_u2 (by omega)]; omega
      · rw [z_u2 (by omega), z_u2 (by omega), z_u2 (by omega), z_u2 (by omega), z_u2 (by omega), z_u1, z_u2 (by omega), z_u1, z_u1]
        exact ⟨by omega, fun i i1 i2 => hb i i1 (by omega), Or.inl ⟨by omega, by omega, rfl⟩⟩
    | succ m ih =>
      intro x g h1 h2 h3 hA h6 hb
      have g2 : g 10 2 = g0 10 2 := hA 10 2 (by omega)
      have gf : ∀ i, g 11 i = g0 11 i := fun i => hA 11 i (by omega)
      by_cases ce : g0 10 2 = x
      · refine b_Ta_advance_8 hx ⟨fun _ => adv_end hx ?_ (fun _ => hq _ (((hA.up (by omega)).up (by omega)).up (by omega)) ?_) (fun z => by rw [z_u2 (by omega), z_u1] at z; exfalso; omega), fun z => by exfalso; omega⟩
        · rw [z_u2 (by omega), z_u2 (by omega), z_u1, z_u2 (by omega), z_u2 (by omega), z_u2 (by omega)]; omega
        · rw [z_u2 (by omega), z_u2 (by omega), z_u2 (by omega), z_u2 (by omega), z_u2 (by omega), z_u1, z_u2 (by omega), z_u1, z_u1]
          exact ⟨by omega, fun i i1 i2 => hb i i1 (by omega), Or.inl ⟨by omega, by omega, rfl⟩⟩
      have fx : g 11 (g 10 6) = g0 11 x := by rw [gf, h6]
      refine b_Ta_advance_8 hx ⟨fun z => by exfalso; omega, fun _ => ⟨by omega, s_Ta_sort fun r0 hr0 => ⟨fun z => ⟨by omega, ih (x + 1) _ (by omega) (by omega) (by omega) (hA.up (by omega)) (by rw [z_u1, h6]) (fun i i1 i2 => ?_)⟩, fun z => ⟨fun w => by exfalso; omega, fun _ => ⟨by omega, s_Ta_sort fun r1 hr1 => ?_⟩⟩⟩⟩⟩
      · by_cases w : i = x
        · subst w; rw [fx] at hr0; (simp only [kL, kD, kG, kB, kR] at *; omega)
        · exact hb i i1 (by omega)
      · rw [fx] at hr0 hr1
        have nb : ¬ kB (g0 11 x) := fun w => by clear hb; (simp only [kL, kD, kG, kB, kR] at *; omega)
        rw [show z_up g 10 3 (g 10 6) 10 2 = g 10 2 from z_u2 (by omega), show z_up g 10 3 (g 10 6) 10 6 = g 10 6 from z_u2 (by omega)]
        refine ⟨fun w => by exfalso; omega, fun _ => ?_⟩
        have hA3 : fA g0 (z_up (z_up (z_up g 10 3 (g 10 6)) 10 4 r1) 10 5 0) := ((hA.up (by omega)).up (by omega)).up (by omega)
        have e3 : z_up (z_up (z_up g 10 3 (g 10 6)) 10 4 r1) 10 5 0 10 3 = x := by rw [z_u2 (by omega), z_u2 (by omega), z_u1, h6]
        have e4 : z_up (z_up (z_up g 10 3 (g 10 6)) 10 4 r1) 10 5 0 10 4 = r1 := by rw [z_u2 (by omega), z_u1]
        have e5 : z_up (z_up (z_up g 10 3 (g 10 6)) 10 4 r1) 10 5 0 10 5 = 0 := z_u1
        have e6 : z_up (z_up (z_up g 10 3 (g 10 6)) 10 4 r1) 10 5 0 10 6 = x := by rw [z_u2 (by omega), z_u2 (by omega), z_u2 (by omega), h6]
        generalize z_up (z_up (z_up g 10 3 (g 10 6)) 10 4 r1) 10 5 0 = g3 at *
        by_cases c12 : r1 = 1 ∨ r1 = 2
        · refine adv_go hx (n := g0 10 2) (f := g0 11) ⟨rfl, by omega, by omega⟩ (fun _ => rfl) (a := x) (k := r1) c12 (by omega) (fun g' q1 q2 q3 q4 q5 q6 q7 q8 => hq g' q1 ?_) (m + 1) x g3 (by omega) (by omega) (by omega) hA3 e6 e4 e3 (fun i i1 i2 => ?_) (fun _ _ => by rw [e5, show (x - x).toNat = 0 by omega]; rfl)
          · rw [q2]
            refine ⟨h2, hb, Or.inr ⟨by omega, nb, ?_⟩⟩
            rcases c12 with w | w
            · exact Or.inl ⟨q7 w, q3, q4, fun i i1 i2 => by have := q5 i i1 i2; (simp only [kL, kD, kG, kB, kR] at *; omega), by clear q5 hb; (simp only [kL, kD, kG, kB, kR] at *; omega)⟩
            · exact Or.inr (Or.inl ⟨q3, q4, fun i i1 i2 => by have := q5 i i1 i2; (simp only [kL, kD, kG, kB, kR] at *; omega), by clear q5 hb; (simp only [kL, kD, kG, kB, kR] at *; omega), q8 w⟩)
          · have : i = x := by omega
            subst this
            (simp only [kL, kD, kG, kB, kR] at *; omega)
        · have g32 : g3 10 2 = g0 10 2 := hA3 10 2 (by omega)
          refine b_Ta_advance_109 hx ⟨fun w => by exfalso; omega, fun _ => ⟨fun w => by exfalso; omega, fun _ => ⟨fun w => by exfalso; omega, fun _ => ⟨by omega, fun w => by exfalso; omega, fun _ => adv_end hx ?_ (fun _ => hq _ (hA3.up (by omega)) ?_) (fun w => by rw [z_u2 (by omega)] at w; exfalso; omega)⟩⟩⟩⟩
          · rw [z_u1, z_u2 (by omega)]; omega
          · rw [z_u1, z_u2 (by omega), z_u2 (by omega), z_u2 (by omega), e3, e4, e5, e6]
            refine ⟨h2, hb, Or.inr ⟨by omega, nb, Or.inr (Or.inr ?_)⟩⟩
            unfold kR at hr1
            rcases hr1 with y | y | y | y | y
            · exfalso; omega
            · exfalso; omega
            · exact Or.inl ⟨y.1, by omega, rfl⟩
            · exact absurd y.1 nb
            · exact Or.inr ⟨y.1, y.2.1, y.2.2.1, by omega, rfl⟩
  exact b_Ta_advance_0 hx (L (g0 10 2 - g0 10 3).toNat (g0 10 3) _ (by omega) (Int.le_refl _) hn.2.1 (fun c i hc => z_u2 (by omega)) z_u1 (fun i i1 i2 => by exfalso; omega))
end Adv

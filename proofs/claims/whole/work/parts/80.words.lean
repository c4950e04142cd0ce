/-! ## words -/
def wT : List (List Int) := [[111, 100, 100, 115], [111, 114, 100, 101, 114], [104, 101, 114, 101], [98, 121], [112, 105, 110], [119, 101, 105, 103, 104, 116], [101, 110, 100], [108, 101, 102, 116], [114, 105, 103, 104, 116], [117, 112], [102, 108, 105, 112], [108, 105, 102, 116], [97, 110, 121], [119, 104, 101, 110], [108, 111, 111, 112], [115, 116, 111, 112], [97, 116], [112, 105, 110, 110, 101, 100], [100, 101, 112, 116, 104], [98, 111, 116, 116, 111, 109], [32, 111, 100, 100, 115, 32, 111, 114, 100, 101, 114, 32, 104, 101, 114, 101, 32, 112, 105, 110, 32, 98, 121, 32, 119, 101, 105, 103, 104, 116, 32, 108, 101, 102, 116, 32, 114, 105, 103, 104, 116, 32, 117, 112, 32, 102, 108, 105, 112, 32, 108, 105, 102, 116, 32, 97, 110, 121, 32, 119, 104, 101, 110, 32, 108, 111, 111, 112, 32, 101, 110, 100, 32, 115, 116, 111, 112, 32, 97, 116, 32, 112, 105, 110, 110, 101, 100, 32, 100, 101, 112, 116, 104, 32, 98, 111, 116, 116, 111, 109, 32]]
def wS : List (Int × Int) := [(1, 5), (6, 11), (12, 16), (17, 20), (21, 23), (24, 30), (31, 35), (36, 41), (42, 44), (45, 49), (50, 54), (55, 58), (59, 63), (64, 68), (69, 72), (73, 77), (78, 80), (81, 87), (88, 93), (94, 100), (101, 101)]
def wM : List Nat := [0, 1, 2, 4, 3, 5, 14, 6, 7, 8, 9, 10, 11, 12, 13, 15, 16, 17, 18, 19]
def wB (k i : Int) : Int := (wT.getD k.toNat []).getD i.toNat 0
def wL (k : Int) : Int := (wT.getD k.toNat []).length
/-- what String's own methods answer on the 21 texts -/
def z_St (X : z_X) (N : Nat) (σ : z_G) : Prop := (∀ (k : Int) (g : z_G) (Q : z_P), 0 ≤ k → k < 21 → Q (wL k) g → z_O X 3 m_St_length [(4, k)] N σ g Q) ∧ ∀ (k i : Int) (g : z_G) (Q : z_P), 0 ≤ k → k < 21 → 0 ≤ i → i < wL k → Q (wB k i) g → z_O X 6 m_St_charAt [(4, k), (0, i)] N σ g Q
theorem w_byt : z_sbyt = wT.map (fun l => l.map Int32.ofInt) := by decide +kernel
theorem w_len : z_slen = wT.map List.length := by decide +kernel
theorem w_tab : ∀ w : Fin 20, 1 ≤ (wS.getD w (0, 0)).1 ∧ (wS.getD w (0, 0)).1 < (wS.getD w (0, 0)).2 ∧ (wS.getD w (0, 0)).2 < 101 ∧ wB 20 (wS.getD w (0, 0)).2 = 32 ∧ (wS.getD (w + 1) (0, 0)).1 = (wS.getD w (0, 0)).2 + 1 ∧ ∀ j : Fin 101, (wS.getD w (0, 0)).1 ≤ (j.val : Int) → (j.val : Int) < (wS.getD w (0, 0)).2 → wB 20 (j.val : Int) ≠ 32 := by decide +kernel
theorem w_map : ∀ k : Fin 20, wM.getD k 0 < 20 ∧ wL (k.val : Int) = (wS.getD (wM.getD k 0) (0, 0)).2 - (wS.getD (wM.getD k 0) (0, 0)).1 ∧ ∀ j : Fin 6, (j.val : Int) < wL (k.val : Int) → wB (k.val : Int) (j.val : Int) = wB 20 ((wS.getD (wM.getD k 0) (0, 0)).1 + (j.val : Int)) := by decide +kernel
theorem w_len6 : ∀ k : Fin 20, wL (k.val : Int) ≤ 6 ∧ 2 ≤ wL (k.val : Int) := by decide +kernel
theorem w_one : ∀ w v : Fin 20, w ≠ v → (wS.getD w (0, 0)).2 - (wS.getD w (0, 0)).1 = (wS.getD v (0, 0)).2 - (wS.getD v (0, 0)).1 → ∃ j : Fin 6, (j.val : Int) < (wS.getD w (0, 0)).2 - (wS.getD w (0, 0)).1 ∧ wB 20 ((wS.getD w (0, 0)).1 + (j.val : Int)) ≠ wB 20 ((wS.getD v (0, 0)).1 + (j.val : Int)) := by decide +kernel
/-- the TOKEN from a to e is word w of the reference's list -/
def kMt (f : Int → Int) (a e : Int) (w : Nat) : Prop := e - a = (wS.getD w (0, 0)).2 - (wS.getD w (0, 0)).1 ∧ ∀ j : Int, 0 ≤ j → j < e - a → f (a + j) = wB 20 ((wS.getD w (0, 0)).1 + j)
theorem kMt_u {f : Int → Int} {a e : Int} {w v : Nat} (hw : w < 20) (hv : v < 20) (h : kMt f a e w) (h' : kMt f a e v) : w = v := by
  by_cases c : w = v
  · exact c
  · obtain ⟨j, j1, j2⟩ := w_one ⟨w, hw⟩ ⟨v, hv⟩ (fun z => c (congrArg Fin.val z)) (h.1.symm.trans h'.1)
    have j1 : (j.val : Int) < (wS.getD w (0, 0)).2 - (wS.getD w (0, 0)).1 := j1
    have a1 := h.2 j.val (by omega) (by have := h.1; omega)
    have a2 := h'.2 j.val (by omega) (by have := h.1; omega)
    exact absurd (a1.symm.trans a2) j2
theorem kMt_c {f f' : Int → Int} {a e n : Int} {w : Nat} (h : kMt f a e w) (ha : 0 ≤ a ∧ e ≤ n) (hf : ∀ i, 0 ≤ i → i < n → f' i = f i) : kMt f' a e w := ⟨h.1, fun j j0 j1 => by rw [hf _ (by omega) (by omega)]; exact h.2 j j0 j1⟩
theorem s_Ta_isWord {X : z_X} {N : Nat} {σ g : z_G} {Q : z_P} (hx : z_lay X N σ 0 z_SF z_RF) (hS : z_St X N σ) {k : Int} (hk : 0 ≤ k ∧ k < 20) (hw : g 10 4 = 1 → 0 ≤ g 10 6 ∧ g 10 6 ≤ g 10 3 ∧ g 10 3 ≤ 900) (hq : ∀ r, (r = 1 ∧ g 10 4 = 1 ∧ kMt (g 11) (g 10 6) (g 10 3) (wM.getD k.toNat 0)) ∨ (r = 0 ∧ ¬ (g 10 4 = 1 ∧ kMt (g 11) (g 10 6) (g 10 3) (wM.getD k.toNat 0))) → Q r g) : z_O X 7 m_Ta_isWord [(2, 10), (4, k)] N σ g Q := by
  have t1 := w_map ⟨k.toNat, by omega⟩
  have t2 := w_len6 ⟨k.toNat, by omega⟩
  have ek : ((⟨k.toNat, by omega⟩ : Fin 20).val : Int) = k := by show ((k.toNat : Nat) : Int) = k; omega
  rw [ek] at t1 t2
  have t3 : wM.getD (⟨k.toNat, by omega⟩ : Fin 20) 0 = wM.getD k.toNat 0 := rfl
  rw [t3] at t1
  obtain ⟨u1, u2, u3⟩ := t1
  have u3 : ∀ j : Int, 0 ≤ j → j < wL k → wB k j = wB 20 ((wS.getD (wM.getD k.toNat 0) (0, 0)).1 + j) := fun j j0 j1 => by
    have := u3 ⟨j.toNat, by omega⟩
    rw [show ((⟨j.toNat, by omega⟩ : Fin 6).val : Int) = j by show ((j.toNat : Nat) : Int) = j; omega] at this
    exact this j1
  refine b_Ta_isWord_0 hx ⟨fun c => ?_, fun c => hq 0 (Or.inr ⟨rfl, fun z => c z.1⟩)⟩
  have hw := hw c
  refine ⟨by omega, by omega, hS.1 k g _ (by omega) (by omega) ⟨fun el => ?_, fun el => hq 0 (Or.inr ⟨rfl, fun z => el (by have := z.2.1; omega)⟩)⟩⟩
  have L : ∀ (m : Nat) (x : Int), x + m = wL k → 0 ≤ x → (∀ j : Int, 0 ≤ j → j < x → g 11 (g 10 6 + j) = wB k j) → L_Ta_isWord_28 X N σ k x g Q := by
    intro m
    induction m with
    | zero =>
      intro x h1 h2 h3
      refine b_Ta_isWord_28 hx ⟨by omega, hS.1 k g _ (by omega) (by omega) ⟨fun _ => hq 1 (Or.inl ⟨rfl, c, by omega, fun j j0 j1 => ?_⟩), fun z => by exfalso; omega⟩⟩
      rw [h3 j j0 (by omega)]; exact u3 j j0 (by omega)
    | succ m ih =>
      intro x h1 h2 h3
      refine b_Ta_isWord_28 hx ⟨by omega, hS.1 k g _ (by omega) (by omega) ⟨fun z => by exfalso; omega, fun _ => ⟨by omega, fun z => by exfalso; omega, fun _ => ⟨by omega, hS.2 k x g _ (by omega) (by omega) h2 (by omega) ⟨fun z => ⟨by omega, ih (x + 1) (by omega) (by omega) fun j j0 j1 => ?_⟩, fun z => hq 0 (Or.inr ⟨rfl, fun y => z ?_⟩)⟩⟩⟩⟩⟩
      · by_cases w : j = x
        · rw [w]; exact z
        · exact h3 j j0 (by omega)
      · rw [y.2.2 x h2 (by omega), u3 x h2 (by omega)]
  exact L (wL k).toNat 0 (by omega) (by omega) (fun j j0 j1 => by exfalso; omega)
theorem w_20 : wL 20 = 101 := by decide +kernel
theorem s_M_inWords {Y : z_X} {K : Nat} {τ g : z_G} {Q : z_P} (hm : z_lay Y K τ 0 z_SM z_RM) (hS : z_St Y K τ) (hw : g 0 11 = 2 → 0 ≤ g 0 12 ∧ g 0 12 ≤ g 0 13 ∧ g 0 13 ≤ g 0 10 ∧ g 0 10 ≤ 900) (hq : ∀ r, ((r = -1 ∧ ∀ w : Nat, w < 20 → ¬ (g 0 11 = 2 ∧ kMt (fun i => g 6 i % 256) (g 0 12) (g 0 13) w)) ∨ (∃ w : Nat, w < 20 ∧ r = (w : Int) ∧ g 0 11 = 2 ∧ kMt (fun i => g 6 i % 256) (g 0 12) (g 0 13) w)) → Q r g) : z_O Y 7 m_M_inWords [(2, 0), (4, 20)] K τ g Q := by
  refine b_M_inWords_0 hm ⟨fun c => ?_, fun c => hq (-1) (Or.inl ⟨rfl, fun w _ z => c z.1⟩)⟩
  have hw := hw c
  have l20 := w_20
  have L : ∀ (m w : Nat) (x2 x3 : Int), w + m = 20 → x2 = (w : Int) → x3 = (wS.getD w (0, 0)).1 → (∀ v : Nat, v < w → ¬ kMt (fun i => g 6 i % 256) (g 0 12) (g 0 13) v) → L_M_inWords_14 Y K τ 20 x2 x3 g Q := by
    intro m
    induction m with
    | zero =>
      intro w x2 x3 h1 h2 h3 h4
      have w20 : w = 20 := by omega
      subst w20
      have h3 : x3 = 101 := h3
      exact b_M_inWords_14 hm ⟨by omega, hS.1 20 g _ (by omega) (by omega) ⟨fun _ => hq (-1) (Or.inl ⟨rfl, fun w hw z => h4 w hw z.2⟩), fun z => by exfalso; omega⟩⟩
    | succ m ih =>
      intro w x2 x3 h1 h2 h3 h4
      obtain ⟨t1, t2, t3, t4, t5, t6⟩ := w_tab ⟨w, by omega⟩
      have t1 : 1 ≤ (wS.getD w (0, 0)).1 := t1
      have t2 : (wS.getD w (0, 0)).1 < (wS.getD w (0, 0)).2 := t2
      have t3 : (wS.getD w (0, 0)).2 < 101 := t3
      have t4 : wB 20 (wS.getD w (0, 0)).2 = 32 := t4
      have t5 : (wS.getD (w + 1) (0, 0)).1 = (wS.getD w (0, 0)).2 + 1 := t5
      have t6 : ∀ j : Int, (wS.getD w (0, 0)).1 ≤ j → j < (wS.getD w (0, 0)).2 → wB 20 j ≠ 32 := fun j j0 j1 => by
        have := t6 ⟨j.toNat, by omega⟩
        rw [show ((⟨j.toNat, by omega⟩ : Fin 101).val : Int) = j by show ((j.toNat : Nat) : Int) = j; omega] at this
        exact this j0 j1
      have nx : ∀ x4 : Int, x4 = (wS.getD w (0, 0)).2 → ¬ kMt (fun i => g 6 i % 256) (g 0 12) (g 0 13) w → L_M_inWords_14 Y K τ 20 (x2 + 1) (x4 + 1) g Q := fun x4 e4 hn => ih (w + 1) (x2 + 1) (x4 + 1) (by omega) (by omega) (by omega) fun v hv => by
        by_cases e : v = w
        · rw [e]; exact hn
        · exact h4 v (by omega)
      have z68 : ∀ (x4 x6 : Int), x4 = (wS.getD w (0, 0)).2 → ¬ kMt (fun i => g 6 i % 256) (g 0 12) (g 0 13) w → L_M_inWords_68 Y K τ 20 x2 x3 x4 0 x6 g Q := fun x4 x6 e4 hn => b_M_inWords_68 hm ⟨fun _ => ⟨fun _ => ⟨by omega, by omega, nx x4 e4 hn⟩, fun z => absurd rfl z⟩, fun _ => ⟨fun _ => ⟨by omega, by omega, nx x4 e4 hn⟩, fun z => absurd rfl z⟩⟩
      have c68 : ∀ (n : Nat) (x4 x6 : Int), x4 = (wS.getD w (0, 0)).2 → x6 + n = x4 → x3 ≤ x6 → x4 - x3 = g 0 13 - g 0 12 → (∀ j : Int, x3 ≤ j → j < x6 → wB 20 j = g 6 (g 0 12 + j - x3) % 256) → L_M_inWords_68 Y K τ 20 x2 x3 x4 1 x6 g Q := by
        intro n
        induction n with
        | zero =>
          intro x4 x6 e4 e6 e3 el hj
          refine b_M_inWords_68 hm ⟨fun _ => ⟨fun z => by exfalso; omega, fun _ => hq x2 (Or.inr ⟨w, by omega, h2, c, by omega, fun j j0 j1 => ?_⟩)⟩, fun z => by exfalso; omega⟩
          have := hj (x3 + j) (by omega) (by omega)
          rw [show g 0 12 + (x3 + j) - x3 = g 0 12 + j by omega] at this
          rw [← h3]; exact this.symm
        | succ n ihn =>
          intro x4 x6 e4 e6 e3 el hj
          refine b_M_inWords_68 hm ⟨fun z => by exfalso; omega, fun _ => ⟨fun z => by exfalso; omega, fun _ => ⟨by omega, hS.2 20 x6 g _ (by omega) (by omega) (by omega) (by omega) ⟨by omega, by omega, fun z => by exfalso; omega, fun _ => ⟨by omega, ?_⟩⟩⟩⟩⟩
          rw [k_255]
          refine ⟨fun z => ⟨by omega, ihn x4 (x6 + 1) e4 (by omega) (by omega) el fun j j0 j1 => ?_⟩, fun z => ⟨by omega, z68 x4 (x6 + 1) e4 fun hk => z ?_⟩⟩
          · by_cases e : j = x6
            · rw [e]; exact z
            · exact hj j j0 (by omega)
          · have := hk.2 (x6 - x3) (by omega) (by omega)
            rw [← h3, show x3 + (x6 - x3) = x6 by omega] at this
            rw [← this]
            dsimp only
            rw [show g 0 12 + (x6 - x3) = g 0 12 + x6 - x3 by omega]
      have c25 : ∀ (n : Nat) (x4 : Int), x4 + n = (wS.getD w (0, 0)).2 → x3 ≤ x4 → L_M_inWords_25 Y K τ 20 x2 x3 x4 g Q := by
        intro n
        induction n with
        | zero =>
          intro x4 e4 e3
          have e4 : x4 = (wS.getD w (0, 0)).2 := by omega
          refine b_M_inWords_25 hm ⟨by omega, hS.2 20 x4 g _ (by omega) (by omega) (by omega) (by omega) ⟨fun _ => ⟨by omega, by omega, fun z => ?_, fun z => ?_⟩, fun z => absurd (by rw [e4]; exact t4) z⟩⟩
          · exact c68 (x4 - x3).toNat x4 x3 e4 (by omega) (Int.le_refl x3) z (fun j j0 j1 => by exfalso; omega)
          · exact z68 x4 x3 e4 fun hk => z (by have := hk.1; omega)
        | succ n ihn =>
          intro x4 e4 e3
          exact b_M_inWords_25 hm ⟨by omega, hS.2 20 x4 g _ (by omega) (by omega) (by omega) (by omega) ⟨fun z => absurd z (t6 x4 (by omega) (by omega)), fun _ => ⟨by omega, ihn (x4 + 1) (by omega) (by omega)⟩⟩⟩
      exact b_M_inWords_14 hm ⟨by omega, hS.1 20 g _ (by omega) (by omega) ⟨fun z => by exfalso; omega, fun _ => c25 ((wS.getD w (0, 0)).2 - x3).toNat x3 (by omega) (Int.le_refl x3)⟩⟩
  exact L 20 0 0 1 (by omega) rfl (by decide) (fun v hv => by exfalso; omega)

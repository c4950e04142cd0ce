/-! ## TOURS: the loop -/
theorem z_Vrng {X : z_X} {d mc ms : Nat} {M : z_M} {pc : Nat} {ls : z_L} {st : List z_t} {uc us N : Nat} {σ g : z_G} {Q : z_Q} {c n : Nat} (hc : c < N) (hs : z_sh X c = (1, n)) (k : (∀ j : Nat, j < n → -2147483648 ≤ g c j ∧ g c j ≤ 2147483647) → z_V X d mc ms M pc ls st uc us N σ g Q) : z_V X d mc ms M pc ls st uc us N σ g Q := by
  intro p e s m args below meth cc H locs L F hL hl ho hH hq
  refine k (fun j hj => ?_) p e s m args below meth cc H locs L F hL hl ho hH hq
  have h := hH.2.2 c hc
  unfold z_cl at h
  rw [hs, if_neg (show ¬ ((1, n) : Nat × Nat).1 = 0 from Nat.one_ne_zero)] at h
  exact h.2 j hj
section Tour
variable {X Y : z_X} {N K : Nat} {σ τ gx0 gm0 gx gm : z_G} {o p : Nat} {b bm : Int} {P : z_P}
theorem mB_rng (hm : z_lay Y K τ 0 z_SM z_RM) {k : Int} {g : z_G} {Q : z_P} (h : (∀ j : Nat, j < 60 → -2147483648 ≤ g 15 j ∧ g 15 j ≤ 2147483647) → mB Y K τ k g Q) : mB Y K τ k g Q := z_Vrng (kl_M_15 hm) (ks_M_15 hm) h
def tL (gx0 gx gm : z_G) (o p : Nat) (k : Int) : Prop := ∀ q : Int, 0 ≤ q → q < k → gx0 (p + 9) q = 9 → k ≤ gx0 (p + 13) q → gx (o + 1) q = gm 15 q + 1 ∧ 0 ≤ gm 15 q ∧ gm 15 q ≤ 98
def tE (gx0 gm0 gx gm : z_G) (o p : Nat) : Prop :=
  iB (fX gx p) (fM gm 0) ∧ (gx o 0 = gm 0 36 ∧ 0 ≤ gm 0 36 ∧ gm 0 36 ≤ 300) ∧ gx o 1 = gm 16 0 ∧ gx o 2 = gm 16 1 ∧ gx o 3 = gm 16 2 ∧ gx o 4 = gm 16 3 ∧ (gx o 5 = gm 16 4 ∧ (gm 16 4 = 0 ∨ gm 16 4 = 1))
  ∧ (∀ c i, c ≠ o → c ≠ o + 1 → ¬ (p ≤ c ∧ c ≤ p + 7) → gx c i = gx0 c i)
  ∧ ∀ c i, tN c i → c ≠ 15 → c ≠ 16 → ¬ (c = 0 ∧ (i = 35 ∨ i = 36)) → gm c i = gm0 c i
theorem tR.e (h : tR gx0 gm0 gx gm o p b bm) : tE gx0 gm0 gx gm o p := by
  obtain ⟨h1, h2, h3, h4, h5, h6, h7, h8, h9, h10⟩ := h
  exact ⟨h1, h2, h3.1, h4.1, h5.1, h6.1, ⟨by omega, by omega⟩, h9, h10⟩
/-- beside gx stands gm, at line k -/
def tS (gx0 gm0 gx gm : z_G) (o p : Nat) (k : Int) : Prop := tR gx0 gm0 gx gm o p (gx o 0) (gx o 0) ∧ tL gx0 gx gm o p k
theorem t_stat (hop : p + 13 < o) (hgv : gx0 (p + 8) 0 = 1) (h : tR gx0 gm0 gx gm o p b bm) : (∀ (j : Nat) (i : Int), 8 ≤ j → j ≤ 13 → gx (p + j) i = gx0 (p + j) i) ∧ gm 1 6 = gx0 (p + 8) 2 ∧ 0 ≤ gx0 (p + 8) 2 ∧ gx0 (p + 8) 2 ≤ 60 ∧ (∀ n : Int, 0 ≤ n → n < gx0 (p + 8) 2 → iLn (fX gx p) (fM gm 0) n (gx0 (p + 8) 2)) ∧ ∀ n m : Int, 0 ≤ n → n < m → m < gx0 (p + 8) 2 → (gx0 (p + 9) n = 8 ∨ gx0 (p + 9) n = 9) → (gx0 (p + 9) m = 8 ∨ gx0 (p + 9) m = 9) → m < gx0 (p + 13) n → gx0 (p + 13) m < gx0 (p + 13) n := by
  have hf := h.2.2.2.2.2.2.2.2.1
  have e : ∀ (j : Nat) (i : Int), 8 ≤ j → j ≤ 13 → gx (p + j) i = gx0 (p + j) i := fun j i j1 j2 => hf _ _ (by omega) (by omega) (by omega)
  rcases h.1.2.2.2.2 with ⟨g1, -⟩ | ⟨g1, g2, g3, g4, g5, g6⟩
  · have g1 : gx (p + 8) 0 = 0 := g1
    rw [e 8 0 (by omega) (by omega)] at g1
    omega
  · have g2 : gx (p + 8) 2 = gm 1 6 := g2
    have g3 : 0 ≤ gm 1 6 := g3
    have g4 : gm 1 6 ≤ 60 := g4
    rw [e 8 2 (by omega) (by omega)] at g2
    have g5 : ∀ n : Int, 0 ≤ n → n < gm 1 6 → iLn (fX gx p) (fM gm 0) n (gm 1 6) := g5
    have g6 : ∀ n m : Int, 0 ≤ n → n < m → m < gm 1 6 → (gx (p + 9) n = 8 ∨ gx (p + 9) n = 9) → (gx (p + 9) m = 8 ∨ gx (p + 9) m = 9) → m < gx (p + 13) n → gx (p + 13) m < gx (p + 13) n := g6
    refine ⟨e, g2.symm, by omega, by omega, fun n n1 n2 => ?_, fun n m n1 n2 n3 => ?_⟩
    · rw [g2]; exact g5 n n1 (by omega)
    · have := g6 n m n1 n2 (by omega)
      rw [e 9 n (by omega) (by omega), e 9 m (by omega) (by omega), e 13 n (by omega) (by omega), e 13 m (by omega) (by omega)] at this
      exact this
/-- static facts of a line, told of the program alone -/
theorem t_line (hop : p + 13 < o) (hgv : gx0 (p + 8) 0 = 1) (h : tR gx0 gm0 gx gm o p b bm) {k : Int} (h5 : 0 ≤ k) (ck : k < gx0 (p + 8) 2) :
    (gx0 (p + 9) k = 11 → gm 1 (246 + 6 * k) = 14 ∧ gx0 (p + 13) k = gm 1 (246 + 6 * k + 4) ∧ 0 ≤ gx0 (p + 13) k ∧ gx0 (p + 13) k < k ∧ (gx0 (p + 9) (gx0 (p + 13) k) = 8 ∨ gx0 (p + 9) (gx0 (p + 13) k) = 9) ∧ gx0 (p + 13) (gx0 (p + 13) k) = k)
    ∧ (gx0 (p + 9) k = 9 → gm 1 (246 + 6 * k) = 13 ∧ gx0 (p + 11) k = gm 1 (246 + 6 * k + 1) ∧ 1 ≤ gm 1 (246 + 6 * k + 1) ∧ gm 1 (246 + 6 * k + 1) ≤ 99 ∧ gx0 (p + 13) k = gm 1 (246 + 6 * k + 4) ∧ k < gx0 (p + 13) k ∧ gx0 (p + 13) k < gx0 (p + 8) 2 ∧ gx0 (p + 9) (gx0 (p + 13) k) = 11 ∧ gx0 (p + 13) (gx0 (p + 13) k) = k)
    ∧ (gx0 (p + 9) k = 8 → 1216 ≤ gm 1 (246 + 6 * k) ∧ gm 1 (246 + 6 * k) ≤ 1219 ∧ gx0 (p + 13) k = gm 1 (246 + 6 * k + 4) ∧ k < gx0 (p + 13) k ∧ gx0 (p + 13) k < gx0 (p + 8) 2 ∧ gx0 (p + 9) (gx0 (p + 13) k) = 11 ∧ gx0 (p + 13) (gx0 (p + 13) k) = k)
    ∧ (gx0 (p + 9) k = 10 → gm 1 (246 + 6 * k) = 15)
    ∧ (¬ (gx0 (p + 9) k = 8) ∧ ¬ (gx0 (p + 9) k = 9) ∧ ¬ (gx0 (p + 9) k = 10) ∧ ¬ (gx0 (p + 9) k = 11) → 1 ≤ gm 1 (246 + 6 * k) ∧ gm 1 (246 + 6 * k) ≤ 11)
    ∧ (gx0 (p + 9) k = 11 ↔ gm 1 (246 + 6 * k) = 14) ∧ (gx0 (p + 9) k = 9 ↔ gm 1 (246 + 6 * k) = 13) := by
  obtain ⟨e, s1, s2, s3, s4, s5⟩ := t_stat hop hgv h
  have hl := s4 k h5 ck
  obtain ⟨l1, l2, l3, l4, l5⟩ := ln_all hl
  obtain ⟨l6, l7⟩ := ln_k hl
  rw [e 9 k (by omega) (by omega), e 13 k (by omega) (by omega), e 9 _ (by omega) (by omega), e 13 _ (by omega) (by omega)] at l1 l2 l3
  rw [e 11 k (by omega) (by omega)] at l2
  rw [e 9 k (by omega) (by omega)] at l4 l5 l6 l7
  exact ⟨l1, l2, l3, l4, l5, l6, l7⟩
theorem t_loop (ho : z_lay X N σ o z_SWk z_RWk) (hp : z_lay X N σ p z_SBd z_RBd) (hm : z_lay Y K τ 0 z_SM z_RM) (hop : p + 13 < o) (hgv : gx0 (p + 8) 0 = 1) {W : z_P → Prop} (hP : ∀ gx', (∃ gm', tE gx0 gm0 gx' gm' o p) → (∀ Q : z_P, (∀ gm', tE gx0 gm0 gx' gm' o p → Q 0 gm') → W Q) → P 0 gx') :
    ∀ (m : Nat) (k x5 jb : Int) (gx gw : z_G), 100000 ≤ x5 + m → 0 ≤ x5 → (jb = 0 ∨ jb = 1) → x5 ≤ 62 * gx o 0 + 62 * jb + k → 0 ≤ k → k ≤ gx0 (p + 8) 2 → tS gx0 gm0 gx gw o p k → (jb = 1 → k < gx0 (p + 8) 2 → ¬ gx0 (p + 9) k = 11) → (k < gx0 (p + 8) 2 → gx0 (p + 9) k = 11 → gx0 (p + 9) (gx0 (p + 13) k) = 9 → gx0 (p + 13) k + 1 < k) → (k < gx0 (p + 8) 2 → gx0 (p + 9) k = 11 → ∀ Q : z_P, (∀ gm, tS gx0 gm0 gx gm o p k → mB Y K τ k gm Q) → W Q) → (¬ (k < gx0 (p + 8) 2 ∧ gx0 (p + 9) k = 11) → ∀ Q : z_P, (∀ gm, tS gx0 gm0 gx gm o p k → L_M_lives_32 Y K τ k gm Q) → W Q) → L_Wk_tour_46 X N σ k x5 o p gx P := by
  intro m
  induction m with
  | zero =>
    intro k x5 jb gx gw h1 h2 h3 h4 h5 h6 h7
    exfalso
    have := (t_stat hop hgv h7.1).2.2.2.1
    have := h7.1.2.1
    omega
  | succ m ih =>
    intro k x5 jb gx gw h1 h2 h3 h4 h5 h6 h7 h8 h9 h11 h12
    obtain ⟨e, s1, s2, s3, s4, s5⟩ := t_stat hop hgv h7.1
    have d36 := h7.1.2.1
    -- what is to be shown of the next line
    have next : ∀ (k' jb' : Int) (gx' gw' : z_G), (jb' = 0 ∨ jb' = 1) → x5 + 1 ≤ 62 * gx' o 0 + 62 * jb' + k' → 0 ≤ k' → k' ≤ gx0 (p + 8) 2 → tS gx0 gm0 gx' gw' o p k' → (jb' = 1 → k' < gx0 (p + 8) 2 → ¬ gx0 (p + 9) k' = 11) → (k' < gx0 (p + 8) 2 → gx0 (p + 9) k' = 11 → gx0 (p + 9) (gx0 (p + 13) k') = 9 → gx0 (p + 13) k' + 1 < k') → (∀ Q : z_P, (∀ gm', tS gx0 gm0 gx' gm' o p k' → mB Y K τ k' gm' Q) → W Q) → L_Wk_tour_46 X N σ k' (x5 + 1) o p gx' P := by
      intro k' jb' gx' gw' n1 n2 n3 n4 n5 n6 n7 n9
      refine ih k' (x5 + 1) jb' gx' gw' (by omega) (by omega) n1 n2 n3 n4 n5 n6 n7 (fun _ _ => n9) (fun c Q hQ => n9 Q fun gm' hr => mB_go hm (by omega) ?_ (hQ gm' hr))
      obtain ⟨e', s1', -⟩ := t_stat hop hgv hr.1
      by_cases ck : k' < gx0 (p + 8) 2
      · right
        intro z
        exact c ⟨ck, (t_line hop hgv hr.1 n3 ck).2.2.2.2.2.1.mpr z⟩
      · left; omega
    have nE : ∀ k' : Int, 0 ≤ k' → k' < gx0 (p + 8) 2 → gx0 (p + 9) k' = 11 → gx0 (p + 13) k' < k' ∧ 0 ≤ gx0 (p + 13) k' ∧ (gx0 (p + 9) (gx0 (p + 13) k') = 8 ∨ gx0 (p + 9) (gx0 (p + 13) k') = 9) ∧ gx0 (p + 13) (gx0 (p + 13) k') = k' := by
      intro k' k1 k2 k3
      obtain ⟨-, -, a3, a4, a5, a6⟩ := (t_line hop hgv h7.1 k1 k2).1 k3
      exact ⟨a4, a3, a5, a6⟩
    by_cases ck : k < gx0 (p + 8) 2
    rotate_left
    · -- the end of all
      refine b_Wk_tour_46 ho hp ⟨fun z => by exfalso; omega, fun _ => ⟨fun z => by exfalso; omega, fun _ => ⟨fun _ => hP gx ⟨gw, h7.1.e⟩ fun Q hQ => h12 (fun z => ck z.1) Q fun gm hr => b_M_lives_32 hm ⟨fun _ => hQ gm hr.1.e, fun z => ?_⟩, fun z => ?_⟩⟩⟩
      · obtain ⟨e', s1', -⟩ := t_stat hop hgv hr.1
        exfalso; omega
      · have z : ¬ gx (p + 8) 2 ≤ k := z
        rw [e 8 2 (by omega) (by omega)] at z
        exfalso; omega
    have line := fun gm (hr : tS gx0 gm0 gx gm o p k) => t_line hop hgv hr.1 h5 ck
    have s16 := fun gm (hr : tS gx0 gm0 gx gm o p k) => (t_stat hop hgv hr.1).2.1
    obtain ⟨l1, l2, l3, l4, l5, l6, l7⟩ := line gw h7
    refine b_Wk_tour_46 ho hp ⟨fun z => by exfalso; omega, fun _ => ⟨fun z => by exfalso; omega, fun _ => ⟨fun z => ?_, fun _ => ⟨by omega, fun c => ?_, fun c => ?_⟩⟩⟩⟩
    · have z : gx (p + 8) 2 ≤ k := z
      rw [e 8 2 (by omega) (by omega)] at z
      exfalso; omega
    · -- an end
      have c : gx (p + 9) k = 11 := c
      rw [e 9 k (by omega) (by omega)] at c
      obtain ⟨a1, a2, a3, a4, a5, a6⟩ := l1 c
      have hjb : jb = 0 := by
        rcases h3 with z | z
        · exact z
        · exact absurd c (h8 z ck)
      have H := h11 ck c
      have ends : ∀ gm, tS gx0 gm0 gx gm o p k → k < gm 1 6 ∧ gm 1 (246 + 6 * k) = 14 ∧ gm 1 (246 + 6 * k + 4) = gx0 (p + 13) k ∧ (gx0 (p + 9) (gx0 (p + 13) k) = 9 ↔ gm 1 (246 + 6 * gx0 (p + 13) k) = 13) := fun gm hr => by
        obtain ⟨b1, b2, -⟩ := (line gm hr).1 c
        have b3 := (t_line hop hgv hr.1 a3 (by omega)).2.2.2.2.2.2
        have b4 := s16 gm hr
        exact ⟨by omega, b1, b2.symm, b3⟩
      generalize hbg : gx0 (p + 13) k = q at *
      have eq13 : gx (p + 13) k = q := by rw [e 13 k (by omega) (by omega)]; exact hbg
      have eq9 : gx (p + 9) q = gx0 (p + 9) q := e 9 q (by omega) (by omega)
      have tlf : ∀ gx' gm gm' : z_G, tS gx0 gm0 gx gm o p k → (∀ i : Int, i ≠ q → gx' (o + 1) i = gx (o + 1) i ∧ gm' 15 i = gm 15 i) → tL gx0 gx' gm' o p (k + 1) := by
        intro gx' gm gm' hr t3 i i0 i1 i2 i3
        have ik : i ≠ k := fun z => by rw [z] at i2; omega
        have iq : i ≠ q := fun z => by rw [z, a6] at i3; omega
        obtain ⟨u1, u2⟩ := t3 i iq
        rw [u1, u2]
        exact hr.2 i i0 (by omega) i2 (by omega)
      -- forward
      have fwd : ∀ gx' : z_G, gx' o 0 = gx o 0 → (∀ gm, tS gx0 gm0 gx gm o p k → ∃ gm', tR gx0 gm0 gx' gm' o p (gx o 0) (gx o 0) ∧ (∀ i : Int, i ≠ q → gx' (o + 1) i = gx (o + 1) i ∧ gm' 15 i = gm 15 i) ∧ ∀ Q : z_P, mB Y K τ (k + 1) gm' Q → mB Y K τ k gm Q) → L_Wk_tour_46 X N σ (k + 1) (x5 + 1) o p gx' P := by
        intro gx' t0 t1
        obtain ⟨gw', u1, u2, -⟩ := t1 gw h7
        refine next (k + 1) 0 gx' gw' (Or.inl rfl) (by omega) (by omega) (by omega) ⟨by rw [t0]; exact u1, tlf gx' gw gw' h7 u2⟩ (fun z => by exfalso; omega) (fun y1 y2 y3 => ?_) fun Q hQ => H Q fun gm hr => ?_
        · obtain ⟨b1, b2, b3, b4⟩ := nE (k + 1) (by omega) y1 y2
          by_cases z : gx0 (p + 13) (k + 1) = k
          · rw [z] at y3; omega
          · omega
        · obtain ⟨gm', v1, v2, v3⟩ := t1 gm hr
          exact v3 Q (hQ gm' ⟨by rw [t0]; exact v1, tlf gx' gm gm' hr v2⟩)
      refine b_Wk_lineBehindEnd_0 (o := o) (p1 := p + 8) ho (ky_Bd_8 hp) ?_
      have eq13' : gx (p + 8 + 5) k = q := eq13
      have eq9' : gx (p + 8 + 1) q = gx0 (p + 9) q := eq9
      rw [eq13', eq9']
      refine ⟨by omega, fun z => by exfalso; omega, fun _ => ⟨fun z => by exfalso; omega, fun _ => ⟨by omega, fun z => ?_, fun z => ⟨by omega, by omega, ?_⟩⟩⟩⟩
      · -- a loop's
        have nE1 := h9 ck c z
        have rr : ∀ gm, tS gx0 gm0 gx gm o p k → gx (o + 1) q = gm 15 q + 1 ∧ 0 ≤ gm 15 q ∧ gm 15 q ≤ 98 := fun gm hr => hr.2 q a3 (by omega) z (by rw [a6]; exact Int.le_refl k)
        obtain ⟨r1, r2, r3⟩ := rr gw h7
        have tw : ∀ (gm : z_G) (v : Int), tS gx0 gm0 gx gm o p k → tR gx0 gm0 (z_up gx (o + 1) q (gx (o + 1) q - 1)) (z_up gm 15 q v) o p (gx o 0) (gx o 0) := fun gm v hr => by
          obtain ⟨g1, g2, g3, g4, g5, g6, g7, g8, g9, g10⟩ := id hr.1
          refine hr.1.wk hop (fun c i c1 c2 => z_u2 (by omega)) (fun c i c1 c2 c3 => z_u2 (by omega)) ?_ ?_ ?_ ?_ ?_ ?_ ?_
          · rw [z_u2 (by omega), z_u2 (by omega)]; exact g2
          · rw [z_u2 (by omega), z_u2 (by omega)]; exact g3
          · rw [z_u2 (by omega), z_u2 (by omega)]; exact g4
          · rw [z_u2 (by omega), z_u2 (by omega)]; exact g5
          · rw [z_u2 (by omega), z_u2 (by omega)]; exact g6
          · rw [z_u2 (by omega), z_u2 (by omega)]; exact g7
          · rw [z_u2 (by omega), z_u2 (by omega)]; exact g8
        refine ⟨by omega, fun y => ⟨by omega, by omega, fwd _ (z_u2 (by omega)) fun gm hr => ?_⟩, fun y => ⟨by omega, by omega, ?_⟩⟩
        · obtain ⟨v1, v2, v3⟩ := rr gm hr
          obtain ⟨b1, b2, b3, b4⟩ := ends gm hr
          exact ⟨z_up gm 15 q (gm 15 q), tw gm _ hr, fun i hi => ⟨z_u2 (by omega), z_u2 (by omega)⟩, fun Q hQ => mB_end hm (by omega) b1 b2 b3 (by omega) (fun _ => ⟨by omega, by omega, fun _ => hQ, fun w => absurd (by omega) w⟩) (fun w => absurd (b4.mp z) w)⟩
        have tlb : ∀ gm, tS gx0 gm0 gx gm o p k → tL gx0 (z_up gx (o + 1) q (gx (o + 1) q - 1)) (z_up gm 15 q (gm 15 q - 1)) o p (q + 1) := by
          intro gm hr i i0 i1 i2 i3
          obtain ⟨v1, v2, v3⟩ := rr gm hr
          by_cases iq : i = q
          · subst iq
            rw [z_u1, z_u1]; omega
          · rw [z_u2 (by omega), z_u2 (by omega)]
            have := s5 i q i0 (by omega) (by omega) (Or.inr i2) (Or.inr z) (by omega)
            exact hr.2 i i0 (by omega) i2 (by omega)
        have e0 : z_up gx (o + 1) q (gx (o + 1) q - 1) o 0 = gx o 0 := z_u2 (by omega)
        have ne : q + 1 < gx0 (p + 8) 2 → gx0 (p + 9) (q + 1) = 11 → False := fun y1 y2 => by
          obtain ⟨b1, b2, b3, b4⟩ := nE (q + 1) (by omega) y1 y2
          by_cases w : gx0 (p + 13) (q + 1) = q
          · rw [w, a6] at b4; omega
          · have := s5 (gx0 (p + 13) (q + 1)) q b2 (by omega) (by omega) b3 (Or.inr z) (by omega)
            omega
        refine next (q + 1) 1 _ (z_up gw 15 q (gw 15 q - 1)) (Or.inr rfl) (by rw [e0]; omega) (by omega) (by omega) ⟨by rw [e0]; exact tw gw _ h7, tlb gw h7⟩ (fun _ y1 y2 => ne y1 y2) (fun y1 y2 y3 => (ne y1 y2).elim) fun Q hQ => H Q fun gm hr => ?_
        obtain ⟨v1, v2, v3⟩ := rr gm hr
        obtain ⟨b1, b2, b3, b4⟩ := ends gm hr
        exact mB_end hm (by omega) b1 b2 b3 (by omega) (fun _ => ⟨by omega, by omega, fun w => absurd w (by omega), fun _ => hQ _ ⟨by rw [e0]; exact tw gm _ hr, tlb gm hr⟩⟩) (fun w => absurd (b4.mp z) w)
      · -- a when's
        refine fwd gx rfl fun gm hr => ?_
        obtain ⟨b1, b2, b3, b4⟩ := ends gm hr
        refine ⟨z_up gm 15 q (gm 15 q), ?_, fun i hi => ⟨rfl, z_u2 (by omega)⟩, fun Q hQ => mB_rng hm fun rg => mB_end hm (by omega) b1 b2 b3 (by omega) (fun w => absurd (b4.mpr w) z) (fun w => ?_)⟩
        · obtain ⟨g1, g2, g3, g4, g5, g6, g7, g8, g9, g10⟩ := id hr.1
          refine hr.1.wk hop (fun c i c1 c2 => rfl) (fun c i c1 c2 c3 => z_u2 (by omega)) ?_ ?_ ?_ ?_ ?_ ?_ ?_
          · rw [z_u2 (by omega)]; exact g2
          · rw [z_u2 (by omega)]; exact g3
          · rw [z_u2 (by omega)]; exact g4
          · rw [z_u2 (by omega)]; exact g5
          · rw [z_u2 (by omega)]; exact g6
          · rw [z_u2 (by omega)]; exact g7
          · rw [z_u2 (by omega)]; exact g8
        · have := rg q.toNat (by omega)
          rw [show ((q.toNat : Nat) : Int) = q by omega] at this
          exact ⟨this.1, this.2, hQ⟩
    · -- a step
      have c : ¬ gx (p + 9) k = 11 := c
      rw [e 9 k (by omega) (by omega)] at c
      have H := h12 (fun z => c z.2)
      have cs : ∀ gm, tS gx0 gm0 gx gm o p k → gm 0 36 = gx o 0 ∧ gm 16 4 = 0 ∧ k < gm 1 6 := fun gm hr => by
        have b4 := s16 gm hr
        exact ⟨hr.1.2.1.1.symm, hr.1.2.2.2.2.2.2.1.2, by omega⟩
      refine ⟨fun d => ⟨by omega, ?_⟩, fun d => ?_⟩
      rotate_left
      · -- cut short
        have te : ∀ gm, tS gx0 gm0 gx gm o p k → tE gx0 gm0 (z_up gx o 5 1) (z_up gm 16 4 1) o p := fun gm hr => by
          obtain ⟨g1, g2, g3, g4, g5, g6, g7, g8, g9, g10⟩ := id hr.1
          refine ⟨g1.congr (fun a i ha => z_u2 (by omega)) (fun i i1 i2 => z_u2 (by omega)), ?_, ?_, ?_, ?_, ?_, ?_, fun c i c1 c2 c3 => by rw [z_u2 (by omega)]; exact g9 c i c1 c2 c3, fun c i hk c1 c2 c3 => by rw [z_u2 (by omega)]; exact g10 c i hk c1 c2 c3⟩
          · rw [z_u2 (by omega), z_u2 (by omega)]; exact g2
          · rw [z_u2 (by omega), z_u2 (by omega)]; exact g3.1
          · rw [z_u2 (by omega), z_u2 (by omega)]; exact g4.1
          · rw [z_u2 (by omega), z_u2 (by omega)]; exact g5.1
          · rw [z_u2 (by omega), z_u2 (by omega)]; exact g6.1
          · rw [z_u1, z_u1]; exact ⟨rfl, Or.inr rfl⟩
        refine hP _ ⟨_, te gw h7⟩ fun Q hQ => H Q fun gm hr => ?_
        obtain ⟨b1, b2, b3⟩ := cs gm hr
        exact mL_cut hm b3 b2 (by omega) (hQ _ (te gm hr))
      -- the step is counted
      have t1 : ∀ gm, tS gx0 gm0 gx gm o p k → tR gx0 gm0 (z_up gx o 0 (gx o 0 + 1)) (z_up gm 0 36 (gm 0 36 + 1)) o p (gx o 0) (gx o 0) := fun gm hr => by
        obtain ⟨g1, g2, g3, g4, g5, g6, g7, g8, g9, g10⟩ := id hr.1
        refine hr.1.wk hop (fun c i c1 c2 => z_u2 (by omega)) (fun c i c1 c2 c3 => z_u2 (by omega)) ?_ ?_ ?_ ?_ ?_ ?_ ?_
        · rw [z_u1, z_u1]; omega
        · rw [z_u2 (by omega), z_u2 (by omega)]; exact g3
        · rw [z_u2 (by omega), z_u2 (by omega)]; exact g4
        · rw [z_u2 (by omega), z_u2 (by omega)]; exact g5
        · rw [z_u2 (by omega), z_u2 (by omega)]; exact g6
        · rw [z_u2 (by omega), z_u2 (by omega)]; exact g7
        · rw [z_u2 (by omega), z_u2 (by omega)]; exact g8
      have x0 : ∀ i, z_up gx o 0 (gx o 0 + 1) (o + 1) i = gx (o + 1) i := fun i => z_u2 (by omega)
      have x00 : z_up gx o 0 (gx o 0 + 1) o 0 = gx o 0 + 1 := z_u1
      have x01 : z_up gx o 0 (gx o 0 + 1) o 1 = gx o 1 := z_u2 (by omega)
      generalize hgx1 : z_up gx o 0 (gx o 0 + 1) = gx1 at *
      obtain ⟨e1, -, -, -, -, -⟩ := t_stat hop hgv (t1 gw h7)
      have hl1 : ∀ gm, tR gx0 gm0 gx1 gm o p (gx o 0) (gx o 0) → iLn (fX gx1 p) (fM gm 0) k (gx0 (p + 8) 2) := fun gm hr => (t_stat hop hgv hr).2.2.2.2.1 k h5 ck
      have k9 : gx1 (p + 9) k = gx0 (p + 9) k := e1 9 k (by omega) (by omega)
      have k11 : gx1 (p + 11) k = gx0 (p + 11) k := e1 11 k (by omega) (by omega)
      have k13 : gx1 (p + 13) k = gx0 (p + 13) k := e1 13 k (by omega) (by omega)
      have k82 : gx1 (p + 8) 2 = gx0 (p + 8) 2 := e1 8 2 (by omega) (by omega)
      -- a state behind the step, and what holds there
      have tgo : ∀ (k' : Int) (gx' gm gm' : z_G), k < k' → (∀ i : Int, 0 ≤ i → i < k' → gx0 (p + 9) i = 9 → k' ≤ gx0 (p + 13) i → i < k) → tS gx0 gm0 gx gm o p k → tR gx0 gm0 gx' gm' o p (gx o 0 + 1) (gx o 0 + 1) → gm' 0 36 = gx o 0 + 1 → (∀ i : Int, gx' (o + 1) i = gx (o + 1) i ∧ gm' 15 i = gm 15 i) → tS gx0 gm0 gx' gm' o p k' := by
        intro k' gx' gm gm' kk kn hr u1 u2 u3
        have u4 := u1.2.1.1
        refine ⟨by rw [u4, u2]; exact u1, fun i i0 i1 i2 i3 => ?_⟩
        have ik := kn i i0 i1 i2 i3
        rw [(u3 i).1, (u3 i).2]
        exact hr.2 i i0 ik i2 (by omega)
      -- the end that is come to is of no empty loop
      have E1 : ¬ gx0 (p + 9) k = 9 → k + 1 < gx0 (p + 8) 2 → gx0 (p + 9) (k + 1) = 11 → gx0 (p + 9) (gx0 (p + 13) (k + 1)) = 9 → gx0 (p + 13) (k + 1) + 1 < k + 1 := fun nl y1 y2 y3 => by
        obtain ⟨b1, b2, b3, b4⟩ := nE (k + 1) (by omega) y1 y2
        by_cases z : gx0 (p + 13) (k + 1) = k
        · rw [z] at y3; exact absurd y3 nl
        · omega
      have K1 : ¬ gx0 (p + 9) k = 9 → ∀ i : Int, 0 ≤ i → i < k + 1 → gx0 (p + 9) i = 9 → k + 1 ≤ gx0 (p + 13) i → i < k := fun nl i i0 i1 i2 i3 => by
        have ik : i ≠ k := fun z => by rw [z] at i2; exact nl i2
        omega
      refine b_Wk_lineBehindStep_0 ho hp ?_
      rw [k9, k11, k82]
      refine ⟨by omega, fun z => ?_, fun z => ?_, fun z => ?_, fun z => ?_⟩
      · -- when
        obtain ⟨q1, q2, q3, q4, q5, q6, q7⟩ := l3 z
        have nl : ¬ gx0 (p + 9) k = 9 := by omega
        have M : ∀ {Q : z_P}, (∀ gm, tS gx0 gm0 gx gm o p k → z_O Y 4 m_M_holds [(2, 0), (0, 246 + 6 * k)] K τ (z_up gm 0 36 (gm 0 36 + 1)) (fun r g0 => (r = 0 ∨ r = 1) → (0 ≤ g0 1 (246 + 6 * k + 4) ∧ g0 1 (246 + 6 * k + 4) ≤ 60) ∧ ((r = 0 → mB Y K τ (g0 1 (246 + 6 * k + 4) + 1) g0 Q) ∧ (¬ r = 0 → mB Y K τ (k + 1) g0 Q)))) → W Q := fun hh => H _ fun gm hr => by
          obtain ⟨b1, b2, b3⟩ := cs gm hr
          obtain ⟨v1, v2, -⟩ := (line gm hr).2.2.1 z
          exact mL_when hm (by omega) b3 b2 (by omega) ⟨v1, v2⟩ (hh gm hr)
        have y4 : ∀ gm gm' : z_G, tS gx0 gm0 gx gm o p k → mS (z_up gm 0 36 (gm 0 36 + 1)) gm' → gm' 1 (246 + 6 * k + 4) = gx0 (p + 13) k := fun gm gm' hr hs => by
          obtain ⟨-, -, v3, -⟩ := (line gm hr).2.2.1 z
          rw [hs _ _ (by unfold mP mK; omega), z_u2 (by omega)]; exact v3.symm
        have st : ∀ gm gm' : z_G, tS gx0 gm0 gx gm o p k → tR gx0 gm0 gx1 gm' o p (gx o 0) (gx o 0) → tF gx1 gx1 (z_up gm 0 36 (gm 0 36 + 1)) gm' o → tR gx0 gm0 gx1 gm' o p (gx o 0 + 1) (gx o 0 + 1) ∧ gm' 0 36 = gx o 0 + 1 ∧ ∀ i : Int, gx1 (o + 1) i = gx (o + 1) i ∧ gm' 15 i = gm 15 i := fun gm gm' hr u1 u2 => by
          refine ⟨u1.le (by omega) (by omega), ?_, fun i => ⟨x0 i, ?_⟩⟩
          · have := u1.2.1.1; omega
          · rw [u2.2.1 i, z_u2 (by omega)]
        refine t_holds hp hm hop (t1 gw h7) (by omega) hl1 (by rw [k9]; exact z) fun r hr hM => fun _ => ⟨fun r0 => ?_, fun r0 => ⟨by omega, ?_⟩⟩
        · rw [k13]
          have kn : ∀ i : Int, 0 ≤ i → i < gx0 (p + 13) k + 1 → gx0 (p + 9) i = 9 → gx0 (p + 13) k + 1 ≤ gx0 (p + 13) i → i < k := fun i i0 i1 i2 i3 => by
            have ik : i ≠ k := fun y => by rw [y] at i2; omega
            have im : i ≠ gx0 (p + 13) k := fun y => by rw [y] at i2; omega
            rcases Int.lt_or_le i k with y | y
            · exact y
            · have := s5 k i h5 (by omega) (by omega) (Or.inl z) (Or.inr i2) (by omega)
              omega
          have wit : tS gx0 gm0 gx1 (z_up gw 0 36 (gw 0 36 + 1)) o p (gx0 (p + 13) k + 1) := by
            obtain ⟨a1, a2, a3⟩ := st gw _ h7 (t1 gw h7) ⟨fun _ => rfl, fun _ => rfl, rfl⟩
            exact tgo _ gx1 gw _ (by omega) kn h7 a1 a2 a3
          refine ⟨by omega, by omega, next (gx0 (p + 13) k + 1) 0 gx1 _ (Or.inl rfl) (by omega) (by omega) (by omega) wit (fun y => by exfalso; omega) (fun y1 y2 y3 => ?_) fun Q hQ => M fun gm hrr => hM _ (t1 gm hrr) _ fun gm' u1 u2 u3 _ => ?_⟩
          · obtain ⟨b1, b2, b3, b4⟩ := nE (gx0 (p + 13) k + 1) (by omega) y1 y2
            by_cases w : gx0 (p + 13) (gx0 (p + 13) k + 1) = gx0 (p + 13) k
            · rw [w] at y3; omega
            · omega
          · obtain ⟨a1, a2, a3⟩ := st gm gm' hrr u1 u2
            have y := y4 gm gm' hrr u3
            rw [y]
            exact ⟨by omega, fun _ => hQ gm' (tgo _ gx1 gm gm' (by omega) kn hrr a1 a2 a3), fun w => absurd r0 w⟩
        · have wit : tS gx0 gm0 gx1 (z_up gw 0 36 (gw 0 36 + 1)) o p (k + 1) := by
            obtain ⟨a1, a2, a3⟩ := st gw _ h7 (t1 gw h7) ⟨fun _ => rfl, fun _ => rfl, rfl⟩
            exact tgo _ gx1 gw _ (by omega) (K1 nl) h7 a1 a2 a3
          refine ⟨by omega, next (k + 1) 0 gx1 _ (Or.inl rfl) (by omega) (by omega) (by omega) wit (fun y => by exfalso; omega) (E1 nl) fun Q hQ => M fun gm hrr => hM _ (t1 gm hrr) _ fun gm' u1 u2 u3 _ => ?_⟩
          obtain ⟨a1, a2, a3⟩ := st gm gm' hrr u1 u2
          have y := y4 gm gm' hrr u3
          rw [y]
          exact ⟨by omega, fun w => absurd w r0, fun _ => hQ gm' (tgo _ gx1 gm gm' (by omega) (K1 nl) hrr a1 a2 a3)⟩
      · -- loop
        obtain ⟨q1, q2, q3, q4, q5, q6, q7, q8, q9⟩ := l2 z
        have k13' : z_up gx1 (o + 1) k (gx0 (p + 11) k) (p + 13) k = gx0 (p + 13) k := by rw [z_u2 (by omega)]; exact k13
        have lk : ∀ gm, tS gx0 gm0 gx gm o p k → gm 1 (246 + 6 * k) = 13 ∧ gm 1 (246 + 6 * k + 1) = gx0 (p + 11) k := fun gm hr => by
          obtain ⟨v1, v2, -⟩ := (line gm hr).2.1 z
          exact ⟨v1, v2.symm⟩
        have hv : 1 ≤ gx0 (p + 11) k ∧ gx0 (p + 11) k ≤ 99 := by omega
        have tr : ∀ gm gm' : z_G, tS gx0 gm0 gx gm o p k → (∀ c i, ¬ (c = 15 ∧ i = k) → gm' c i = z_up gm 0 36 (gm 0 36 + 1) c i) → tR gx0 gm0 (z_up gx1 (o + 1) k (gx0 (p + 11) k)) gm' o p (gx o 0 + 1) (gx o 0 + 1) ∧ gm' 0 36 = gx o 0 + 1 := fun gm gm' hr hf => by
          obtain ⟨g1, g2, g3, g4, g5, g6, g7, g8, g9, g10⟩ := id (t1 gm hr)
          have d := (cs gm hr).1
          have e36 : gm' 0 36 = gx o 0 + 1 := by rw [hf _ _ (by omega), z_u1, d]
          refine ⟨(t1 gm hr).wk hop (fun c i c1 c2 => z_u2 (by omega)) (fun c i c1 c2 c3 => hf c i (by omega)) ?_ ?_ ?_ ?_ ?_ ?_ ?_, e36⟩
          · rw [z_u2 (by omega), hf _ _ (by omega)]; exact g2
          · rw [z_u2 (by omega), hf _ _ (by omega)]; omega
          · rw [z_u2 (by omega), hf _ _ (by omega)]; omega
          · rw [z_u2 (by omega), hf _ _ (by omega)]; omega
          · rw [z_u2 (by omega), hf _ _ (by omega)]; omega
          · rw [z_u2 (by omega), hf _ _ (by omega)]; exact g7
          · rw [z_u2 (by omega), hf _ _ (by omega)]; exact g8
        have e0 : z_up gx1 (o + 1) k (gx0 (p + 11) k) o 0 = gx o 0 + 1 := by rw [z_u2 (by omega)]; exact x00
        rw [k13']
        refine ⟨by omega, fun y => ⟨by omega, ?_⟩, fun y => ?_⟩
        · -- an empty one
          have ts2 : ∀ gm gm' : z_G, tS gx0 gm0 gx gm o p k → (∀ c i, ¬ (c = 15 ∧ i = k) → gm' c i = z_up gm 0 36 (gm 0 36 + 1) c i) → tS gx0 gm0 (z_up gx1 (o + 1) k (gx0 (p + 11) k)) gm' o p (k + 2) := fun gm gm' hr hf => by
            obtain ⟨a1, a2⟩ := tr gm gm' hr hf
            refine ⟨by rw [e0]; exact a1, fun i i0 i1 i2 i3 => ?_⟩
            have ik : i ≠ k := fun w => by rw [w] at i3; omega
            have ik1 : i ≠ k + 1 := fun w => by rw [w, ← y] at i2; omega
            rw [z_u2 (by omega), x0, hf _ _ (by omega), z_u2 (by omega)]
            exact hr.2 i i0 (by omega) i2 (by omega)
          have wit := ts2 gw (z_up gw 0 36 (gw 0 36 + 1)) h7 (fun _ _ _ => rfl)
          refine ⟨by omega, next (k + 2) 0 _ _ (Or.inl rfl) (by rw [e0]; omega) (by omega) (by omega) wit (fun w => by exfalso; omega) (fun y1 y2 y3 => ?_) fun Q hQ => H Q fun gm hr => ?_⟩
          · obtain ⟨b1, b2, b3, b4⟩ := nE (k + 2) (by omega) y1 y2
            by_cases w : gx0 (p + 13) (k + 2) = k + 1
            · rw [w, ← y] at y3; omega
            · omega
          · obtain ⟨b1, b2, b3⟩ := cs gm hr
            obtain ⟨u1, u2⟩ := lk gm hr
            have ce := t_line hop hgv hr.1 (k := k + 1) (by omega) (by omega)
            obtain ⟨m1, m2, -⟩ := ce.1 (by rw [← y]; exact q8)
            have m3 : gm 1 (246 + 6 * (k + 1) + 4) = k := by rw [← m2, ← y]; exact q9
            have z0 : ∀ c i, ¬ (c = 0 ∧ i = 36) → ¬ (c = 15 ∧ i = k) → ∀ v, z_up (z_up gm 0 36 (gm 0 36 + 1)) 15 k v c i = gm c i := fun c i c1 c2 v => by rw [z_u2 (by omega), z_u2 (by omega)]
            have s6 := s16 gm hr
            refine mL_loop hm (by omega) b3 b2 (by omega) u1 (by omega) (mB_empty hm (by omega) (gx0 (p + 11) k - 1).toNat _ (by rw [z0 _ _ (by omega) (by omega)]; omega) (by rw [z0 _ _ (by omega) (by omega)]; exact m1) (by rw [z0 _ _ (by omega) (by omega)]; exact m3) (by rw [z0 _ _ (by omega) (by omega)]; exact u1) (by rw [z_u1, u2]; omega) (by omega) fun g' hf => hQ g' (ts2 gm g' hr fun c i hc => by rw [hf c i hc, z_u2 (by omega)]))
        · have ts1 : ∀ gm, tS gx0 gm0 gx gm o p k → tS gx0 gm0 (z_up gx1 (o + 1) k (gx0 (p + 11) k)) (z_up (z_up gm 0 36 (gm 0 36 + 1)) 15 k (gx0 (p + 11) k - 1)) o p (k + 1) := fun gm hr => by
            obtain ⟨a1, a2⟩ := tr gm (z_up (z_up gm 0 36 (gm 0 36 + 1)) 15 k (gx0 (p + 11) k - 1)) hr (fun c i hc => z_u2 (by omega))
            refine ⟨by rw [e0]; exact a1, fun i i0 i1 i2 i3 => ?_⟩
            by_cases ik : i = k
            · subst ik
              rw [z_u1, z_u1]; omega
            · rw [z_u2 (by omega), x0, z_u2 (by omega), z_u2 (by omega)]
              exact hr.2 i i0 (by omega) i2 (by omega)
          refine ⟨by omega, next (k + 1) 0 _ _ (Or.inl rfl) (by rw [e0]; omega) (by omega) (by omega) (ts1 gw h7) (fun w => by exfalso; omega) (fun y1 y2 y3 => ?_) fun Q hQ => H Q fun gm hr => ?_⟩
          · obtain ⟨b1, b2, b3, b4⟩ := nE (k + 1) (by omega) y1 y2
            by_cases w : gx0 (p + 13) (k + 1) = k
            · rw [w] at b4; omega
            · omega
          · obtain ⟨b1, b2, b3⟩ := cs gm hr
            obtain ⟨u1, u2⟩ := lk gm hr
            exact mL_loop hm (by omega) b3 b2 (by omega) u1 (by omega) (by rw [u2]; exact hQ _ (ts1 gm hr))
      · -- stop
        have te : ∀ gm, tS gx0 gm0 gx gm o p k → tE gx0 gm0 gx1 (z_up gm 0 36 (gm 0 36 + 1)) o p := fun gm hr => (t1 gm hr).e
        refine ⟨by omega, b_Wk_tour_46 ho hp ?_⟩
        rw [k82]
        refine ⟨fun w => by exfalso; omega, fun _ => ⟨fun w => by exfalso; omega, fun _ => ⟨fun _ => hP gx1 ⟨_, te gw h7⟩ fun Q hQ => H Q fun gm hr => ?_, fun w => absurd (Int.le_refl _) w⟩⟩⟩
        obtain ⟨b1, b2, b3⟩ := cs gm hr
        exact mL_stop hm (by omega) b3 b2 (by omega) ((line gm hr).2.2.2.1 z) (hQ _ (te gm hr))
      · -- a plain step
        have hk : ¬ (gx0 (p + 9) k = 8) ∧ ¬ (gx0 (p + 9) k = 9) ∧ ¬ (gx0 (p + 9) k = 10) ∧ ¬ (gx0 (p + 9) k = 11) := ⟨z.1, z.2.1, z.2.2, c⟩
        rw [← k9, ← k11]
        have M : ∀ {Q : z_P}, (∀ gm, tS gx0 gm0 gx gm o p k → z_O Y 5 m_M_does [(2, 0), (0, 246 + 6 * k)] K τ (z_up gm 0 36 (gm 0 36 + 1)) (fun r g0 => (r = 0 ∨ r = 1) → g0 1 (246 + 6 * k) = gm 1 (246 + 6 * k) ∧ (0 ≤ g0 16 0 ∧ g0 16 0 ≤ 400) ∧ ((r = 0 → mB Y K τ (k + 1) (z_up g0 16 0 (g0 16 0 + 1)) Q) ∧ (¬ r = 0 → mB Y K τ (k + 1) g0 Q)))) → W Q := fun hh => H _ fun gm hr => by
          obtain ⟨b1, b2, b3⟩ := cs gm hr
          exact mL_def hm (by omega) b3 b2 (by omega) ((line gm hr).2.2.2.2.1 hk) (hh gm hr)
        refine t_act ho hp hm hop (t1 gw h7) (by omega) (by omega) hl1 (by rw [k9]; exact hk) fun r gx' hr ex1 hex hM => fun _ => ?_
        obtain ⟨ge, ge1, ge2⟩ := hex
        have m1 := h7.1.2.2.1
        -- the line stays as it is
        have kr : ∀ gm gm' : z_G, tS gx0 gm0 gx gm o p k → tR gx0 gm0 gx' gm' o p (gx o 0 + 1) (gx o 0) → gm' 1 (246 + 6 * k) = gm 1 (246 + 6 * k) := fun gm gm' hs u1 => by
          have a := u1.2.2.2.2.2.2.2.2.2 1 (246 + 6 * k) (by unfold tN mP mK; omega) (by omega) (by omega) (by omega)
          have b := hs.1.2.2.2.2.2.2.2.2.2 1 (246 + 6 * k) (by unfold tN mP mK; omega) (by omega) (by omega) (by omega)
          rw [a, b]
        have st1 : ∀ gm gm' : z_G, tS gx0 gm0 gx gm o p k → tR gx0 gm0 gx' gm' o p (gx o 0 + 1) (gx o 0) → tF gx1 gx' (z_up gm 0 36 (gm 0 36 + 1)) gm' o → gm' 0 36 = gx o 0 + 1 ∧ ∀ i : Int, gx' (o + 1) i = gx (o + 1) i ∧ gm' 15 i = gm 15 i := fun gm gm' hs u1 u2 => by
          refine ⟨?_, fun i => ⟨?_, ?_⟩⟩
          · rw [u2.2.2, z_u1, (cs gm hs).1]
          · rw [u2.1 i, x0 i]
          · rw [u2.2.1 i, z_u2 (by omega)]
        have sg : ∀ gm gm' : z_G, tS gx0 gm0 gx gm o p k → tR gx0 gm0 gx' gm' o p (gx o 0 + 1) (gx o 0) → tF gx1 gx' (z_up gm 0 36 (gm 0 36 + 1)) gm' o → tS gx0 gm0 gx' gm' o p (k + 1) := fun gm gm' hs u1 u2 => by
          obtain ⟨a2, a3⟩ := st1 gm gm' hs u1 u2
          exact tgo (k + 1) gx' gm gm' (by omega) (K1 hk.2.1) hs (u1.le (by omega) (by omega)) a2 a3
        have sm : ∀ gm gm' : z_G, tS gx0 gm0 gx gm o p k → tR gx0 gm0 gx' gm' o p (gx o 0 + 1) (gx o 0) → tF gx1 gx' (z_up gm 0 36 (gm 0 36 + 1)) gm' o → tS gx0 gm0 (z_up gx' o 1 (gx' o 1 + 1)) (z_up gm' 16 0 (gm' 16 0 + 1)) o p (k + 1) := fun gm gm' hs u1 u2 => by
          obtain ⟨a2, a3⟩ := st1 gm gm' hs u1 u2
          obtain ⟨g1, g2, g3, g4, g5, g6, g7, g8, g9, g10⟩ := id u1
          refine tgo (k + 1) _ gm _ (by omega) (K1 hk.2.1) hs (u1.wk hop (fun c i c1 c2 => z_u2 (by omega)) (fun c i c1 c2 c3 => z_u2 (by omega)) ?_ ?_ ?_ ?_ ?_ ?_ ?_) (by rw [z_u2 (by omega)]; exact a2) (fun i => ⟨by rw [z_u2 (by omega)]; exact (a3 i).1, by rw [z_u2 (by omega)]; exact (a3 i).2⟩)
          · rw [z_u2 (by omega), z_u2 (by omega)]; exact g2
          · rw [z_u1, z_u1]; omega
          · rw [z_u2 (by omega), z_u2 (by omega)]; exact g4
          · rw [z_u2 (by omega), z_u2 (by omega)]; exact g5
          · rw [z_u2 (by omega), z_u2 (by omega)]; exact g6
          · rw [z_u2 (by omega), z_u2 (by omega)]; exact g7
          · rw [z_u2 (by omega), z_u2 (by omega)]; exact g8
        have eo : gx' o 0 = gx o 0 + 1 := by
          have a := (st1 gw ge h7 ge1 ge2).1
          have := ge1.2.1.1
          omega
        refine ⟨fun r0 => ⟨by omega, by omega, ?_⟩, fun r0 => ⟨by omega, by omega, ?_⟩⟩
        · refine ⟨by omega, next (k + 1) 0 _ _ (Or.inl rfl) (by rw [z_u2 (by omega)]; omega) (by omega) (by omega) (sm gw ge h7 ge1 ge2) (fun y => by exfalso; omega) (E1 hk.2.1) fun Q hQ => M fun gm hrr => hM _ (t1 gm hrr) _ fun gm' u1 u2 _ => ⟨kr gm gm' hrr u1, ?_, fun _ => hQ _ (sm gm gm' hrr u1 u2), fun w => absurd r0 w⟩⟩
          have := u1.2.2.1; omega
        · refine next (k + 1) 0 gx' ge (Or.inl rfl) (by omega) (by omega) (by omega) (sg gw ge h7 ge1 ge2) (fun y => by exfalso; omega) (E1 hk.2.1) fun Q hQ => M fun gm hrr => hM _ (t1 gm hrr) _ fun gm' u1 u2 _ => ⟨kr gm gm' hrr u1, ?_, fun w => absurd w r0, fun _ => hQ _ (sg gm gm' hrr u1 u2)⟩
          have := u1.2.2.1; omega
end Tour

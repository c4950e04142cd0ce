/-! ## TOURS as a text: the ';' of a when, of a loop -/
def rowO (k : Int) (gx gm : z_G) (t : Int) : Prop := (k = 8 ∧ wOK gx gm t) ∨ (k = 9 ∧ gm 1 t = 13 ∧ gx 9 8 = gm 1 (t + 1) ∧ 1 ≤ gm 1 (t + 1) ∧ gm 1 (t + 1) ≤ 99)
theorem rowO.op {fx : Nat → Int → Int} {gx gm : z_G} {k n : Int} (h : rowO k gx gm (2686 + 6 * n)) (h9 : fx 9 n = k) (h10 : fx 10 n = gx 9 7) (h11 : fx 11 n = gx 9 8) (h12 : fx 12 n = gx 9 9) (h13 : fx 13 n = n) : pOp fx (fM gm 2440) n := by
  have e0 : fM gm 2440 (246 + 6 * n) = gm 1 (2686 + 6 * n) := by show gm 1 (2440 + (246 + 6 * n)) = _; rw [show (2440 : Int) + (246 + 6 * n) = 2686 + 6 * n by omega]
  have e1 : fM gm 2440 (246 + 6 * n + 1) = gm 1 (2686 + 6 * n + 1) := by show gm 1 (2440 + (246 + 6 * n + 1)) = _; rw [show (2440 : Int) + (246 + 6 * n + 1) = 2686 + 6 * n + 1 by omega]
  have e2 : fM gm 2440 (246 + 6 * n + 2) = gm 1 (2686 + 6 * n + 2) := by show gm 1 (2440 + (246 + 6 * n + 2)) = _; rw [show (2440 : Int) + (246 + 6 * n + 2) = 2686 + 6 * n + 2 by omega]
  have e5 : fM gm 2440 (246 + 6 * n + 5) = gm 1 (2686 + 6 * n + 5) := by show gm 1 (2440 + (246 + 6 * n + 5)) = _; rw [show (2440 : Int) + (246 + 6 * n + 5) = 2686 + 6 * n + 5 by omega]
  refine ⟨h13, ?_⟩
  rw [h9, h10, h11, h12, e0, e1, e2, e5]
  exact h
section Lock
variable {X Y : z_X} {N K : Nat} {σ τ gx gm : z_G} {P Q : z_P}
theorem t_tailO (hx : z_lay X N σ 0 z_SF z_RF) (hm : z_lay Y K τ 0 z_SM z_RM) (hG : cG gx) (h30 : gx 45 1 < 30) (h3 : gx 9 6 < 3) {k : Int} {gx2 : z_G} (hA2 : kA gx2) (hl : gx 10 6 < gx2 10 6) (hf : fT gx gx2)
    (hR : ∀ gm, gR gx gm → ∀ Q : z_P, (∀ gm2, kOK gx2 gm2 → gm2 1 2446 = gx 45 2 + 1 → gm2 0 21 = gx 45 1 + 1 → gm2 0 20 = gx 9 6 + 1 → gm2 7 (gx 9 6) = gx 45 2 → rowO k gx2 gm2 (2686 + 6 * gx 45 2) → (∀ c i, ¬ (c = 1 ∧ (i = 2446 ∨ (2686 + 6 * gx 45 2 ≤ i ∧ i ≤ 2686 + 6 * gx 45 2 + 5))) → ¬ (c = 0 ∧ (11 ≤ i ∧ i ≤ 14 ∨ i = 16 ∨ i = 17 ∨ i = 20 ∨ i = 21)) → ¬ (c = 7 ∧ i = gx 9 6) → gm2 c i = gm c i) → z_O Y 3 m_M_wantSign [(2, 0), (0, 59)] K τ gm2 (fun r3 g3 => (r3 = 0 ∨ r3 = 1) → Q r3 g3)) → z_O Y 12 m_M_tourStep [(2, 0)] K τ gm Q)
    (hP : sW Y K τ gx P) : z_O X 3 m_Ta_passSign [(2, 10), (0, 59)] N σ gx2 (fun r g3 => (r = 0 ∨ r = 1) → ((r = 0 → P 0 g3) ∧ (¬ r = 0 → (0 ≤ g3 9 6 ∧ g3 9 6 < 3) ∧ (-2147483648 ≤ g3 9 6 + 1 ∧ g3 9 6 + 1 ≤ 2147483647) ∧ z_O X 1 m_Pg_addStep [(2, ((45 : Nat) : Int)), (0, k), (0, g3 9 7), (0, g3 9 8), (0, g3 9 9)] N σ (z_up (z_up g3 14 (g3 9 6) (g3 45 2)) 9 6 (g3 9 6 + 1)) (fun _ g4 => P 1 g4)))) := by
  obtain ⟨g1, g2, g3, g4, g5⟩ := id hG
  refine t_sign hx hm hA2 fun r gx3 hr f3 q3 hM3 => fun _ => ⟨fun r0 => ?_, fun r0 => ?_⟩
  · subst r0
    refine hP 0 gx3 (Or.inl rfl) (hf.w.tr f3.t.w) (fun z => by exfalso; omega) fun gm hg Q hq => hR gm hg Q fun gm2 ok n1 n2 n20 n7 n3 nf => hM3 gm2 ok _ fun gm3 j1 j2 => fun _ => hq gm3 (fun c i c1 c2 c3 => by rw [j1 c i (by omega)]; exact nf c i (by omega) (by omega) (by omega)) (Or.inr ⟨rfl, ?_⟩)
    rcases j2 with y | y
    · exfalso; omega
    · exact y.2
  · have r1 : r = 1 := by omega
    subst r1
    obtain ⟨hA3, l3, -, -⟩ := q3 rfl
    have a23 := hA2.2.1
    have x : ∀ c i, ¬ (c = 9 ∧ 7 ≤ i ∧ i ≤ 9) → ¬ (c = 10 ∧ 3 ≤ i ∧ i ≤ 10) → c ≠ 12 → c ≠ 13 → gx3 c i = gx c i := fun c i h1 h2 h3 h4 => by rw [f3 c i h2]; exact hf c i h1 h2 h3 h4
    have e6 : gx3 9 6 = gx 9 6 := x _ _ (by omega) (by omega) (by omega) (by omega)
    have e2 : gx3 45 2 = gx 45 2 := x _ _ (by omega) (by omega) (by omega) (by omega)
    have e97 : gx3 9 7 = gx2 9 7 := f3 _ _ (by omega)
    have e98 : gx3 9 8 = gx2 9 8 := f3 _ _ (by omega)
    have e99 : gx3 9 9 = gx2 9 9 := f3 _ _ (by omega)
    refine ⟨by omega, by omega, ?_⟩
    rw [e6, e2, e97, e98, e99]
    have u : ∀ c i, ¬ (c = 14 ∧ i = gx 9 6) → ¬ (c = 9 ∧ i = 6) → z_up (z_up gx3 14 (gx 9 6) (gx 45 2)) 9 6 (gx 9 6 + 1) c i = gx3 c i := fun c i h1 h2 => by rw [z_u2 (by omega), z_u2 (by omega)]
    have u6 : z_up (z_up gx3 14 (gx 9 6) (gx 45 2)) 9 6 (gx 9 6 + 1) 9 6 = gx 9 6 + 1 := z_u1
    have u14 : z_up (z_up gx3 14 (gx 9 6) (gx 45 2)) 9 6 (gx 9 6 + 1) 14 (gx 9 6) = gx 45 2 := by rw [z_u2 (by omega), z_u1]
    generalize z_up (z_up gx3 14 (gx 9 6) (gx 45 2)) 9 6 (gx 9 6 + 1) = gx5 at *
    have d2 : gx5 45 2 = gx 45 2 := by rw [u _ _ (by omega) (by omega)]; exact e2
    have d1 : gx5 45 1 = gx 45 1 := by rw [u _ _ (by omega) (by omega)]; exact x _ _ (by omega) (by omega) (by omega) (by omega)
    refine s_addStep hx (by omega) (by omega) fun gx4 y2 y1 z46 z47 z48 z49 z50 yf => ?_
    rw [d2] at y2 z46 z47 z48 z49 z50 yf
    rw [d1] at y1
    have v : ∀ c i, ¬ (c = 9 ∧ 6 ≤ i ∧ i ≤ 9) → ¬ (c = 10 ∧ 3 ≤ i ∧ i ≤ 10) → c ≠ 12 → c ≠ 13 → ¬ (c = 14 ∧ i = gx 9 6) → ¬ (46 ≤ c ∧ c ≤ 50 ∧ i = gx 45 2) → ¬ (c = 45 ∧ (i = 1 ∨ i = 2)) → gx4 c i = gx c i := fun c i h1 h2 h3 h4 h4' h5 h6 => by rw [yf c i h5 h6, u c i h4' (by omega)]; exact x c i (by omega) h2 h3 h4
    have v6 : gx4 9 6 = gx 9 6 + 1 := by rw [yf _ _ (by omega) (by omega)]; exact u6
    have v10 : ∀ i, gx4 10 i = gx3 10 i := fun i => by rw [yf _ _ (by omega) (by omega)]; exact u _ _ (by omega) (by omega)
    have v11 : ∀ i, gx4 11 i = gx3 11 i := fun i => by rw [yf _ _ (by omega) (by omega)]; exact u _ _ (by omega) (by omega)
    have v14 : ∀ i, i ≠ gx 9 6 → gx4 14 i = gx 14 i := fun i hi => v _ _ (by omega) (by omega) (by omega) (by omega) (by omega) (by omega) (by omega)
    have v14' : gx4 14 (gx 9 6) = gx 45 2 := by rw [yf _ _ (by omega) (by omega)]; exact u14
    refine hP 1 gx4 (Or.inr rfl) (fun c i c1 c2 c3 c4 c5 c6 => v c i c1 c2 c3 c4 (by omega) (by omega) (by omega)) (fun _ => ⟨hA3.c fun i _ _ => v10 i, ⟨by omega, by omega, by omega, by omega, fun j j0 j1 => ?_⟩, by rw [v10]; omega⟩) fun gm hg Q hq => hR gm hg Q fun gm2 ok n1 n2 n20 n7 n3 nf => hM3 gm2 ok _ fun gm3 j1 j2 => fun _ => hq gm3 (fun c i c1 c2 c3 => by rw [j1 c i (by omega)]; exact nf c i (by omega) (by omega) (by omega)) (Or.inl ⟨rfl, ?_⟩)
    · rw [y2]
      by_cases e : j = gx 9 6
      · rw [e, v14']; omega
      · rw [v14 j e]
        have := g5 j j0 (by omega)
        omega
    have ok3 : kOK gx3 gm3 := by
      rcases j2 with y | y
      · exact y.2
      · exfalso; omega
    obtain ⟨-, e46, e21, e20, e7, gp⟩ := hg
    refine ⟨ok3.c (fun i _ _ => v10 i) v11 (fun _ _ _ _ => rfl) (fun _ => rfl), ?_, ?_, ?_, fun j j0 jd => ?_, ?_⟩
    · rw [y2, j1 _ _ (by omega), n1]
    · rw [y1, j1 _ _ (by omega), n2]
    · rw [v6, j1 _ _ (by omega), n20]
    · by_cases e : j = gx 9 6
      · rw [e, v14', j1 _ _ (by omega), n7]
      · rw [v14 j e, j1 _ _ (by omega), nf _ _ (by omega) (by omega) (by omega)]; exact e7 j j0 (by omega)
    · rw [y2, v6]
      refine gp.opn g3 g1.1 (fun j i k1 k2 i0 i1 => v (37 + j) i (by omega) (by omega) (by omega) (by omega) (by omega) (by omega) (by omega)) (fun i i0 i1 => ?_) (fun j j0 jd => v14 j (by omega)) v14' (rowO.op (k := k) (gx := gx2) ?_ z46 z47 z48 z49 z50)
      · show gm3 1 (2440 + i) = gm 1 (2440 + i)
        rw [j1 _ _ (by omega)]; exact nf _ _ (by omega) (by omega) (by omega)
      · unfold rowO wOK at n3 ⊢
        rw [j1 1 _ (by omega), j1 1 _ (by omega), j1 1 _ (by omega), j1 1 _ (by omega)]; exact n3
end Lock

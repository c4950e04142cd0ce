/-! ## texts: the beginning, the end -/
section Lock
variable {X Y : z_X} {N K : Nat} {σ τ gx gm : z_G} {P Q : z_P}
theorem s_begins (hm : z_lay Y K τ 0 z_SM z_RM) {g : z_G} {n : Int} (hn : 0 ≤ n ∧ n ≤ 900) (h5 : ∀ i, 0 ≤ i → i < n → -128 ≤ g 5 i ∧ g 5 i ≤ 127) (hq : ∀ g', (∀ i, 0 ≤ i → i < n → g' 6 i = g 5 i) → g' 0 10 = n → g' 0 9 = 0 → g' 0 17 = 0 → g' 0 16 = -1 → g' 0 13 = 0 → (∀ c i, c ≠ 6 → ¬ (c = 0 ∧ (i = 9 ∨ i = 10 ∨ i = 13 ∨ i = 16 ∨ i = 17)) → g' c i = g c i) → z_O Y 2 m_M_nextToken [(2, 0)] K τ g' (fun r0 g0 => Q 1 g0)) : L_M_begins_26 Y K τ n 0 (z_up g 0 10 n) Q := by
  have L : ∀ (m : Nat) (x : Int) (g1 : z_G), x + m = n → 0 ≤ x → (∀ i, 0 ≤ i → i < x → g1 6 i = g 5 i) → g1 0 10 = n → (∀ c i, c ≠ 6 → ¬ (c = 0 ∧ i = 10) → g1 c i = g c i) → L_M_begins_26 Y K τ n x g1 Q := by
    intro m
    induction m with
    | zero =>
      intro x g1 e1 e2 h6 h10 hf
      refine b_M_begins_26 hm ⟨fun _ => hq _ (fun i i1 i2 => ?_) ?_ ?_ ?_ ?_ z_u1 (fun c i c1 c2 => ?_), fun z => by exfalso; omega⟩
      · rw [z_u2 (by omega), z_u2 (by omega), z_u2 (by omega), z_u2 (by omega)]; exact h6 i i1 (by omega)
      · rw [z_u2 (by omega), z_u2 (by omega), z_u2 (by omega), z_u2 (by omega)]; exact h10
      · rw [z_u2 (by omega), z_u2 (by omega), z_u2 (by omega), z_u1]
      · rw [z_u2 (by omega), z_u2 (by omega), z_u1]
      · rw [z_u2 (by omega), z_u1]
      · rw [z_u2 (by omega), z_u2 (by omega), z_u2 (by omega), z_u2 (by omega)]; exact hf c i c1 (by omega)
    | succ m ih =>
      intro x g1 e1 e2 h6 h10 hf
      have e5 : g1 5 x = g 5 x := hf 5 x (by omega) (by omega)
      have r5 := h5 x e2 (by omega)
      refine b_M_begins_26 hm ⟨fun z => by exfalso; omega, fun _ => ⟨by omega, by omega, by omega, ih (x + 1) _ (by omega) (by omega) (fun i i1 i2 => ?_) (by rw [z_u2 (by omega)]; exact h10) (fun c i c1 c2 => by rw [z_u2 (by omega)]; exact hf c i c1 c2)⟩⟩
      by_cases c : i = x
      · subst c; rw [z_u1]; exact e5
      · rw [z_u2 (by omega)]; exact h6 i i1 (by omega)
  exact L n.toNat 0 _ (by omega) (by omega) (fun i i1 i2 => by exfalso; omega) z_u1 (fun c i c1 c2 => z_u2 (by omega))
theorem s_start (hx : z_lay X N σ 0 z_SF z_RF) {g : z_G} {n : Int} (hn : 0 ≤ n ∧ n ≤ 900) (hq : ∀ g', g' 10 2 = n → g' 10 3 = 0 → g' 10 9 = 0 → g' 10 10 = -1 → (∀ c i, ¬ (c = 10 ∧ (i = 2 ∨ i = 3 ∨ i = 9 ∨ i = 10)) → g' c i = g c i) → z_O X 2 m_Ta_advance [(2, 10)] N σ g' (fun r0 g0 => P 0 g0)) : z_O X 3 m_Ta_start [(2, 10), (0, n)] N σ g P := by
  have go : ∀ v, v = n → z_O X 2 m_Ta_advance [(2, 10)] N σ (z_up (z_up (z_up (z_up g 10 2 v) 10 3 0) 10 9 0) 10 10 (-1)) (fun r0 g0 => P 0 g0) := fun v hv => by
    refine hq _ ?_ ?_ ?_ z_u1 (fun c i hc => ?_)
    · rw [z_u2 (by omega), z_u2 (by omega), z_u2 (by omega), z_u1]; exact hv
    · rw [z_u2 (by omega), z_u2 (by omega), z_u1]
    · rw [z_u2 (by omega), z_u1]
    · rw [z_u2 (by omega), z_u2 (by omega), z_u2 (by omega), z_u2 (by omega)]
  exact b_Ta_start_0 hx ⟨fun z => by exfalso; omega, fun _ => ⟨fun _ => go n rfl, fun z => go 0 (by omega)⟩⟩
theorem s_plain (hm : z_lay Y K τ 0 z_SM z_RM) {g : z_G} (hq : ∀ g', g' 1 2440 = 4 → g' 1 2441 = 5 → g' 1 2442 = 1 → g' 1 2443 = 2 → g' 1 2446 = -1 → (∀ i, 2440 ≤ i → i < 3050 → ¬ (i = 2440 ∨ i = 2441 ∨ i = 2442 ∨ i = 2443 ∨ i = 2446) → g' 1 i = 0) → (∀ c i, ¬ (c = 1 ∧ 2440 ≤ i ∧ i < 3050) → g' c i = g c i) → Q 0 g') : z_O Y 1 m_M_plain [(2, 0), (0, 2440)] K τ g Q := by
  have L : ∀ (m : Nat) (x : Int) (g1 : z_G), x + m = 610 → 0 ≤ x → (∀ i, 2440 ≤ i → i < 2440 + x → g1 1 i = 0) → (∀ c i, ¬ (c = 1 ∧ 2440 ≤ i ∧ i < 3050) → g1 c i = g c i) → L_M_plain_2 Y K τ 2440 x g1 Q := by
    intro m
    induction m with
    | zero =>
      intro x g1 e1 e2 h0 hf
      refine b_M_plain_2 hm ⟨fun _ => ⟨by omega, by omega, by omega, by omega, by omega, by omega, by omega, by omega, by omega, by omega, hq _ ?_ ?_ ?_ ?_ ?_ (fun i i1 i2 i3 => ?_) (fun c i hc => ?_)⟩, fun z => by exfalso; omega⟩
      · rw [z_u2 (by omega), z_u2 (by omega), z_u2 (by omega), z_u2 (by omega)]; exact z_u1
      · rw [z_u2 (by omega), z_u2 (by omega), z_u2 (by omega)]; exact z_u1
      · rw [z_u2 (by omega), z_u2 (by omega)]; exact z_u1
      · rw [z_u2 (by omega)]; exact z_u1
      · exact z_u1
      · rw [z_u2 (by omega), z_u2 (by omega), z_u2 (by omega), z_u2 (by omega), z_u2 (by omega)]; exact h0 i i1 (by omega)
      · rw [z_u2 (by omega), z_u2 (by omega), z_u2 (by omega), z_u2 (by omega), z_u2 (by omega)]; exact hf c i hc
    | succ m ih =>
      intro x g1 e1 e2 h0 hf
      refine b_M_plain_2 hm ⟨fun z => by exfalso; omega, fun _ => ⟨by omega, by omega, by omega, ih (x + 1) _ (by omega) (by omega) (fun i i1 i2 => ?_) (fun c i hc => by rw [z_u2 (by omega)]; exact hf c i hc)⟩⟩
      by_cases c : i = 2440 + x
      · rw [c]; exact z_u1
      · rw [z_u2 (by omega)]; exact h0 i i1 (by omega)
  exact b_M_plain_0 hm (L 610 0 g (by omega) (by omega) (fun i i1 i2 => by exfalso; omega) (fun _ _ _ => rfl))
theorem s_startAt (hx : z_lay X N σ 0 z_SF z_RF) {g : z_G} {T B : Int} (eT : g 38 0 + g 38 2 = T) (eB : g 38 1 + g 38 3 = B) (hT : 0 ≤ T ∧ T ≤ 9999) (hB : 0 ≤ B ∧ B ≤ 9999) (hq : ∀ g', (∀ c i, c ≠ 44 → ¬ (c = 43 ∧ i = 1) → g' c i = g c i) → eX (g 44) 0 (g' 44) (g' 43 1) (T * 10000 + B) → Q 0 g') : z_O X 3 m_Vi_startAt [(2, ((43 : Nat) : Int)), (2, ((38 : Nat) : Int))] N σ g Q := by
  refine b_Vi_startAt_0 (o := 43) (p1 := 38) (ky_Bd_6 (ky_F_37 hx)) (ky_Bd_1 (ky_F_37 hx)) (s_Vi_enter (o := 43) (p := 38) (ky_Bd_6 (ky_F_37 hx)) (ky_Bd_1 (ky_F_37 hx)) (T := T) (B := B) ?_ ?_ hT hB ?_ ?_ fun g' f1 e1 => hq g' (fun c i c1 c2 => ?_) ?_)
  · rw [z_u2 (by omega), z_u2 (by omega)]; exact eT
  · rw [z_u2 (by omega), z_u2 (by omega)]; exact eB
  · rw [z_u1]; omega
  · rw [z_u1]; exact fun i j i1 i2 i3 => by exfalso; omega
  · rw [f1 c i c1 c2, z_u2 (by omega)]
  · rw [z_u1, show z_up g 43 1 0 (43 + 1) = g 44 from funext fun i => z_u2 (by omega)] at e1
    exact e1
theorem s_clear37 (hx : z_lay X N σ 0 z_SF z_RF) {g : z_G} (hq : ∀ g', g' 37 0 = 5 → g' 37 1 = 4 → g' 38 0 = 0 → g' 38 1 = 1 → g' 38 2 = 1 → g' 38 3 = 1 → g' 38 4 = 0 → g' 39 3 = 0 → g' 45 0 = 0 → (∀ c i, ¬ (37 ≤ c ∧ c ≤ 45) → g' c i = g c i) → Q 0 g') : z_O X 4 m_Bd_clear [(2, ((37 : Nat) : Int))] N σ g Q := by
  refine b_Bd_clear_0 (o := 37) (ky_F_37 hx) (b_Sp_toRoot_0 (o := 38) (ky_Bd_1 (ky_F_37 hx)) (s_startAt hx (T := 1) (B := 2) ?_ ?_ (by omega) (by omega) fun g' f1 _ => b_Pg_clear_0 (o := 45) (ky_Bd_8 (ky_F_37 hx)) (hq _ ?_ ?_ ?_ ?_ ?_ ?_ ?_ ?_ ?_ fun c i hc => ?_)))
  · simp [z_up]
  · simp [z_up]
  · rw [z_u2 (by omega), z_u2 (by omega), z_u2 (by omega), f1 _ _ (by omega) (by omega)]; simp [z_up]
  · rw [z_u2 (by omega), z_u2 (by omega), z_u2 (by omega), f1 _ _ (by omega) (by omega)]; simp [z_up]
  · rw [z_u2 (by omega), z_u2 (by omega), z_u2 (by omega), f1 _ _ (by omega) (by omega)]; simp [z_up]
  · rw [z_u2 (by omega), z_u2 (by omega), z_u2 (by omega), f1 _ _ (by omega) (by omega)]; simp [z_up]
  · rw [z_u2 (by omega), z_u2 (by omega), z_u2 (by omega), f1 _ _ (by omega) (by omega)]; simp [z_up]
  · rw [z_u2 (by omega), z_u2 (by omega), z_u2 (by omega), f1 _ _ (by omega) (by omega)]; simp [z_up]
  · rw [z_u2 (by omega), z_u2 (by omega), z_u2 (by omega), f1 _ _ (by omega) (by omega)]; simp [z_up]
  · rw [z_u2 (by omega), z_u2 (by omega), z_u2 (by omega), f1 _ _ (by omega) (by omega)]; simp [z_up]
  · rw [z_u2 (by omega), z_u2 (by omega)]; exact z_u1
  · rw [z_u2 (by omega), z_u2 (by omega), z_u2 (by omega), f1 _ _ (by omega) (by omega), z_u2 (by omega), z_u2 (by omega), z_u2 (by omega), z_u2 (by omega), z_u2 (by omega), z_u2 (by omega), z_u2 (by omega), z_u2 (by omega)]
theorem iJ.text {gx gx' gm gm' : z_G} (h : iJ gx gm) (hx : ∀ c i, xK c i → ¬ (23 ≤ c ∧ c ≤ 36) → ¬ (c = 0 ∧ (i = 5 ∨ i = 6)) → ¬ (c = 10 ∧ i = 1) → gx' c i = gx c i) (hm : ∀ c i, yK c i → ¬ (c = 1 ∧ 0 ≤ i ∧ i < 610) → ¬ (c = 0 ∧ (i = 9 ∨ i = 15 ∨ i = 16)) → gm' c i = gm c i) (hb : iB (fX gx' 23) (fM gm' 0)) (h9 : gx' 10 1 = 0 ∧ gm' 0 9 = 0) (hf : gx' 0 5 = gm' 0 15 ∧ gx' 0 6 = gm' 0 16) : iJ gx' gm' := by
  obtain ⟨h1, h2, h3, h4, h5, h6, h7, h8⟩ := h
  refine ⟨fun t a b => ?_, ⟨by omega, by omega, by omega, fun i i1 i2 => by exfalso; omega⟩, hf, ?_, ?_, fun j hj => ?_, hb, fun d hd => ?_⟩
  · obtain ⟨q1, q2, q3, q4, q5, q6, q7⟩ := h1 t a b
    rw [hx 7 t (by unfold xK; omega) (by omega) (by omega) (by omega), hx 8 t (by unfold xK; omega) (by omega) (by omega) (by omega), hm 2 t (by unfold yK; omega) (by omega) (by omega), hm 3 t (by unfold yK; omega) (by omega) (by omega)]
    refine ⟨q1, q2, q3, q4, q5, q6, fun i i1 i2 => ?_⟩
    rw [hx _ i (by unfold xK; omega) (by omega) (by omega) (by omega), hm 4 _ (by unfold yK; omega) (by omega) (by omega)]; exact q7 i i1 i2
  · unfold iL at h4 ⊢
    rw [hx 0 17 (by unfold xK; omega) (by omega) (by omega) (by omega), hx 94 1 (by unfold xK; omega) (by omega) (by omega) (by omega), hx 94 2 (by unfold xK; omega) (by omega) (by omega) (by omega), hx 94 3 (by unfold xK; omega) (by omega) (by omega) (by omega), hx 94 4 (by unfold xK; omega) (by omega) (by omega) (by omega), hx 94 5 (by unfold xK; omega) (by omega) (by omega) (by omega), hm 0 40 (by unfold yK; omega) (by omega) (by omega), hm 17 0 (by unfold yK; omega) (by omega) (by omega), hm 17 1 (by unfold yK; omega) (by omega) (by omega), hm 17 2 (by unfold yK; omega) (by omega) (by omega), hm 17 3 (by unfold yK; omega) (by omega) (by omega), hm 17 4 (by unfold yK; omega) (by omega) (by omega)]; exact h4
  · rw [hx 0 14 (by unfold xK; omega) (by omega) (by omega) (by omega), hm 0 41 (by unfold yK; omega) (by omega) (by omega)]; exact h5
  · rw [hm 0 41 (by unfold yK; omega) (by omega) (by omega)] at hj
    refine (h6 j hj).congr (fun a i ha => hx _ _ (by unfold xK; omega) (by omega) (by omega) (by omega)) (fun i i1 i2 => hm _ _ (by unfold yK; omega) (by omega) (by omega))
  · rw [hx 16 d (by unfold xK; omega) (by omega) (by omega) (by omega), hx 17 d (by unfold xK; omega) (by omega) (by omega) (by omega)]; exact h8 d hd
end Lock

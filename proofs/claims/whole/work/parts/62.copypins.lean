/-! ## copyPins -/
def f_cut (s v : Int) : Int := if s = 0 then Int.bmod (Int.bmod v 4294967296) 256 else if s = 1 then Int.bmod (Int.bmod v 4294967296) 65536 else if s = 2 then Int.bmod v 4294967296 else v
theorem s_Tr_put {X : z_X} {N : Nat} {σ g : z_G} {Q : z_P} (hx : z_lay X N σ 0 z_SF z_RF) {t i v : Int} (ht : 0 ≤ t ∧ t < 4) (hl : g 8 t ≤ 60) (hi : 0 ≤ i ∧ i < g 8 t) (hq : Q 0 (z_up g (3 + t.toNat) i (f_cut (g 7 t) v))) : z_O X 4 m_Tr_put [(2, 1), (0, t), (0, i), (1, v)] N σ g Q := by
  refine b_Tr_put_0 hx (s_Tr_hasRoom hx ht (by omega) (by omega) (by omega) (fun q3 _ => ?_) (fun q3 => absurd (by omega) q3))
  obtain ⟨k1, k2, k3⟩ := k_rows hx ht
  unfold f_cut at hq
  refine ⟨fun q => absurd q (by omega), fun _ => ⟨ht, _, k1, k2, k3, fun c => ⟨by omega, ?_⟩, fun c => ⟨by omega, ?_⟩, fun c => ⟨by omega, ?_⟩, fun c => ⟨by omega, ?_⟩⟩⟩
  · rw [if_pos c] at hq; exact hq
  · rw [if_neg (by omega), if_pos c] at hq; exact hq
  · rw [if_neg (by omega), if_neg (by omega), if_pos c] at hq; exact hq
  · rw [if_neg c.1, if_neg c.2.1, if_neg c.2.2] at hq; exact hq
theorem o_copyPins {X Y : z_X} {N K : Nat} {σ τ gx gm : z_G} (hx : z_lay X N σ 0 z_SF z_RF) (hm : z_lay Y K τ 0 z_SM z_RM) (I : Inv gx gm) {a1 : Int} (r1 : -2147483648 ≤ a1 ∧ a1 ≤ 2147483647) : z_O X 5 m_F_copyPins [(2, 0), (0, a1)] N σ gx (fun r gx' => z_O Y 3 m_M_copyPins [(2, 0), (0, a1)] K τ gm (fun r' gm' => r' = r ∧ Inv gx' gm')) := by
  obtain ⟨p1, p2, p3, p4, p5⟩ := I.pI
  have hT := I.2.2.2.1.1
  have bad : ¬ (0 ≤ a1 ∧ a1 < 4) → z_O Y 3 m_M_copyPins [(2, 0), (0, a1)] K τ gm (fun r' gm' => r' = -1 ∧ Inv (z_up gx 0 0 1) gm') := by
    intro hb
    refine b_M_copyPins_0 hm ?_
    repeat' (first | refine And.intro (by omega) ?_ | refine And.intro (fun _ => ?_) (fun q => absurd (by omega) q) | refine And.intro (fun q => absurd q (by omega)) (fun _ => ?_) | refine And.intro (fun _ => ?_) (fun _ => ?_) | refine And.intro (fun q => absurd q (by omega)) ?_ | refine And.intro (fun _ => ?_) ?_ | with_reducible intro _)
    all_goals first | exact I.fin xA.rf yA.rf I.2.2.2.2 1 | (exfalso; omega)
  refine b_F_copyPins_0 hx ⟨fun _ => bad (by omega), fun _ => ⟨fun _ => bad (by omega), fun _ => ⟨by omega, fun e => ?_, fun e => ⟨by omega, ?_⟩⟩⟩⟩
  · obtain ⟨e1, e2, e3, e4, e5, e6, e7⟩ := hT a1 (by omega) (by omega)
    refine b_M_copyPins_0 hm ?_
    repeat' (first | refine And.intro (by omega) ?_ | refine And.intro (fun _ => ?_) (fun q => absurd (by omega) q) | refine And.intro (fun q => absurd q (by omega)) (fun _ => ?_) | refine And.intro (fun _ => ?_) (fun _ => ?_) | refine And.intro (fun q => absurd q (by omega)) ?_ | refine And.intro (fun _ => ?_) ?_ | with_reducible intro _)
    all_goals first | exact I.fin xA.rf yA.rf I.2.2.2.2 2 | (exfalso; omega)
  obtain ⟨e1, e2, e3, e4, e5, e6, e7⟩ := hT a1 (by omega) (by omega)
  rw [p1]
  refine s_Tr_hasRoom hx (by omega) e (by omega) (by omega) (fun q _ => ⟨fun p => absurd p (by omega), fun _ => ?_⟩) (fun q _ => ⟨fun _ => b_M_copyPins_0 hm ?_, fun p => absurd rfl p⟩)
  rotate_left
  · repeat' (first | refine And.intro (by omega) ?_ | refine And.intro (fun _ => ?_) (fun q => absurd (by omega) q) | refine And.intro (fun q => absurd q (by omega)) (fun _ => ?_) | refine And.intro (fun _ => ?_) (fun _ => ?_) | refine And.intro (fun q => absurd q (by omega)) ?_ | refine And.intro (fun _ => ?_) ?_ | with_reducible intro _)
    exact I.fin xA.rf yA.rf I.2.2.2.2 3
  generalize hn : gm 1 4 = n at *
  generalize hs : gm 2 a1 = s at *
  have ht : 0 ≤ a1 ∧ a1 < 4 := by omega
  have fin : ∀ gx' gm' : z_G, (∀ c i, c ≠ 3 + a1.toNat → gx' c i = gx c i) → (∀ i : Int, 0 ≤ i → i < 2 * n → gx' (3 + a1.toNat) i = f_cut s (if i < n then gm 1 (10 + 3 * i) else gm 1 (10 + 3 * (i - n) + 1))) → (∀ i : Int, ¬ (0 ≤ i ∧ i < 2 * n) → gx' (3 + a1.toNat) i = gx (3 + a1.toNat) i) → (∀ c i, ¬ (c = 4 ∧ 60 * a1 ≤ i ∧ i < 60 * a1 + 2 * n) → gm' c i = gm c i) → (∀ i : Int, 0 ≤ i → i < 2 * n → gm' 4 (60 * a1 + i) = f_cut s (if i < n then gm 1 (10 + 3 * i) else gm 1 (10 + 3 * (i - n) + 1))) → Inv (z_up gx' 0 0 0) (z_up gm' 0 1 0) := by
    intro gx' gm' x1 x2 x3 y1 y2
    obtain ⟨h1, h2, h3, h4, h5⟩ := I
    refine ⟨by rw [z_u1, z_u1], ?_, ?_, iT.one h4 (fun u u0 u1 => ?_) (fun c j hk hn => ?_) (fun c j hk hn => ?_), ?_⟩
    · rw [z_u2 (by omega), z_u2 (by omega), x1 _ _ (by omega), y1 _ _ (by omega)]; exact h2
    · rw [z_u2 (by omega), z_u2 (by omega), x1 _ _ (by omega), y1 _ _ (by omega)]; exact h3
    · rw [z_u2 (by omega), z_u2 (by omega), z_u2 (by omega), z_u2 (by omega), x1 7 u (by omega), x1 8 u (by omega), y1 2 u (by omega), y1 3 u (by omega)]
      obtain ⟨q1, q2, q3, q4, q5, q6, q7⟩ := h4.1 u u0 u1
      refine ⟨q1, q2, q3, q4, q5, q6, fun j j0 j1 => ?_⟩
      rw [z_u2 (by omega), z_u2 (by omega)]
      by_cases eu : u = a1
      · subst eu
        by_cases cj : j < 2 * n
        · rw [x2 j j0 cj, y2 j j0 cj]
        · rw [x3 j (by omega), y1 _ _ (by omega)]; exact q7 j j0 j1
      · rw [x1 _ _ (by omega), y1 _ _ (by omega)]; exact q7 j j0 j1
    · unfold xK at hk
      rw [z_u2 (by omega)]; exact x1 _ _ (by omega)
    · unfold yK at hk
      rw [z_u2 (by omega)]; exact y1 _ _ (by omega)
    · exact (h5.congr (fun i => y1 _ _ (by omega)) (fun i => y1 _ _ (by omega)) (y1 _ _ (by omega)) (y1 _ _ (by omega))).up (by omega) (by omega) (by omega)
  have mrun : ∀ gx' : z_G, (∀ gm' : z_G, (∀ c i, ¬ (c = 4 ∧ 60 * a1 ≤ i ∧ i < 60 * a1 + 2 * n) → gm' c i = gm c i) → (∀ i : Int, 0 ≤ i → i < 2 * n → gm' 4 (60 * a1 + i) = f_cut s (if i < n then gm 1 (10 + 3 * i) else gm 1 (10 + 3 * (i - n) + 1))) → Inv gx' (z_up gm' 0 1 0)) → z_O Y 3 m_M_copyPins [(2, 0), (0, a1)] K τ gm (fun r' gm' => r' = n ∧ Inv gx' gm') := by
    intro gx' hq
    refine b_M_copyPins_0 hm ?_
    rw [hn]
    refine ⟨fun p => absurd p (by omega), fun _ => ⟨fun p => absurd p (by omega), fun _ => ⟨by omega, fun p => absurd p (by omega), fun _ => ⟨by omega, fun _ => ?_, fun p => absurd (by omega) p⟩⟩⟩⟩
    have loop : ∀ (m : Nat) (x : Int) (g' : z_G), 2 * n ≤ x + m → 0 ≤ x → x ≤ 2 * n → (∀ c i, ¬ (c = 4 ∧ 60 * a1 ≤ i ∧ i < 60 * a1 + x) → g' c i = gm c i) → (∀ i : Int, 0 ≤ i → i < x → g' 4 (60 * a1 + i) = f_cut s (if i < n then gm 1 (10 + 3 * i) else gm 1 (10 + 3 * (i - n) + 1))) → L_M_copyPins_56 Y K τ a1 n x g' (fun r' gm' => r' = n ∧ Inv gx' gm') := by
      intro m
      induction m with
      | zero =>
        intro x g' k1 k2 k3 k4 k5
        have : x = 2 * n := by omega
        subst this
        exact b_M_copyPins_56 hm ⟨by omega, fun _ => ⟨rfl, hq g' k4 k5⟩, fun p => absurd (by omega) p⟩
      | succ m ih =>
        intro x g' k1 k2 k3 k4 k5
        by_cases c : x = 2 * n
        · subst c
          exact b_M_copyPins_56 hm ⟨by omega, fun _ => ⟨rfl, hq g' k4 k5⟩, fun p => absurd (by omega) p⟩
        · have s2 : g' 2 a1 = s := by rw [k4 _ _ (by omega), hs]
          have nx : ∀ w : Int, w = f_cut s (if x < n then gm 1 (10 + 3 * x) else gm 1 (10 + 3 * (x - n) + 1)) → L_M_copyPins_56 Y K τ a1 n (x + 1) (z_up g' 4 (60 * a1 + x) w) (fun r' gm' => r' = n ∧ Inv gx' gm') := fun w hw => ih (x + 1) _ (by omega) (by omega) (by omega) (fun c i hc => by rw [z_u2 (by omega)]; exact k4 c i (by omega)) (fun i i0 i1 => by
            by_cases ci : i = x
            · rw [ci, z_u1, hw]
            · rw [z_u2 (by omega)]; exact k5 i i0 (by omega))
          unfold f_cut at nx
          refine b_M_copyPins_56 hm ⟨by omega, fun p => absurd p (by omega), fun _ => ⟨by omega, by omega, fun c1 => ?_, fun c1 => ?_⟩⟩
          · rw [s2, k4 1 _ (by omega)]
            rw [if_neg (show ¬ x < n by omega)] at nx
            refine ⟨by omega, by omega, by omega, by omega, by omega, by omega, fun d => ⟨by omega, by omega, nx _ ?_⟩, fun d => ⟨fun d2 => ⟨by omega, by omega, nx _ ?_⟩, fun d2 => ⟨fun d3 => ⟨by omega, by omega, nx _ ?_⟩, fun d3 => ⟨by omega, by omega, nx _ ?_⟩⟩⟩⟩
            · rw [if_pos d]
            · rw [if_neg d, if_pos d2]
            · rw [if_neg d, if_neg d2, if_pos d3]
            · rw [if_neg d, if_neg d2, if_neg d3]
          · rw [s2, k4 1 _ (by omega)]
            rw [if_pos (show x < n by omega)] at nx
            refine ⟨by omega, by omega, by omega, by omega, fun d => ⟨by omega, by omega, nx _ ?_⟩, fun d => ⟨fun d2 => ⟨by omega, by omega, nx _ ?_⟩, fun d2 => ⟨fun d3 => ⟨by omega, by omega, nx _ ?_⟩, fun d3 => ⟨by omega, by omega, nx _ ?_⟩⟩⟩⟩
            · rw [if_pos d]
            · rw [if_neg d, if_pos d2]
            · rw [if_neg d, if_neg d2, if_pos d3]
            · rw [if_neg d, if_neg d2, if_neg d3]
    exact loop 24 0 gm (by omega) (by omega) (by omega) (fun _ _ _ => rfl) (fun i i0 i1 => by omega)
  have loop : ∀ (m : Nat) (x : Int) (g' : z_G), n ≤ x + m → 0 ≤ x → x ≤ n → (∀ c i, c ≠ 3 + a1.toNat → g' c i = gx c i) → (∀ i : Int, 0 ≤ i → i < x → g' (3 + a1.toNat) i = f_cut s (gm 1 (10 + 3 * i)) ∧ g' (3 + a1.toNat) (n + i) = f_cut s (gm 1 (10 + 3 * i + 1))) → (∀ i : Int, ¬ (0 ≤ i ∧ i < 2 * n) → g' (3 + a1.toNat) i = gx (3 + a1.toNat) i) → L_F_copyPins_68 X N σ a1 x g' (fun r gx' => z_O Y 3 m_M_copyPins [(2, 0), (0, a1)] K τ gm (fun r' gm' => r' = r ∧ Inv gx' gm')) := by
    intro m
    have end_ : ∀ (x : Int) (g' : z_G), x = n → (∀ c i, c ≠ 3 + a1.toNat → g' c i = gx c i) → (∀ i : Int, 0 ≤ i → i < x → g' (3 + a1.toNat) i = f_cut s (gm 1 (10 + 3 * i)) ∧ g' (3 + a1.toNat) (n + i) = f_cut s (gm 1 (10 + 3 * i + 1))) → (∀ i : Int, ¬ (0 ≤ i ∧ i < 2 * n) → g' (3 + a1.toNat) i = gx (3 + a1.toNat) i) → L_F_copyPins_68 X N σ a1 x g' (fun r gx' => z_O Y 3 m_M_copyPins [(2, 0), (0, a1)] K τ gm (fun r' gm' => r' = r ∧ Inv gx' gm')) := by
      intro x g' k1 k2 k3 k4
      have e25 : g' 25 3 = n := by rw [k2 _ _ (by omega)]; exact p1
      refine b_F_copyPins_68 hx ?_
      rw [e25]
      refine ⟨fun _ => mrun _ fun gm' y1 y2 => fin g' gm' k2 (fun i i0 i1 => ?_) k4 y1 y2, fun p => absurd (by omega) p⟩
      by_cases ci : i < n
      · rw [if_pos ci]; exact (k3 i i0 (by omega)).1
      · rw [if_neg ci]
        have := (k3 (i - n) (by omega) (by omega)).2
        rw [show n + (i - n) = i by omega] at this
        exact this
    induction m with
    | zero => exact fun x g' k1 k2 k3 k4 k5 k6 => end_ x g' (by omega) k4 k5 k6
    | succ m ih =>
      intro x g' k1 k2 k3 k4 k5 k6
      by_cases c : x = n
      · exact end_ x g' c k4 k5 k6
      · have e25 : g' 25 3 = n := by rw [k4 _ _ (by omega)]; exact p1
        obtain ⟨t1, t2, t3, -⟩ := p4 x k2 (by omega)
        have f26 : g' 26 x = gm 1 (10 + 3 * x) := by rw [k4 _ _ (by omega)]; exact t1
        have f8 : g' 8 a1 = gx 8 a1 := k4 _ _ (by omega)
        have f7 : g' 7 a1 = s := by rw [k4 _ _ (by omega)]; exact e1
        refine b_F_copyPins_68 hx ?_
        rw [e25, f26]
        refine ⟨fun p => absurd p (by omega), fun _ => ⟨by omega, s_Tr_put hx ht (by omega) (by omega) ?_⟩⟩
        rw [f7]
        have h25 : z_up g' (3 + a1.toNat) x (f_cut s (gm 1 (10 + 3 * x))) 25 3 = n := by rw [z_u2 (by omega)]; exact e25
        have h27 : z_up g' (3 + a1.toNat) x (f_cut s (gm 1 (10 + 3 * x))) 27 x = gm 1 (10 + 3 * x + 1) := by rw [z_u2 (by omega), k4 _ _ (by omega)]; exact t2
        have h8 : z_up g' (3 + a1.toNat) x (f_cut s (gm 1 (10 + 3 * x))) 8 a1 = gx 8 a1 := by rw [z_u2 (by omega)]; exact f8
        have h7 : z_up g' (3 + a1.toNat) x (f_cut s (gm 1 (10 + 3 * x))) 7 a1 = s := by rw [z_u2 (by omega)]; exact f7
        rw [h25, h27]
        refine ⟨by omega, s_Tr_put hx ht (by omega) (by omega) ?_⟩
        rw [h7]
        refine ⟨by omega, ih (x + 1) _ (by omega) (by omega) (by omega) (fun c i hc => by rw [z_u2 (by omega), z_u2 (by omega)]; exact k4 c i hc) (fun i i0 i1 => ?_) (fun i hi => by rw [z_u2 (by omega), z_u2 (by omega)]; exact k6 i hi)⟩
        by_cases ci : i = x
        · rw [ci]
          refine ⟨?_, z_u1⟩
          rw [z_u2 (by omega), z_u1]
        · have := k5 i i0 (by omega)
          refine ⟨?_, ?_⟩
          · rw [z_u2 (by omega), z_u2 (by omega)]; exact this.1
          · rw [z_u2 (by omega), z_u2 (by omega)]; exact this.2
  exact loop 12 0 gx (by omega) (by omega) (by omega) (fun _ _ _ => rfl) (fun i i0 i1 => by omega) (fun _ _ => rfl)

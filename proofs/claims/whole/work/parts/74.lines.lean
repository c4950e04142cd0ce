/-! ## TOURS: lines, and the reference's way through them -/
section Tour
variable {X Y : z_X} {N K : Nat} {σ τ gx0 gm0 gx gm : z_G} {o p : Nat} {b bm : Int} {P : z_P}
theorem ln_all {n len : Int} (hl : iLn (fX gx p) (fM gm 0) n len) : (gx (p + 9) n = 11 → gm 1 (246 + 6 * n) = 14 ∧ gx (p + 13) n = gm 1 (246 + 6 * n + 4) ∧ 0 ≤ gx (p + 13) n ∧ gx (p + 13) n < n ∧ (gx (p + 9) (gx (p + 13) n) = 8 ∨ gx (p + 9) (gx (p + 13) n) = 9) ∧ gx (p + 13) (gx (p + 13) n) = n)
    ∧ (gx (p + 9) n = 9 → gm 1 (246 + 6 * n) = 13 ∧ gx (p + 11) n = gm 1 (246 + 6 * n + 1) ∧ 1 ≤ gm 1 (246 + 6 * n + 1) ∧ gm 1 (246 + 6 * n + 1) ≤ 99 ∧ gx (p + 13) n = gm 1 (246 + 6 * n + 4) ∧ n < gx (p + 13) n ∧ gx (p + 13) n < len ∧ gx (p + 9) (gx (p + 13) n) = 11 ∧ gx (p + 13) (gx (p + 13) n) = n)
    ∧ (gx (p + 9) n = 8 → 1216 ≤ gm 1 (246 + 6 * n) ∧ gm 1 (246 + 6 * n) ≤ 1219 ∧ gx (p + 13) n = gm 1 (246 + 6 * n + 4) ∧ n < gx (p + 13) n ∧ gx (p + 13) n < len ∧ gx (p + 9) (gx (p + 13) n) = 11 ∧ gx (p + 13) (gx (p + 13) n) = n)
    ∧ (gx (p + 9) n = 10 → gm 1 (246 + 6 * n) = 15)
    ∧ (¬ (gx (p + 9) n = 8) ∧ ¬ (gx (p + 9) n = 9) ∧ ¬ (gx (p + 9) n = 10) ∧ ¬ (gx (p + 9) n = 11) → 1 ≤ gm 1 (246 + 6 * n) ∧ gm 1 (246 + 6 * n) ≤ 11) := by
  unfold iLn fX fM at hl
  simp only [Int.zero_add] at hl
  rcases hl with ⟨k1, k2⟩ | ⟨k1, k2⟩ | ⟨k1, k2⟩ | ⟨k1, k2⟩ | ⟨k1, k2, k3, k4, k5⟩ | ⟨k1, k2⟩ | ⟨k1, k2, k3, k4, k5⟩ | ⟨k1, k2⟩ | ⟨k1, k2, k3, k4, k5, k6, k7⟩ | ⟨k1, k2, k3, k4, k5, k6, k7, k8, k9, k10⟩ | ⟨k1, k2⟩ | ⟨k1, k2, k3, k4, k5, k6, k7⟩
  all_goals refine ⟨fun e => ?_, fun e => ?_, fun e => ?_, fun e => ?_, fun e => ?_⟩
  all_goals first | (exfalso; omega) | omega | skip
  all_goals first | exact ⟨by omega, by omega, k2, by omega, by omega, k5, k6⟩ | exact ⟨k2, k3, k4, k5, k6, by omega, by omega, k9, k10⟩ | exact ⟨k2, k3, by omega, by omega, k6, k7⟩
/-- lines of the reference, and those that are ends -/
theorem ln_k {n len : Int} (hl : iLn (fX gx p) (fM gm 0) n len) : (gx (p + 9) n = 11 ↔ gm 1 (246 + 6 * n) = 14) ∧ (gx (p + 9) n = 9 ↔ gm 1 (246 + 6 * n) = 13) := by
  obtain ⟨a1, a2, a3, a4, a5⟩ := ln_all hl
  by_cases c1 : gx (p + 9) n = 11
  · have := a1 c1; omega
  · by_cases c2 : gx (p + 9) n = 9
    · have := a2 c2; omega
    · by_cases c3 : gx (p + 9) n = 8
      · have := a3 c3; omega
      · by_cases c4 : gx (p + 9) n = 10
        · have := a4 c4; omega
        · have := a5 ⟨c3, c2, c4, c1⟩; omega
/-- the reference behind a line -/
def mB (Y : z_X) (K : Nat) (τ : z_G) (k : Int) (g : z_G) (Q : z_P) : Prop := L_M_behindEnds_2 Y K τ k g (fun r g => L_M_lives_32 Y K τ r g Q)
theorem mB_go (hm : z_lay Y K τ 0 z_SM z_RM) {k : Int} {g : z_G} {Q : z_P} (hk : 0 ≤ k ∧ k ≤ 60) (hn : g 1 6 ≤ k ∨ ¬ (g 1 (246 + 6 * k) = 14)) (h : L_M_lives_32 Y K τ k g Q) : mB Y K τ k g Q :=
  b_M_behindEnds_2 hm ⟨fun _ => h, fun c => ⟨by omega, by omega, by omega, fun z => by exfalso; omega, fun _ => h⟩⟩
/-- at an end -/
theorem mB_end (hm : z_lay Y K τ 0 z_SM z_RM) {k q : Int} {g : z_G} {Q : z_P} (hk : 0 ≤ k ∧ k < 60) (hl : k < g 1 6) (he : g 1 (246 + 6 * k) = 14) (hq : g 1 (246 + 6 * k + 4) = q) (hq2 : 0 ≤ q ∧ q < 60) (h1 : g 1 (246 + 6 * q) = 13 → -1000 ≤ g 15 q ∧ g 15 q ≤ 1000 ∧ (g 15 q ≤ 0 → mB Y K τ (k + 1) (z_up g 15 q (g 15 q)) Q) ∧ (¬ g 15 q ≤ 0 → mB Y K τ (q + 1) (z_up g 15 q (g 15 q - 1)) Q)) (h2 : ¬ g 1 (246 + 6 * q) = 13 → -2147483648 ≤ g 15 q ∧ g 15 q ≤ 2147483647 ∧ mB Y K τ (k + 1) (z_up g 15 q (g 15 q)) Q) : mB Y K τ k g Q := by
  refine b_M_behindEnds_2 hm ⟨fun c => by exfalso; omega, fun c => ⟨by omega, by omega, by omega, fun _ => ?_, fun z => absurd he z⟩⟩
  rw [hq]
  refine ⟨by omega, by omega, by omega, by omega, by omega, fun c => ?_, fun c => ?_⟩
  · obtain ⟨u1, u2, u3, u4⟩ := h1 c
    refine ⟨by omega, fun z => ⟨by omega, by omega, ?_⟩, fun z => ⟨by omega, by omega, u4 z⟩⟩
    rw [Int.sub_zero]; exact u3 z
  · obtain ⟨u1, u2, u3⟩ := h2 c
    refine ⟨by omega, by omega, by omega, ?_⟩
    rw [Int.sub_zero]; exact u3
/-- through an empty loop -/
theorem mB_empty (hm : z_lay Y K τ 0 z_SM z_RM) {q : Int} {Q : z_P} (hq2 : 0 ≤ q ∧ q + 1 < 60) : ∀ (c : Nat) (g : z_G), q + 1 < g 1 6 → g 1 (246 + 6 * (q + 1)) = 14 → g 1 (246 + 6 * (q + 1) + 4) = q → g 1 (246 + 6 * q) = 13 → g 15 q = c → c ≤ 1000 → (∀ g', (∀ c i, ¬ (c = 15 ∧ i = q) → g' c i = g c i) → mB Y K τ (q + 2) g' Q) → mB Y K τ (q + 1) g Q := by
  intro c
  induction c with
  | zero =>
    intro g k1 k2 k3 k4 k5 k6 hq
    refine mB_end hm (by omega) k1 k2 k3 (by omega) (fun _ => ⟨by omega, by omega, fun _ => ?_, fun z => absurd (by omega) z⟩) (fun z => absurd k4 z)
    rw [show q + 1 + 1 = q + 2 by omega]
    exact hq _ fun c i hc => z_u2 (by omega)
  | succ c ih =>
    intro g k1 k2 k3 k4 k5 k6 hq
    refine mB_end hm (by omega) k1 k2 k3 (by omega) (fun _ => ⟨by omega, by omega, fun z => absurd z (by omega), fun z => ?_⟩) (fun z => absurd k4 z)
    refine ih _ (by rw [z_u2 (by omega)]; exact k1) (by rw [z_u2 (by omega)]; exact k2) (by rw [z_u2 (by omega)]; exact k3) (by rw [z_u2 (by omega)]; exact k4) (by rw [z_u1]; omega) (by omega) fun g' hf => hq g' fun c i hc => ?_
    rw [hf c i hc, z_u2 (by omega)]
/-- a step of the reference that is no when, loop, stop -/
theorem mL_def (hm : z_lay Y K τ 0 z_SM z_RM) {k : Int} {g : z_G} {Q : z_P} (hk : 0 ≤ k ∧ k < 60) (hl : k < g 1 6) (h4 : g 16 4 = 0) (h36 : 0 ≤ g 0 36 ∧ g 0 36 < 300) (hd : 1 ≤ g 1 (246 + 6 * k) ∧ g 1 (246 + 6 * k) ≤ 11) (h : z_O Y 5 m_M_does [(2, 0), (0, 246 + 6 * k)] K τ (z_up g 0 36 (g 0 36 + 1)) (fun r g0 => (r = 0 ∨ r = 1) → g0 1 (246 + 6 * k) = g 1 (246 + 6 * k) ∧ (0 ≤ g0 16 0 ∧ g0 16 0 ≤ 400) ∧ ((r = 0 → mB Y K τ (k + 1) (z_up g0 16 0 (g0 16 0 + 1)) Q) ∧ (¬ r = 0 → mB Y K τ (k + 1) g0 Q)))) : L_M_lives_32 Y K τ k g Q := by
  refine b_M_lives_32 hm ⟨fun c => by exfalso; omega, fun _ => ⟨fun _ => ⟨fun c => by exfalso; omega, fun _ => ⟨by omega, by omega, by omega, by omega, fun c => by exfalso; omega, fun _ => z_Omono h fun r g0 _ hr hr2 => ?_⟩⟩, fun c => absurd h4 c⟩⟩
  obtain ⟨u1, u2, u3, u4⟩ := hr hr2
  rw [u1]
  refine ⟨fun e => ⟨by omega, fun c => by exfalso; omega, fun _ => ⟨fun _ => ⟨by omega, b_M_behindEnds_0 hm (u3 e)⟩, fun c => by exfalso; omega⟩⟩, fun e => ⟨fun c => by exfalso; omega, fun _ => ⟨fun _ => ⟨by omega, b_M_behindEnds_0 hm (u4 e)⟩, fun c => by exfalso; omega⟩⟩⟩
theorem mL_does (hm : z_lay Y K τ 0 z_SM z_RM) {a : Int} {g : z_G} {Q : z_P} (ha : 0 ≤ a ∧ a < 3296) (h : 12 ≤ g 1 a) (hq : Q 1 g) : z_O Y 5 m_M_does [(2, 0), (0, a)] K τ g Q := by
  refine b_M_does_0 hm ⟨by omega, ?_, ?_, ?_, ?_, ?_, ?_, ?_, ?_, ?_, ?_, ?_, ?_⟩
  all_goals first | (intro e; exfalso; omega) | exact fun _ => hq
theorem mL_stop (hm : z_lay Y K τ 0 z_SM z_RM) {k : Int} {g : z_G} {Q : z_P} (hk : 0 ≤ k ∧ k < 60) (hl : k < g 1 6) (h4 : g 16 4 = 0) (h36 : 0 ≤ g 0 36 ∧ g 0 36 < 300) (hd : g 1 (246 + 6 * k) = 15) (h : Q 0 (z_up g 0 36 (g 0 36 + 1))) : L_M_lives_32 Y K τ k g Q :=
  b_M_lives_32 hm ⟨fun c => by exfalso; omega, fun _ => ⟨fun _ => ⟨fun c => by exfalso; omega, fun _ => ⟨by omega, by omega, by omega, by omega, fun _ => h, fun c => absurd hd c⟩⟩, fun c => absurd h4 c⟩⟩
theorem mL_loop (hm : z_lay Y K τ 0 z_SM z_RM) {k : Int} {g : z_G} {Q : z_P} (hk : 0 ≤ k ∧ k < 60) (hl : k < g 1 6) (h4 : g 16 4 = 0) (h36 : 0 ≤ g 0 36 ∧ g 0 36 < 300) (hd : g 1 (246 + 6 * k) = 13) (hv : 1 ≤ g 1 (246 + 6 * k + 1) ∧ g 1 (246 + 6 * k + 1) ≤ 99) (h : mB Y K τ (k + 1) (z_up (z_up g 0 36 (g 0 36 + 1)) 15 k (g 1 (246 + 6 * k + 1) - 1)) Q) : L_M_lives_32 Y K τ k g Q := by
  have e1 : z_up g 0 36 (g 0 36 + 1) 1 (246 + 6 * k) = g 1 (246 + 6 * k) := z_u2 (by omega)
  have e2 : z_up g 0 36 (g 0 36 + 1) 1 (246 + 6 * k + 1) = g 1 (246 + 6 * k + 1) := z_u2 (by omega)
  refine b_M_lives_32 hm ⟨fun c => by exfalso; omega, fun _ => ⟨fun _ => ⟨fun c => by exfalso; omega, fun _ => ⟨by omega, by omega, by omega, by omega, fun c => by exfalso; omega, fun _ => mL_does hm (by omega) (by rw [e1]; omega) fun _ => ?_⟩⟩, fun c => absurd h4 c⟩⟩
  rw [e1, e2]
  exact ⟨fun c => by exfalso; omega, fun _ => ⟨fun _ => ⟨by omega, by omega, by omega, by omega, fun _ => ⟨by omega, b_M_behindEnds_0 hm h⟩, fun c => by exfalso; omega⟩, fun c => absurd hd c⟩⟩
theorem mL_when (hm : z_lay Y K τ 0 z_SM z_RM) {k : Int} {g : z_G} {Q : z_P} (hk : 0 ≤ k ∧ k < 60) (hl : k < g 1 6) (h4 : g 16 4 = 0) (h36 : 0 ≤ g 0 36 ∧ g 0 36 < 300) (hd : 1216 ≤ g 1 (246 + 6 * k) ∧ g 1 (246 + 6 * k) ≤ 1219) (h : z_O Y 4 m_M_holds [(2, 0), (0, 246 + 6 * k)] K τ (z_up g 0 36 (g 0 36 + 1)) (fun r g0 => (r = 0 ∨ r = 1) → (0 ≤ g0 1 (246 + 6 * k + 4) ∧ g0 1 (246 + 6 * k + 4) ≤ 60) ∧ ((r = 0 → mB Y K τ (g0 1 (246 + 6 * k + 4) + 1) g0 Q) ∧ (¬ r = 0 → mB Y K τ (k + 1) g0 Q)))) : L_M_lives_32 Y K τ k g Q := by
  have e1 : z_up g 0 36 (g 0 36 + 1) 1 (246 + 6 * k) = g 1 (246 + 6 * k) := z_u2 (by omega)
  refine b_M_lives_32 hm ⟨fun c => by exfalso; omega, fun _ => ⟨fun _ => ⟨fun c => by exfalso; omega, fun _ => ⟨by omega, by omega, by omega, by omega, fun c => by exfalso; omega, fun _ => mL_does hm (by omega) (by rw [e1]; omega) fun _ => ?_⟩⟩, fun c => absurd h4 c⟩⟩
  rw [e1]
  refine ⟨fun c => by exfalso; omega, fun _ => ⟨fun c => by exfalso; omega, fun _ => ⟨fun c => by exfalso; omega, fun _ => z_Omono h fun r g0 _ hr hr2 => ?_⟩⟩⟩
  obtain ⟨u1, u3, u4⟩ := hr hr2
  exact ⟨fun e => ⟨by omega, by omega, by omega, b_M_behindEnds_0 hm (u3 e)⟩, fun e => ⟨by omega, b_M_behindEnds_0 hm (u4 e)⟩⟩
theorem mL_cut (hm : z_lay Y K τ 0 z_SM z_RM) {k : Int} {g : z_G} {Q : z_P} (hl : k < g 1 6) (h4 : g 16 4 = 0) (h36 : g 0 36 = 300) (h : Q 0 (z_up g 16 4 1)) : L_M_lives_32 Y K τ k g Q := by
  refine b_M_lives_32 hm ⟨fun c => by exfalso; omega, fun _ => ⟨fun _ => ⟨fun _ => b_M_lives_32 hm ⟨fun c => ?_, fun _ => ⟨fun c => ?_, fun _ => h⟩⟩, fun c => absurd h36 c⟩, fun c => absurd h4 c⟩⟩
  · rw [z_u2 (by omega)] at c; exfalso; omega
  · rw [z_u1] at c; exfalso; omega
end Tour

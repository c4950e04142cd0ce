/-! ## TOURS as a text: the reference's run through a step, up to what the step says -/
section Lock
variable {X Y : z_X} {N K : Nat} {σ τ gx gm : z_G} {P Q : z_P}
theorem m_srun (hm : z_lay Y K τ 0 z_SM z_RM) (hSY : z_St Y K τ) (hA : kA gx) (hG : cG gx) {gx1 : z_G} (f1 : fA gx gx1) (hN1 : ∀ gm, gx 10 2 = gm 0 10 → (∀ i, 0 ≤ i → i < gm 0 10 → gx 11 i = gm 6 i % 256) → gx 10 3 = gm 0 13 → kN gx1 gm) {w : Nat} (hw : gx 10 4 = 1 ∧ kMt (gx 11) (gx 10 6) (gx 10 3) w) (hs : w = 1 ∨ w = 3 ∨ (6 ≤ w ∧ w ≤ 13) ∨ w = 15) (h21 : gx 45 1 < 30) (h20 : w = 12 ∨ w = 13 → gx 9 6 < 3) (hg : gR gx gm)
    (hq : ∀ gm1, kOK gx1 gm1 → gm1 1 2446 = gx 45 2 + 1 → gm1 0 21 = gx 45 1 + 1 → gm1 1 (2686 + 6 * gx 45 2) = (w : Int) → (∀ i, 2686 + 6 * gx 45 2 + 1 ≤ i → i ≤ 2686 + 6 * gx 45 2 + 5 → gm1 1 i = 0) → (∀ c i, ¬ (c = 1 ∧ (i = 2446 ∨ (2686 + 6 * gx 45 2 ≤ i ∧ i ≤ 2686 + 6 * gx 45 2 + 5))) → ¬ (c = 0 ∧ (11 ≤ i ∧ i ≤ 14 ∨ i = 21)) → gm1 c i = gm c i) → z_O Y 11 m_M_tourOrder [(2, 0), (0, (w : Int)), (0, 2686 + 6 * gx 45 2)] K τ gm1 (fun r1 g1 => (r1 = 0 ∨ r1 = 1) → ((r1 = 0 → Q 0 g1) ∧ (¬ r1 = 0 → ((¬ (w = 12 ∨ w = 13) → z_O Y 3 m_M_wantSign [(2, 0), (0, 59)] K τ g1 (fun r3 g3 => (r3 = 0 ∨ r3 = 1) → Q r3 g3)) ∧ (w = 12 ∨ w = 13 → (0 ≤ g1 0 20 ∧ g1 0 20 < 3) ∧ z_O Y 3 m_M_wantSign [(2, 0), (0, 59)] K τ (z_up (z_up g1 7 (g1 0 20) (gx 45 2)) 0 20 (g1 0 20 + 1)) (fun r3 g3 => (r3 = 0 ∨ r3 = 1) → Q r3 g3))))))) : z_O Y 12 m_M_tourStep [(2, 0)] K τ gm Q := by
  obtain ⟨g1, g2, g3, g4, g5⟩ := id hG
  obtain ⟨ok, e46, e21, e20, e7, -⟩ := hg
  have core : ∀ o : Int, ((w = 12 ∨ w = 13) ∧ o = 1) ∨ (¬ (w = 12 ∨ w = 13) ∧ o = 0) → L_M_tourStep_142 Y K τ (w : Int) (gm 1 2446) (2686 + 6 * gm 1 2446) o 1 (z_up (z_up gm 0 21 (gm 0 21 + 1)) 1 (2686 + 6 * gm 1 2446) (w : Int)) Q := by
    intro o ho
    rw [← e46]
    refine m_row hm rfl (by omega) (by rw [z_u2 (by omega), z_u2 (by omega)]; exact e46.symm) fun g' z1 z2 z3 => ?_
    have go : ∀ c i, ¬ (c = 1 ∧ (i = 2446 ∨ (2686 + 6 * gx 45 2 ≤ i ∧ i ≤ 2686 + 6 * gx 45 2 + 5))) → ¬ (c = 0 ∧ i = 21) → g' c i = gm c i := fun c i hc hc2 => by rw [z3 c i (by omega), z_u2 (by omega), z_u2 (by omega)]
    refine nx_N (gx := gx1) hm (hN1 g' (by rw [go _ _ (by omega) (by omega)]; exact ok.1.1) (fun i i1 i2 => by rw [go _ _ (by omega) (by omega)] at i2; rw [go _ _ (by omega) (by omega)]; exact ok.1.2.1 i i1 i2) (by rw [go _ _ (by omega) (by omega)]; exact ok.1.2.2.2.1)) fun gm1 b1 b2 => z_Omono (hq gm1 ⟨b2, ?_, ?_, ?_, ?_⟩ ?_ ?_ ?_ (fun i i1 i2 => ?_) (fun c i c1 c2 => ?_)) fun r1 g1 _ hh => fun h01 => ⟨(hh h01).1, fun z => ⟨fun o0 => ⟨fun w14 => by exfalso; omega, fun _ => ((hh h01).2 z).1 (by omega)⟩, fun o0 => ⟨by omega, ((hh h01).2 z).2 (by omega)⟩⟩⟩
    · rw [f1 _ _ (by omega)]; exact ok.2.1
    · rw [f1 _ _ (by omega)]; exact ok.2.2.1
    · rw [b1 _ _ (by omega), go _ _ (by omega) (by omega)]; exact ok.2.2.2.1
    · rw [b1 _ _ (by omega), go _ _ (by omega) (by omega)]; exact ok.2.2.2.2
    · rw [b1 _ _ (by omega)]; exact z2
    · rw [b1 _ _ (by omega), z3 _ _ (by omega), z_u2 (by omega), z_u1, e21]
    · rw [b1 _ _ (by omega), z3 _ _ (by omega), z_u1]
    · rw [b1 _ _ (by omega)]; exact z1 i i1 i2
    · rw [b1 c i (by omega)]; exact go c i c1 (by omega)
  exact m_ts hm hSY hA ok.1 (by omega) (by omega) hw hs (fun z => by exfalso; omega) (fun _ _ z => by exfalso; omega) (fun c _ _ => core 1 (Or.inl ⟨c, rfl⟩)) (fun c _ => core 0 (Or.inr ⟨c, rfl⟩))
end Lock

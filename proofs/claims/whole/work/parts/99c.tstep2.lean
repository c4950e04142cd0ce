/-! ## TOURS as a text: steps by their kinds -/
section Lock
variable {X Y : z_X} {N K : Nat} {σ τ gx gm : z_G} {P Q : z_P}
/-- a step of one word -/
theorem t_s0 (hx : z_lay X N σ 0 z_SF z_RF) (hm : z_lay Y K τ 0 z_SM z_RM) (hSY : z_St Y K τ) (hA : kA gx) (hG : cG gx) (h30 : gx 45 1 < 30) {w : Nat} (hs : 6 ≤ w ∧ w ≤ 11 ∨ w = 15) (hw : gx 10 4 = 1 ∧ kMt (gx 11) (gx 10 6) (gx 10 3) w) {k : Int} (hk : ¬ (k = 8 ∨ k = 9)) (hrow : ∀ (b : Int) (g : z_G) (t : Int), g 1 t = (w : Int) → rowN k b g t) {gx1 gz : z_G} (hB : sB gx gx1 gz) (hP : sW Y K τ gx P) : z_O X 4 m_Pa_readFirst [(2, 9), (0, 0)] N σ gz (fun r g => (r = 0 ∨ r = 1) → ((r = 0 → P 0 g) ∧ (¬ r = 0 → z_O X 3 m_Ta_passSign [(2, 10), (0, 59)] N σ g (fun r g3 => (r = 0 ∨ r = 1) → ((r = 0 → P 0 g3) ∧ (¬ r = 0 → z_O X 1 m_Pg_addStep [(2, ((45 : Nat) : Int)), (0, k), (0, g3 9 7), (0, g3 9 8), (0, g3 9 9)] N σ g3 (fun _ g4 => P 1 g4))))))) := by
  have a7 := hA.2.2.2.2.2.2.1 (by rw [hw.1]; decide)
  have l1 := hB.2.2.1
  have e6 : gz 10 6 = gx1 10 6 := hB.2.2.2.2 _ _ (by omega)
  refine b_Pa_readFirst_0 hx ⟨fun _ => fun _ => t_argN hx hm hSY hA hG h30 (by unfold wN; omega) hw (by omega) hk hB (r := 1) (Or.inr rfl) (fun _ _ _ _ _ _ => rfl) (fun _ => ⟨hB.2.1.c fun i _ _ => hB.2.2.2.2 _ _ (by omega), by omega⟩) (fun gm1 ok n Q q => b_M_tourOrder_0 hm ⟨fun z => by exfalso; omega, fun z => by exfalso; omega, fun z => by exfalso; omega, fun z => by exfalso; omega, fun _ => q gm1 (fun _ _ _ _ => rfl) (fun _ => hrow _ _ _ n) (Or.inl ⟨rfl, ok⟩)⟩) hP, fun z => absurd rfl z⟩
/-- a NUMBER behind the word -/
theorem t_s1 (hx : z_lay X N σ 0 z_SF z_RF) (hm : z_lay Y K τ 0 z_SM z_RM) (hA : kA gx) (hG : cG gx) (h30 : gx 45 1 < 30) (h4 : gx 10 4 = 1) {u w : Int} (hu : (w = 1 ∧ u = 200) ∨ (w = 3 ∧ u = 99) ∨ (w = 13 ∧ u = 99)) {gx1 gz : z_G} (hB : sB gx gx1 gz) (hP : ∀ r gx2, (r = 0 ∨ r = 1) → fT gz gx2 → (r = 1 → kA gx2 ∧ gx 10 6 < gx2 10 6) → sA Y K τ gz gx2 w (2686 + 6 * gx 45 2) r (fun gm2 => gm2 1 (2686 + 6 * gx 45 2) = w ∧ gx2 9 8 = gm2 1 (2686 + 6 * gx 45 2 + 1) ∧ 1 ≤ gm2 1 (2686 + 6 * gx 45 2 + 1) ∧ gm2 1 (2686 + 6 * gx 45 2 + 1) ≤ u) → P r gx2) : z_O X 4 m_Pa_readFirst [(2, 9), (0, u)] N σ gz P := by
  have a7 := hA.2.2.2.2.2.2.1 (by rw [h4]; decide)
  have l1 := hB.2.2.1
  have a13 := hB.2.1.2.1
  have e3 : gz 10 3 = gx1 10 3 := hB.2.2.2.2 _ _ (by omega)
  obtain ⟨g1, g2, g3, g4, -⟩ := id hG
  refine t_first hx hm (hB.2.1.c fun i _ _ => hB.2.2.2.2 _ _ (by omega)) (t := 2686 + 6 * gx 45 2) (by omega) (by omega) fun r gx2 hr f2 q2 hM2 => hP r gx2 hr f2 (fun z => ⟨(q2 z).1, by have := (q2 z).2; omega⟩) fun gm1 ok n Q q => ?_
  have M : ∀ Z : z_P, (∀ gm2, Q r gm2 → Z r gm2) → z_O Y 3 m_M_number [(2, 0), (0, 2686 + 6 * gx 45 2 + 1), (0, 1), (0, u)] K τ gm1 Z := fun Z hZ => hM2 gm1 ok Z fun gm2 b1 b2 b3 b4 => hZ gm2 (q gm2 b1 (fun z => ⟨by rw [b2]; exact n, b3 z⟩) b4)
  rcases hu with ⟨rfl, rfl⟩ | ⟨rfl, rfl⟩ | ⟨rfl, rfl⟩
  · exact b_M_tourOrder_0 hm ⟨fun _ => ⟨by omega, M _ fun gm2 z _ => z⟩, fun z => absurd z (by decide), fun z => absurd z (by decide), fun z => absurd z (by decide), fun z => absurd rfl z.1⟩
  · exact b_M_tourOrder_0 hm ⟨fun z => absurd z (by decide), fun _ => ⟨by omega, M _ fun gm2 z _ => z⟩, fun z => absurd z (by decide), fun z => absurd z (by decide), fun z => absurd rfl z.2.1⟩
  · exact b_M_tourOrder_0 hm ⟨fun z => absurd z (by decide), fun z => absurd z (by decide), fun z => absurd z (by decide), fun _ => ⟨by omega, M _ fun gm2 z _ => z⟩, fun z => absurd rfl z.2.2.2⟩
/-- a fault of the step's word -/
theorem t_sf (hm : z_lay Y K τ 0 z_SM z_RM) (hSY : z_St Y K τ) (hA : kA gx) (hG : cG gx) {w : Nat} (hs : wN w) (hw : gx 10 4 = 1 ∧ kMt (gx 11) (gx 10 6) (gx 10 3) w) {a : Int} (ha : (a = 6 ∧ gx 45 1 = 30) ∨ (a = 7 ∧ ¬ gx 45 1 = 30 ∧ gx 9 6 = 3 ∧ (w = 12 ∨ w = 13))) (hP : sW Y K τ gx P) : P 0 (z_up (z_up gx 10 9 a) 10 10 (gx 10 6)) := by
  refine hP 0 _ (Or.inl rfl) ((fC.rf.up (by omega)).up (by omega)).t.w (fun z => absurd z (by decide)) fun gm hg Q hq => ?_
  obtain ⟨ok, e46, e21, e20, -, -⟩ := id hg
  obtain ⟨g1, g2, g3, g4, -⟩ := id hG
  have f : z_O Y 1 m_M_fails [(2, 0), (0, a)] K τ gm (fun r2 g2 => (r2 = 0 ∨ r2 = 1) → Q r2 g2) := m_fails hm ok.2.2.2.1 fun gm' f1 f2 f3 => fun _ => hq gm' f1.u (Or.inr ⟨rfl, kBad_here ok f2 f3 (by rw [z_u2 (by omega), z_u1]) z_u1 ⟨fun z => absurd (hw.1.symm.trans z) (by decide), fun _ => rfl⟩ (by omega)⟩)
  rcases ha with ⟨rfl, h⟩ | ⟨rfl, h, h', h''⟩
  · exact m_ts hm hSY hA ok.1 (by omega) (by omega) hw hs (fun _ => f) (fun _ z => absurd (e21 ▸ h) z) (fun _ z => absurd (e21 ▸ h) z) (fun _ z => absurd (e21 ▸ h) z)
  · exact m_ts hm hSY hA ok.1 (by omega) (by omega) hw hs (fun z => absurd (e21 ▸ z) h) (fun _ _ _ => f) (fun _ _ z => absurd (e20 ▸ h') z) (fun z => absurd h'' z)
end Lock

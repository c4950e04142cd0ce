/-! ## TOURS as a text: a step -/
section Lock
variable {X Y : z_X} {N K : Nat} {σ τ gx gm : z_G} {P Q : z_P}
/-- what stands behind the step's word, on both sides -/
def sA (Y : z_X) (K : Nat) (τ gz gx2 : z_G) (w t r : Int) (C : z_G → Prop) : Prop := ∀ gm1, kOK gz gm1 → gm1 1 t = w → ∀ Q : z_P, (∀ gm2, fR gm1 gm2 t → (r = 1 → C gm2) → kRes r gx2 gm2 → Q r gm2) → z_O Y 11 m_M_tourOrder [(2, 0), (0, w), (0, t)] K τ gm1 Q
/-- the word was taken -/
def sB (gx gx1 gz : z_G) : Prop := fA gx gx1 ∧ kA gx1 ∧ gx 10 3 ≤ gx1 10 6 ∧ (∀ gm, gx 10 2 = gm 0 10 → (∀ i, 0 ≤ i → i < gm 0 10 → gx 11 i = gm 6 i % 256) → gx 10 3 = gm 0 13 → kN gx1 gm) ∧ ∀ c i, ¬ (c = 9 ∧ 7 ≤ i ∧ i ≤ 9) → gz c i = gx1 c i
def wN (w : Nat) : Prop := w = 1 ∨ w = 3 ∨ (6 ≤ w ∧ w ≤ 13) ∨ w = 15
theorem m_arg (hm : z_lay Y K τ 0 z_SM z_RM) (hSY : z_St Y K τ) (hA : kA gx) (hG : cG gx) (h30 : gx 45 1 < 30) {w : Nat} (hs : wN w) (hw : gx 10 4 = 1 ∧ kMt (gx 11) (gx 10 6) (gx 10 3) w) (h3 : w = 12 ∨ w = 13 → gx 9 6 < 3) {gx1 gz gx2 : z_G} (hB : sB gx gx1 gz) {r : Int} {C : z_G → Prop} (hM : sA Y K τ gz gx2 (w : Int) (2686 + 6 * gx 45 2) r C) (hg : gR gx gm)
    (hq : ∀ gm2, gm2 1 2446 = gx 45 2 + 1 → gm2 0 21 = gx 45 1 + 1 → (∀ c i, ¬ (c = 1 ∧ (i = 2446 ∨ (2686 + 6 * gx 45 2 ≤ i ∧ i ≤ 2686 + 6 * gx 45 2 + 5))) → ¬ (c = 0 ∧ (11 ≤ i ∧ i ≤ 14 ∨ i = 16 ∨ i = 17 ∨ i = 21)) → gm2 c i = gm c i) → (r = 1 → C gm2) → kRes r gx2 gm2 → (r = 0 → Q 0 gm2) ∧ (¬ r = 0 → ((¬ (w = 12 ∨ w = 13) → z_O Y 3 m_M_wantSign [(2, 0), (0, 59)] K τ gm2 (fun r3 g3 => (r3 = 0 ∨ r3 = 1) → Q r3 g3)) ∧ (w = 12 ∨ w = 13 → (0 ≤ gm2 0 20 ∧ gm2 0 20 < 3) ∧ z_O Y 3 m_M_wantSign [(2, 0), (0, 59)] K τ (z_up (z_up gm2 7 (gm2 0 20) (gx 45 2)) 0 20 (gm2 0 20 + 1)) (fun r3 g3 => (r3 = 0 ∨ r3 = 1) → Q r3 g3))))) : z_O Y 12 m_M_tourStep [(2, 0)] K τ gm Q := by
  obtain ⟨f1, hA1, l1, hN1, hz⟩ := hB
  refine m_srun hm hSY hA hG f1 hN1 hw hs h30 h3 hg fun gm1 ok n1 n2 n3 n4 nf => hM gm1 (ok.c (fun i _ _ => hz _ _ (by omega)) (fun i => hz _ _ (by omega)) (fun _ _ _ _ => rfl) (fun _ => rfl)) n3 _ fun gm2 b1 b2 b3 => fun _ => hq gm2 ?_ ?_ (fun c i c1 c2 => ?_) b2 b3
  · clear hs hw h3 n4; obtain ⟨g1, g2, g3, g4, g5⟩ := id hG; rw [b1 _ _ (by omega) (by omega)]; exact n1
  · clear hs hw h3 n4; rw [b1 _ _ (by omega) (by omega)]; exact n2
  · clear hs hw h3 n4; rw [b1 c i (by omega) (by omega)]; exact nf c i c1 (by omega)
theorem t_argN (hx : z_lay X N σ 0 z_SF z_RF) (hm : z_lay Y K τ 0 z_SM z_RM) (hSY : z_St Y K τ) (hA : kA gx) (hG : cG gx) (h30 : gx 45 1 < 30) {w : Nat} (hs : wN w) (hw : gx 10 4 = 1 ∧ kMt (gx 11) (gx 10 6) (gx 10 3) w) (hn : ¬ (w = 12 ∨ w = 13)) {k : Int} (hk : ¬ (k = 8 ∨ k = 9)) {gx1 gz gx2 : z_G} (hB : sB gx gx1 gz) {r : Int} (hr : r = 0 ∨ r = 1) (f2 : fT gz gx2) (q2 : r = 1 → kA gx2 ∧ gx 10 6 < gx2 10 6) (hM : sA Y K τ gz gx2 (w : Int) (2686 + 6 * gx 45 2) r (fun gm2 => rowN k (gx2 9 8) gm2 (2686 + 6 * gx 45 2))) (hP : sW Y K τ gx P) :
    (r = 0 → P 0 gx2) ∧ (¬ r = 0 → z_O X 3 m_Ta_passSign [(2, 10), (0, 59)] N σ gx2 (fun r g3 => (r = 0 ∨ r = 1) → ((r = 0 → P 0 g3) ∧ (¬ r = 0 → z_O X 1 m_Pg_addStep [(2, ((45 : Nat) : Int)), (0, k), (0, g3 9 7), (0, g3 9 8), (0, g3 9 9)] N σ g3 (fun _ g4 => P 1 g4))))) := by
  have fz : fT gx gx2 := fT.tr (gx' := gz) (fun c i c1 c2 c3 c4 => by rw [hB.2.2.2.2 c i c1]; exact hB.1 c i (by clear hs hw hn hk hr; omega)) f2
  refine ⟨fun r0 => ?_, fun r0 => ?_⟩
  · subst r0
    refine hP 0 gx2 (Or.inl rfl) fz.w (fun z => absurd z (by decide)) fun gm hg Q hq => m_arg hm hSY hA hG h30 hs hw (fun z => absurd z hn) hB hM hg fun gm2 n1 n2 nf _ kr => ⟨fun _ => hq gm2 (fun c i c1 c2 c3 => nf c i (by clear hs hw hn hk hr; have := hG.2.2.1; have := hG.2.2.2.1; have := hG.1; omega) (by clear hs hw hn hk hr; omega)) (Or.inr ⟨rfl, ?_⟩), fun z => absurd rfl z⟩
    rcases kr with y | y
    · exact absurd y.1 (by decide)
    · exact y.2
  · have r1 : r = 1 := hr.resolve_left r0
    subst r1
    obtain ⟨hA2, l2⟩ := q2 rfl
    refine t_tailN hx hm hG h30 hk hA2 l2 fz (fun gm hg Q q => m_arg hm hSY hA hG h30 hs hw (fun z => absurd z hn) hB hM hg fun gm2 n1 n2 nf c kr => ⟨fun z => absurd z (by decide), fun _ => ⟨fun _ => q gm2 ?_ n1 n2 (c rfl) nf, fun z => absurd z hn⟩⟩) hP
    rcases kr with y | y
    · exact y.2
    · exact absurd y.1 (by decide)
theorem t_argO (hx : z_lay X N σ 0 z_SF z_RF) (hm : z_lay Y K τ 0 z_SM z_RM) (hSY : z_St Y K τ) (hA : kA gx) (hG : cG gx) (h30 : gx 45 1 < 30) (h3 : gx 9 6 < 3) {w : Nat} (hn : w = 12 ∨ w = 13) (hw : gx 10 4 = 1 ∧ kMt (gx 11) (gx 10 6) (gx 10 3) w) {k : Int} {gx1 gz gx2 : z_G} (hB : sB gx gx1 gz) {r : Int} (hr : r = 0 ∨ r = 1) (f2 : fT gz gx2) (q2 : r = 1 → kA gx2 ∧ gx 10 6 < gx2 10 6) (hM : sA Y K τ gz gx2 (w : Int) (2686 + 6 * gx 45 2) r (fun gm2 => rowO k gx2 gm2 (2686 + 6 * gx 45 2))) (hP : sW Y K τ gx P) :
    (r = 0 → P 0 gx2) ∧ (¬ r = 0 → z_O X 3 m_Ta_passSign [(2, 10), (0, 59)] N σ gx2 (fun r g3 => (r = 0 ∨ r = 1) → ((r = 0 → P 0 g3) ∧ (¬ r = 0 → (0 ≤ g3 9 6 ∧ g3 9 6 < 3) ∧ (-2147483648 ≤ g3 9 6 + 1 ∧ g3 9 6 + 1 ≤ 2147483647) ∧ z_O X 1 m_Pg_addStep [(2, ((45 : Nat) : Int)), (0, k), (0, g3 9 7), (0, g3 9 8), (0, g3 9 9)] N σ (z_up (z_up g3 14 (g3 9 6) (g3 45 2)) 9 6 (g3 9 6 + 1)) (fun _ g4 => P 1 g4))))) := by
  have hs : wN w := by unfold wN; omega
  have fz : fT gx gx2 := fT.tr (gx' := gz) (fun c i c1 c2 c3 c4 => by rw [hB.2.2.2.2 c i c1]; exact hB.1 c i (by clear hs hw hn hr; omega)) f2
  refine ⟨fun r0 => ?_, fun r0 => ?_⟩
  · subst r0
    refine hP 0 gx2 (Or.inl rfl) fz.w (fun z => absurd z (by decide)) fun gm hg Q hq => m_arg hm hSY hA hG h30 hs hw (fun _ => h3) hB hM hg fun gm2 n1 n2 nf _ kr => ⟨fun _ => hq gm2 (fun c i c1 c2 c3 => nf c i (by clear hs hw hn hr; have := hG.2.2.1; have := hG.2.2.2.1; have := hG.1; omega) (by clear hs hw hn hr; omega)) (Or.inr ⟨rfl, ?_⟩), fun z => absurd rfl z⟩
    rcases kr with y | y
    · exact absurd y.1 (by decide)
    · exact y.2
  · have r1 : r = 1 := hr.resolve_left r0
    subst r1
    obtain ⟨hA2, l2⟩ := q2 rfl
    refine t_tailO hx hm hG h30 h3 hA2 l2 fz (fun gm hg Q q => m_arg hm hSY hA hG h30 hs hw (fun _ => h3) hB hM hg fun gm2 n1 n2 nf c kr => ⟨fun z => absurd z (by decide), fun _ => ⟨fun z => absurd hn z, fun _ => ?_⟩⟩) hP
    have c := c rfl
    have ok : kOK gx2 gm2 := by
      rcases kr with y | y
      · exact y.2
      · exact absurd y.1 (by decide)
    have g1 := hG.1
    have e20 : gm2 0 20 = gx 9 6 := by clear hs hw hn hr; rw [nf _ _ (by omega) (by omega)]; exact hg.2.2.2.1.symm
    clear hs hw hn hr q2 kr
    rw [e20]
    refine ⟨by omega, q _ (ok.c (fun _ _ _ => rfl) (fun _ => rfl) (fun i _ _ _ => by rw [z_u2 (by omega), z_u2 (by omega)]) (fun i => by rw [z_u2 (by omega), z_u2 (by omega)])) ?_ ?_ z_u1 ?_ ?_ fun c i c1 c2 c3 => ?_⟩
    · rw [z_u2 (by omega), z_u2 (by omega)]; exact n1
    · rw [z_u2 (by omega), z_u2 (by omega)]; exact n2
    · rw [z_u2 (by omega), z_u1]
    · unfold rowO wOK at c ⊢
      rw [z_u2 (by omega), z_u2 (by omega), z_u2 (by omega), z_u2 (by omega), z_u2 (by omega), z_u2 (by omega), z_u2 (by omega), z_u2 (by omega)]; exact c
    · rw [z_u2 (by omega), z_u2 (by omega)]; exact nf c i c1 (by omega)
end Lock

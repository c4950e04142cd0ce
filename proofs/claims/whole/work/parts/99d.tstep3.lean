/-! ## TOURS as a text: any step -/
section Lock
variable {X Y : z_X} {N K : Nat} {σ τ gx gm : z_G} {P Q : z_P}
theorem sB_up {gx1 : z_G} (f1 : fA gx gx1) (hA1 : kA gx1) (l1 : gx 10 3 ≤ gx1 10 6) (hN1 : ∀ gm, gx 10 2 = gm 0 10 → (∀ i, 0 ≤ i → i < gm 0 10 → gx 11 i = gm 6 i % 256) → gx 10 3 = gm 0 13 → kN gx1 gm) : sB gx gx1 (z_up (z_up (z_up gx1 9 7 0) 9 8 0) 9 9 0) := ⟨f1, hA1, l1, hN1, fun c i hc => by rw [z_u2 (by omega), z_u2 (by omega), z_u2 (by omega)]⟩
/-- the kinds that need no end -/
theorem t_sn (hx : z_lay X N σ 0 z_SF z_RF) (hm : z_lay Y K τ 0 z_SM z_RM) (hSY : z_St Y K τ) (hA : kA gx) (hG : cG gx) (h30 : gx 45 1 < 30) {r : Int} (hr : 0 ≤ r ∧ r ≤ 10) (h8 : ¬ r = 8) (h9 : ¬ r = 9) (hw : gx 10 4 = 1 ∧ kMt (gx 11) (gx 10 6) (gx 10 3) (kw r)) {gx1 gz : z_G} (hB : sB gx gx1 gz) (hP : sW Y K τ gx P) :
    ((r = 4) → z_O X 4 m_Pa_readFirst [(2, 9), (0, 99)] N σ gz (fun r1 g => (r1 = 0 ∨ r1 = 1) → ((r1 = 0 → P 0 g) ∧ (¬ r1 = 0 → z_O X 3 m_Ta_passSign [(2, 10), (0, 59)] N σ g (fun r2 g3 => (r2 = 0 ∨ r2 = 1) → ((r2 = 0 → P 0 g3) ∧ (¬ r2 = 0 → z_O X 1 m_Pg_addStep [(2, ((45 : Nat) : Int)), (0, r), (0, g3 9 7), (0, g3 9 8), (0, g3 9 9)] N σ g3 (fun _ g4 => P 1 g4)))))))) ∧ ((r = 6) → z_O X 4 m_Pa_readFirst [(2, 9), (0, 200)] N σ gz (fun r1 g => (r1 = 0 ∨ r1 = 1) → ((r1 = 0 → P 0 g) ∧ (¬ r1 = 0 → z_O X 3 m_Ta_passSign [(2, 10), (0, 59)] N σ g (fun r2 g3 => (r2 = 0 ∨ r2 = 1) → ((r2 = 0 → P 0 g3) ∧ (¬ r2 = 0 → z_O X 1 m_Pg_addStep [(2, ((45 : Nat) : Int)), (0, r), (0, g3 9 7), (0, g3 9 8), (0, g3 9 9)] N σ g3 (fun _ g4 => P 1 g4)))))))) ∧ (¬ r = 4 → ¬ r = 6 → z_O X 4 m_Pa_readFirst [(2, 9), (0, 0)] N σ gz (fun r1 g => (r1 = 0 ∨ r1 = 1) → ((r1 = 0 → P 0 g) ∧ (¬ r1 = 0 → z_O X 3 m_Ta_passSign [(2, 10), (0, 59)] N σ g (fun r2 g3 => (r2 = 0 ∨ r2 = 1) → ((r2 = 0 → P 0 g3) ∧ (¬ r2 = 0 → z_O X 1 m_Pg_addStep [(2, ((45 : Nat) : Int)), (0, r), (0, g3 9 7), (0, g3 9 8), (0, g3 9 9)] N σ g3 (fun _ g4 => P 1 g4)))))))) := by
  refine ⟨fun e => ?_, fun e => ?_, fun n4 n6 => ?_⟩
  · subst e
    exact t_s1 hx hm hA hG h30 hw.1 (w := 3) (u := 99) (Or.inr (Or.inl ⟨rfl, rfl⟩)) hB fun r2 gx2 hr f2 q2 hM => fun _ => t_argN hx hm hSY hA hG h30 (w := 3) (Or.inr (Or.inl rfl)) hw (by omega) (by omega) hB hr f2 q2 (fun gm1 ok n Q q => hM gm1 ok n Q fun gm2 b1 b2 b3 => q gm2 b1 (fun z => Or.inr (Or.inr (Or.inr (Or.inr (Or.inl ⟨rfl, b2 z⟩))))) b3) hP
  · subst e
    exact t_s1 hx hm hA hG h30 hw.1 (w := 1) (u := 200) (Or.inl ⟨rfl, rfl⟩) hB fun r2 gx2 hr f2 q2 hM => fun _ => t_argN hx hm hSY hA hG h30 (w := 1) (Or.inl rfl) hw (by omega) (by omega) hB hr f2 q2 (fun gm1 ok n Q q => hM gm1 ok n Q fun gm2 b1 b2 b3 => q gm2 b1 (fun z => Or.inr (Or.inr (Or.inr (Or.inr (Or.inr (Or.inr (Or.inl ⟨rfl, b2 z⟩))))))) b3) hP
  · rcases (show r = 0 ∨ r = 1 ∨ r = 2 ∨ r = 3 ∨ r = 5 ∨ r = 7 ∨ r = 10 by omega) with e | e | e | e | e | e | e
    · subst e; exact t_s0 hx hm hSY hA hG h30 (w := 6) (by omega) hw (by omega) (fun b g t h => Or.inl ⟨rfl, h⟩) hB hP
    · subst e; exact t_s0 hx hm hSY hA hG h30 (w := 7) (by omega) hw (by omega) (fun b g t h => Or.inr (Or.inl ⟨rfl, h⟩)) hB hP
    · subst e; exact t_s0 hx hm hSY hA hG h30 (w := 8) (by omega) hw (by omega) (fun b g t h => Or.inr (Or.inr (Or.inl ⟨rfl, h⟩))) hB hP
    · subst e; exact t_s0 hx hm hSY hA hG h30 (w := 9) (by omega) hw (by omega) (fun b g t h => Or.inr (Or.inr (Or.inr (Or.inl ⟨rfl, h⟩)))) hB hP
    · subst e; exact t_s0 hx hm hSY hA hG h30 (w := 10) (by omega) hw (by omega) (fun b g t h => Or.inr (Or.inr (Or.inr (Or.inr (Or.inr (Or.inl ⟨rfl, h⟩)))))) hB hP
    · subst e; exact t_s0 hx hm hSY hA hG h30 (w := 11) (by omega) hw (by omega) (fun b g t h => Or.inr (Or.inr (Or.inr (Or.inr (Or.inr (Or.inr (Or.inr (Or.inl ⟨rfl, h⟩)))))))) hB hP
    · subst e; exact t_s0 hx hm hSY hA hG h30 (w := 15) (by omega) hw (by omega) (fun b g t h => Or.inr (Or.inr (Or.inr (Or.inr (Or.inr (Or.inr (Or.inr (Or.inr ⟨rfl, h⟩)))))))) hB hP
theorem t_tstep (hx : z_lay X N σ 0 z_SF z_RF) (hm : z_lay Y K τ 0 z_SM z_RM) (hSX : z_St X N σ) (hSY : z_St Y K τ) (hA : kA gx) (hG : cG gx) (hE : (gx 10 4 = 1 ∧ kMt (gx 11) (gx 10 6) (gx 10 3) 14) → gx 9 6 = 0) (hP : sW Y K τ gx P) : z_O X 11 m_Pa_readStep [(2, 9), (2, ((45 : Nat) : Int))] N σ gx P := by
  obtain ⟨g1, g2, g3, g4, -⟩ := id hG
  have a3 : 0 ≤ gx 10 3 ∧ gx 10 3 ≤ gx 10 2 ∧ gx 10 2 ≤ 900 := by have := hA.1; have := hA.2.1; have := hA.2.2.1; have := hA.2.2.2.1; omega
  refine b_Pa_readStep_0 (p1 := 45) hx (ky_F_45 hx) (s_kindHere hx hSX hA fun r hr => ?_)
  rcases hr with ⟨r0, r1, hw⟩ | ⟨rm, hn⟩
  · refine ⟨fun _ => ⟨fun e => ?_, fun n8 => ⟨fun e => ?_, fun n9 => ?_⟩⟩, fun z => absurd r0 z⟩
    · subst e
      refine ⟨fun h30 => ⟨fun h3 => ?_, fun h3 => t_sf hm hSY hA hG (w := 12) (by unfold wN; omega) hw (Or.inr ⟨rfl, by omega, by omega, Or.inl rfl⟩) hP⟩, fun h30 => t_sf hm hSY hA hG (w := 12) (by unfold wN; omega) hw (Or.inl ⟨rfl, by omega⟩) hP⟩
      refine s_adv hx a3 fun gx1 f1 hA1 l1 hN1 => ?_
      have hB := sB_up f1 hA1 l1 hN1
      generalize z_up (z_up (z_up gx1 9 7 0) 9 8 0) 9 9 0 = gz at *
      have a7 := hA.2.2.2.2.2.2.1 (by rw [hw.1]; decide)
      have a13 := hA1.2.1
      have e3 : gz 10 3 = gx1 10 3 := hB.2.2.2.2 _ _ (by omega)
      refine t_test hx hm hSX hSY (hA1.c fun i _ _ => hB.2.2.2.2 _ _ (by omega)) (t := 2686 + 6 * gx 45 2) (by omega) fun r gx2 hr f2 q2 hM => fun _ => t_argO hx hm hSY hA hG h30 h3 (w := 12) (Or.inl rfl) hw hB hr f2 (fun z => ⟨(q2 z).1, by have := (q2 z).2; omega⟩) (fun gm1 ok n Q q => b_M_tourOrder_0 hm ⟨fun z => absurd z (by decide), fun z => absurd z (by decide), fun _ => hM gm1 ok _ fun gm2 b1 b2 b3 => fun _ => q gm2 b1 (fun z => Or.inl ⟨rfl, b2 z⟩) b3, fun z => absurd z (by decide), fun z => absurd rfl z.2.2.1⟩) hP
    · subst e
      refine ⟨fun h30 => ⟨fun h3 => ?_, fun h3 => t_sf hm hSY hA hG (w := 13) (by unfold wN; omega) hw (Or.inr ⟨rfl, by omega, by omega, Or.inr rfl⟩) hP⟩, fun h30 => t_sf hm hSY hA hG (w := 13) (by unfold wN; omega) hw (Or.inl ⟨rfl, by omega⟩) hP⟩
      refine s_adv hx a3 fun gx1 f1 hA1 l1 hN1 => ?_
      have hB := sB_up f1 hA1 l1 hN1
      generalize z_up (z_up (z_up gx1 9 7 0) 9 8 0) 9 9 0 = gz at *
      refine ⟨fun z => absurd z (by decide), fun z => absurd z (by decide), fun _ => ?_, fun z => absurd rfl z.2.2⟩
      exact t_s1 hx hm hA hG h30 hw.1 (w := 13) (u := 99) (Or.inr (Or.inr ⟨rfl, rfl⟩)) hB fun r2 gx2 hr f2 q2 hM => fun _ => t_argO hx hm hSY hA hG h30 h3 (w := 13) (Or.inr rfl) hw hB hr f2 q2 (fun gm1 ok n Q q => hM gm1 ok n Q fun gm2 b1 b2 b3 => q gm2 b1 (fun z => Or.inr ⟨rfl, b2 z⟩) b3) hP
    · have hs : wN (kw r) := by
        rcases (show r = 0 ∨ r = 1 ∨ r = 2 ∨ r = 3 ∨ r = 4 ∨ r = 5 ∨ r = 6 ∨ r = 7 ∨ r = 10 by omega) with e | e | e | e | e | e | e | e | e <;> (subst e; unfold wN; decide)
      refine ⟨fun h30 => ?_, fun h30 => t_sf hm hSY hA hG hs hw (Or.inl ⟨rfl, by omega⟩) hP⟩
      refine s_adv hx a3 fun gx1 f1 hA1 l1 hN1 => ?_
      obtain ⟨p1, p2, p3⟩ := t_sn hx hm hSY hA hG h30 ⟨r0, r1⟩ n8 n9 hw (sB_up f1 hA1 l1 hN1) hP
      exact ⟨p1, p2, fun z => absurd z n9, fun z => p3 z.1 z.2.1⟩
  · have bad : ∀ b, ((gx 10 4 = 4 → b = 1) ∧ (¬ gx 10 4 = 4 → b = 2)) → P 0 (z_up (z_up gx 10 9 b) 10 10 (gx 10 6)) := fun b hb => by
      refine hP 0 _ (Or.inl rfl) ((fC.rf.up (by omega)).up (by omega)).t.w (fun z => absurd z (by decide)) fun gm hg Q hq => ?_
      obtain ⟨ok, e46, e21, e20, -, -⟩ := id hg
      refine m_tx hm hSY hA ok.1 (by omega) (by omega) (fun w hs hw => ?_) (fun z => by rw [← e20]; exact hE z) (m_fails hm ok.2.2.2.1 fun gm' f1 f2 f3 => fun _ => hq gm' f1.u (Or.inr ⟨rfl, kBad_here ok f2 f3 (by rw [z_u2 (by omega), z_u1]) z_u1 hb (by omega)⟩))
      rcases (show w = 1 ∨ w = 3 ∨ w = 6 ∨ w = 7 ∨ w = 8 ∨ w = 9 ∨ w = 10 ∨ w = 11 ∨ w = 12 ∨ w = 13 ∨ w = 15 by omega) with e | e | e | e | e | e | e | e | e | e | e
      · subst e; exact hn 6 (by omega) (by omega) hw
      · subst e; exact hn 4 (by omega) (by omega) hw
      · subst e; exact hn 0 (by omega) (by omega) hw
      · subst e; exact hn 1 (by omega) (by omega) hw
      · subst e; exact hn 2 (by omega) (by omega) hw
      · subst e; exact hn 3 (by omega) (by omega) hw
      · subst e; exact hn 5 (by omega) (by omega) hw
      · subst e; exact hn 7 (by omega) (by omega) hw
      · subst e; exact hn 8 (by omega) (by omega) hw
      · subst e; exact hn 9 (by omega) (by omega) hw
      · subst e; exact hn 10 (by omega) (by omega) hw
    exact ⟨fun z => by exfalso; omega, fun _ => ⟨fun y => bad 1 ⟨fun _ => rfl, fun z => absurd y z⟩, fun y => bad 2 ⟨fun z => absurd z y, fun _ => rfl⟩⟩⟩
end Lock

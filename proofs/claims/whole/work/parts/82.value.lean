/-! ## NUMBER by NUMBER -/
section Lock
variable {X Y : z_X} {N K : Nat} {σ τ gx gm : z_G} {P Q : z_P}
theorem s_num (hx : z_lay X N σ 0 z_SF z_RF) (hA : kA gx) {l u : Int} (bad : ∀ a, ((a = 2 ∧ ¬ gx 10 4 = 2) ∨ (a = 4 ∧ gx 10 4 = 2 ∧ (gx 10 5 < l ∨ u < gx 10 5))) → ∀ b, ((gx 10 4 = 4 → b = 1) ∧ (¬ gx 10 4 = 4 → b = a)) → P 0 (z_up (z_up gx 10 9 b) 10 10 (gx 10 6))) (good : gx 10 4 = 2 → l ≤ gx 10 5 → gx 10 5 ≤ u → ∀ gx', fC gx gx' → kA gx' → gx 10 3 ≤ gx' 10 6 → gx' 10 7 = gx 10 5 → gx' 10 8 = gx 10 6 → gx' 10 9 = gx 10 9 → gx' 10 10 = gx 10 10 → (∀ gm, kS gx gm → kN gx' gm) → P 1 gx') : z_O X 3 m_Ta_passNumber [(2, 10), (0, l), (0, u)] N σ gx P := by
  obtain ⟨a1, a2, a3, a4, a5, a6, a7, a8⟩ := hA
  refine b_Ta_passNumber_0 hx ⟨fun k2 => ⟨fun z => bad 4 (by omega) 4 (by omega), fun z => ⟨fun z2 => ?_, fun z2 => bad 4 (by omega) 4 (by omega)⟩⟩, fun k2 => ⟨fun z => bad 2 (by omega) 1 (by omega), fun z => bad 2 (by omega) 2 (by omega)⟩⟩
  have u3 : z_up (z_up gx 10 7 (gx 10 5)) 10 8 (gx 10 6) 10 3 = gx 10 3 := by rw [z_u2 (by omega), z_u2 (by omega)]
  have u2 : z_up (z_up gx 10 7 (gx 10 5)) 10 8 (gx 10 6) 10 2 = gx 10 2 := by rw [z_u2 (by omega), z_u2 (by omega)]
  have uo : ∀ c i, ¬ (c = 10 ∧ (i = 7 ∨ i = 8)) → z_up (z_up gx 10 7 (gx 10 5)) 10 8 (gx 10 6) c i = gx c i := fun c i hc => by rw [z_u2 (by omega), z_u2 (by omega)]
  refine s_adv hx (by omega) fun gx' hf hA' hl hN => ?_
  exact good k2 (by omega) z2 gx' (fun c i hc => by rw [hf c i (by omega)]; exact uo c i (by omega)) hA' (by omega) (by rw [hf _ _ (by omega), z_u2 (by omega), z_u1]) (by rw [hf _ _ (by omega), z_u1]) (by rw [hf _ _ (by omega), uo _ _ (by omega)]) (by rw [hf _ _ (by omega), uo _ _ (by omega)]) fun gm hk => hN gm (by rw [u2]; exact hk.1) (fun i i1 i2 => by rw [uo _ _ (by omega)]; exact hk.2.1 i i1 i2) (by rw [u3]; exact hk.2.2.2.1)
def fV (gm gm' : z_G) (t : Int) : Prop := ∀ c i, ¬ (c = 1 ∧ (i = t ∨ i = t + 1)) → ¬ (c = 0 ∧ (11 ≤ i ∧ i ≤ 14 ∨ i = 16 ∨ i = 17)) → gm' c i = gm c i
def vK (gm gm' : z_G) (t : Int) : Prop := (gm' 1 t = gm 1 t ∨ (0 ≤ gm' 1 t ∧ gm' 1 t ≤ 9999)) ∧ gm' 1 (t + 1) = gm 1 (t + 1)
theorem fD.v {gm gm1 gm2 : z_G} {t : Int} (h : fV gm gm1 t) (h' : fD gm1 gm2) : fV gm gm2 t := fun c i c1 c2 => (h' c i c2).trans (h c i c1 c2)
theorem t_val (hx : z_lay X N σ 0 z_SF z_RF) (hm : z_lay Y K τ 0 z_SM z_RM) (hSX : z_St X N σ) (hSY : z_St Y K τ) (hA : kA gx) {t oT : Int} (ht : 0 ≤ t ∧ t < 3295) (hP : ∀ r gx' T B, (r = 0 ∨ r = 1) → (∀ c i, ¬ (c = 10 ∧ 3 ≤ i ∧ i ≤ 10) → c ≠ 12 → c ≠ 13 → gx' c i = gx c i) → (r = 1 → kA gx' ∧ gx 10 3 ≤ gx' 10 6 ∧ 0 ≤ T ∧ T ≤ B ∧ 1 ≤ B ∧ B ≤ 9999 ∧ cCh gx' 12 T B)
    → (∀ gm, kOK gx gm → ∀ Q : z_P, (r = 0 → ∀ gm', fV gm gm' t → vK gm gm' t → kBad gx' gm' → Q 0 gm') → (r = 1 → oT = 0 ∨ (0 < T ∧ T < B) → ∀ gm', fV gm gm' t → gm' 1 t = T / Int.gcd T B → gm' 1 (t + 1) = B / Int.gcd T B → kN gx' gm' → gm' 0 12 = gx' 10 8 → gm' 0 11 = 3 → gm' 0 17 = 0 → gm' 0 16 = -1 → gx' 10 9 = 0 → gx' 10 10 = -1 → Q 1 gm') → (r = 1 → ¬ oT = 0 → ¬ (0 < T ∧ T < B) → ∀ gm', fV gm gm' t → vK gm gm' t → gm' 0 17 = 4 → gm' 0 16 = gx' 10 8 → Q 0 gm') → z_O Y 9 m_M_valueTo [(2, 0), (0, t), (0, oT)] K τ gm Q) → P r gx') : z_O X 9 m_Pa_readValue [(2, 9)] N σ gx P := by
  refine b_Pa_readValue_0 hx (t_num hx hm hA (t := t) (by omega) fun r gx1 hr f1 g1 hM1 => fun _ => ⟨fun r0 => ?_, fun r0 => ?_⟩)
  · refine hP 0 gx1 0 0 (Or.inl rfl) (fun c i c1 c2 c3 => f1 c i c1) (fun z => by exfalso; omega) fun gm hk Q q0 q1 q2 => b_M_valueTo_0 hm (hM1 gm hk _ fun gm1 h1 h2 h3 => fun _ => ⟨fun _ => ?_, fun z => absurd r0 z⟩)
    rcases h3 with y | y
    · exfalso; omega
    · exact q0 rfl gm1 (fun c i c1 c2 => h1 c i (by omega) c2) ⟨Or.inl (h2.2 r0), h1 1 (t + 1) (by omega) (by omega)⟩ y.2
  have r1 : r = 1 := by omega
  subst r1
  obtain ⟨hA1, l1, k2, e7, e8, b1, b2, b3, b4⟩ := g1 rfl
  have R2 : ∀ gm, kOK gx gm → ∀ Q : z_P, (∀ gm1, fV gm gm1 t → gm1 1 (t + 1) = gm 1 (t + 1) → gm1 1 t = gx1 10 7 → kOK gx1 gm1 → z_O Y 8 m_M_wantWord [(2, 0), (0, 4)] K τ gm1 (fun r1 g1 => (r1 = 0 ∨ r1 = 1) → (((r1 = 0) → Q 0 g1) ∧ (¬ (r1 = 0) → ((((g1 0 11) = 3) → ((((g1 0 14) = 0) → (z_O Y 1 m_M_fails [(2, 0), (0, 4)] K τ g1 (fun r2 g2 => (r2 = 0 ∨ r2 = 1) → Q r2 g2))) ∧ (¬ ((g1 0 14) = 0) → ((0 ≤ t ∧ t < 3296) ∧ ((((g1 0 14) < (g1 1 t)) → (z_O Y 1 m_M_fails [(2, 0), (0, 4)] K τ g1 (fun r3 g3 => (r3 = 0 ∨ r3 = 1) → Q r3 g3))) ∧ (¬ ((g1 0 14) < (g1 1 t)) → (((oT = 0) → (z_O Y 1 m_M_common [(0, g1 1 t), (0, g1 0 14)] K τ g1 (fun r4 g4 => ((0 < r4) ∧ ((-2147483648 ≤ (t + 1) ∧ (t + 1) ≤ 2147483647) ∧ ((0 ≤ (t + 1) ∧ (t + 1) < 3296) ∧ Q 1 (z_up (z_up g4 1 t (Int.tdiv (g4 1 t) r4)) 1 (t + 1) (Int.tdiv (g4 0 14) r4)))))))) ∧ (¬ (oT = 0) → ((((g1 1 t) = 0) → (z_O Y 1 m_M_fails [(2, 0), (0, 4)] K τ g1 (fun r5 g5 => (r5 = 0 ∨ r5 = 1) → Q r5 g5))) ∧ (¬ ((g1 1 t) = 0) → ((((g1 1 t) = (g1 0 14)) → (z_O Y 1 m_M_fails [(2, 0), (0, 4)] K τ g1 (fun r7 g7 => (r7 = 0 ∨ r7 = 1) → Q r7 g7))) ∧ (¬ ((g1 1 t) = (g1 0 14)) → (z_O Y 1 m_M_common [(0, g1 1 t), (0, g1 0 14)] K τ g1 (fun r6 g6 => ((0 < r6) ∧ ((-2147483648 ≤ (t + 1) ∧ (t + 1) ≤ 2147483647) ∧ ((0 ≤ (t + 1) ∧ (t + 1) < 3296) ∧ Q 1 (z_up (z_up g6 1 t (Int.tdiv (g6 1 t) r6)) 1 (t + 1) (Int.tdiv (g6 0 14) r6))))))))))))))))))) ∧ (¬ ((g1 0 11) = 3) → (z_O Y 1 m_M_fails [(2, 0), (0, 2)] K τ g1 (fun r8 g8 => (r8 = 0 ∨ r8 = 1) → Q r8 g8)))))))) → z_O Y 9 m_M_valueTo [(2, 0), (0, t), (0, oT)] K τ gm Q := fun gm hk Q q => b_M_valueTo_0 hm (hM1 gm hk _ fun gm1 h1 h2 h3 => fun _ => ⟨fun z => by omega, fun _ => by
    rcases h3 with y | y
    · exact q gm1 (fun c i c1 c2 => h1 c i (by omega) c2) (h1 1 (t + 1) (by omega) (by omega)) (h2.1 rfl) y.2
    · exfalso; omega⟩)
  refine t_by hx hm hSX hSY hA1 fun r gx2 hr f2 g2 hM2 => fun _ => ⟨fun r0 => ?_, fun r0 => ?_⟩
  · refine hP 0 gx2 0 0 (Or.inl rfl) (fun c i c1 c2 c3 => by rw [f2 c i c1]; exact f1 c i c1) (fun z => by exfalso; omega) fun gm hk Q q0 q1 q2 => R2 gm hk Q fun gm1 v1 v0 v2 v3 => hM2 gm1 v3 _ fun gm2 h1 h3 => fun _ => ⟨fun _ => ?_, fun z => absurd r0 z⟩
    rcases h3 with y | y
    · exfalso; omega
    · exact q0 rfl gm2 (fD.v v1 h1) ⟨Or.inr (by rw [h1 1 t (by omega), v2]; omega), (h1 1 (t + 1) (by omega)).trans v0⟩ y.2
  have r1 : r = 1 := by omega
  subst r1
  obtain ⟨hA2, l2, e27⟩ := g2 rfl
  have last : ∀ l : Int, (l = 1 ∧ gx1 10 7 ≤ 1) ∨ (l = gx1 10 7 ∧ 1 < gx1 10 7) → z_O X 3 m_Ta_passNumber [(2, 10), (0, l), (0, 9999)] N σ gx2 (fun r2 g2 => (r2 = 0 ∨ r2 = 1) → (((r2 = 0) → P 0 g2) ∧ (¬ (r2 = 0) → (z_O X 2 m_Ch_unfold [(2, 12), (0, gx1 10 7), (0, g2 10 7)] N σ g2 (fun r3 g3 => P 1 g3))))) := by
    intro l hl
    refine s_num hx hA2 (fun a ha b hb => fun _ => ⟨fun _ => ?_, fun z => absurd rfl z⟩) (fun k2' lo hi gx3 f3 hA3 l3 e37 e38 e39 e310 hN => fun _ => ⟨fun z => by exfalso; omega, fun _ => ?_⟩)
    · refine hP 0 _ 0 0 (Or.inl rfl) (fun c i c1 c2 c3 => by rw [z_u2 (by omega), z_u2 (by omega), f2 c i c1]; exact f1 c i c1) (fun z => by exfalso; omega) fun gm hk Q q0 q1 q2 => R2 gm hk Q fun gm1 v1 v0 v2 v3 => hM2 gm1 v3 _ fun gm2 h1 h3 => fun _ => ⟨fun z => by exfalso; omega, fun _ => ?_⟩
      have ok2 : kOK gx2 gm2 := by
        rcases h3 with y | y
        · exact y.2
        · exfalso; omega
      have w2 : gm2 1 t = gx1 10 7 := by rw [h1 1 t (by omega)]; exact v2
      have ff : ∀ gm', fD gm2 gm' → gm' 0 17 = (if gm2 0 11 = 1 then 1 else a) → gm' 0 16 = gm2 0 12 → Q 0 gm' := fun gm' j1 j2 j3 => q0 rfl gm' (fD.v (fD.v v1 h1) j1) ⟨Or.inr (by rw [j1 1 t (by omega), w2]; omega), (j1 1 (t + 1) (by omega)).trans ((h1 1 (t + 1) (by omega)).trans v0)⟩ (kBad_here ok2 j2 j3 (by rw [z_u2 (by omega), z_u1]) z_u1 hb (by omega))
      have k5 := ok2.1.2.2.2.2.1
      have k6 := ok2.1.2.2.2.2.2.1
      have k10 := ok2.2.2.2.1
      unfold kC at k5
      refine ⟨fun z => ?_, fun z => ?_⟩
      · rcases ha with y | y
        · exfalso; omega
        · have := k6 y.2.1
          have hA25 := hA2.2.2.2.2.2.1 y.2.1
          rw [y.1] at ff
          exact ⟨fun _ => m_fails hm k10 fun gm' j1 j2 j3 => fun _ => ff gm' j1 j2 j3, fun w => ⟨by omega, fun _ => m_fails hm k10 fun gm' j1 j2 j3 => fun _ => ff gm' j1 j2 j3, fun w2 => by exfalso; omega⟩⟩
      · rcases ha with y | y
        · rw [y.1] at ff
          exact m_fails hm k10 fun gm' j1 j2 j3 => fun _ => ff gm' j1 j2 j3
        · exfalso; omega
    · have hA25 := hA2.2.2.2.2.2.1 k2'
      refine s_Ch_unfold (o := 12) (ky_F_12 hx) (by omega) (by omega) fun gx4 hc f4 => ?_
      have fx : ∀ c i, c ≠ 12 → c ≠ 13 → gx4 c i = gx3 c i := fun c i c1 c2 => f4 c i c1 c2
      have hA4 : kA gx4 := by
        unfold kA
        rw [fx 10 6 (by omega) (by omega), fx 10 3 (by omega) (by omega), fx 10 2 (by omega) (by omega), fx 10 4 (by omega) (by omega), fx 10 5 (by omega) (by omega)]
        exact hA3
      have a23 := hA2.2.1
      have a13 := hA1.2.1
      refine hP 1 gx4 (gx1 10 7) (gx3 10 7) (Or.inr rfl) (fun c i c1 c2 c3 => by rw [fx c i c2 c3, f3 c i c1, f2 c i c1]; exact f1 c i c1) (fun _ => ⟨hA4, by rw [fx 10 6 (by omega) (by omega)]; omega, by omega, by omega, by omega, by omega, hc⟩) fun gm hk Q q0 q1 q2 => R2 gm hk Q fun gm1 v1 v0 v2 v3 => hM2 gm1 v3 _ fun gm2 h1 h3 => fun _ => ⟨fun z => by exfalso; omega, fun _ => ?_⟩
      have ok2 : kOK gx2 gm2 := by
        rcases h3 with y | y
        · exact y.2
        · exfalso; omega
      have w2 : gm2 1 t = gx1 10 7 := by rw [h1 1 t (by omega)]; exact v2
      have k5 := ok2.1.2.2.2.2.1
      have k6 := ok2.1.2.2.2.2.2.1 k2'
      have k10 := ok2.2.2.2.1
      have k3 := ok2.1.2.2.1
      unfold kC at k5
      have eB : gm2 0 14 = gx3 10 7 := by omega
      have eN : kN gx4 gm2 := by
        have := hN gm2 ok2.1
        unfold kN at this ⊢
        rw [fx 10 6 (by omega) (by omega), fx 10 3 (by omega) (by omega), fx 10 2 (by omega) (by omega), fx 10 4 (by omega) (by omega), fx 10 5 (by omega) (by omega), show gx4 11 = gx3 11 from funext fun i => fx 11 i (by omega) (by omega)]
        exact this
      have e48 : gx4 10 8 = gm2 0 12 := by rw [fx 10 8 (by omega) (by omega), e38]; exact k3
      have gp : 0 < (Int.gcd (gm2 1 t) (gm2 0 14) : Int) := by
        have : Int.gcd (gm2 1 t) (gm2 0 14) ≠ 0 := fun z => by rw [Int.gcd_eq_zero_iff] at z; omega
        omega
      have good : (oT = 0 ∨ (0 < gx1 10 7 ∧ gx1 10 7 < gx3 10 7)) → Q 1 (z_up (z_up gm2 1 t (Int.tdiv (gm2 1 t) (Int.gcd (gm2 1 t) (gm2 0 14)))) 1 (t + 1) (Int.tdiv (gm2 0 14) (Int.gcd (gm2 1 t) (gm2 0 14)))) := fun z => by
        have uo : ∀ c i, ¬ (c = 1 ∧ (i = t ∨ i = t + 1)) → z_up (z_up gm2 1 t (Int.tdiv (gm2 1 t) (Int.gcd (gm2 1 t) (gm2 0 14)))) 1 (t + 1) (Int.tdiv (gm2 0 14) (Int.gcd (gm2 1 t) (gm2 0 14))) c i = gm2 c i := fun c i hc => by rw [z_u2 (by omega), z_u2 (by omega)]
        refine q1 rfl z _ (fun c i c1 c2 => by rw [uo c i c1, h1 c i c2]; exact v1 c i c1 c2) ?_ ?_ ?_ ?_ ?_ ?_ ?_ (by rw [fx 10 9 (by omega) (by omega), e39]; exact ok2.2.1) (by rw [fx 10 10 (by omega) (by omega), e310]; exact ok2.2.2.1)
        · rw [z_u2 (by omega), z_u1, Int.tdiv_eq_ediv_of_nonneg (by omega), w2, eB]
        · rw [z_u1, Int.tdiv_eq_ediv_of_nonneg (by omega), w2, eB]
        · unfold kN at eN ⊢
          rw [uo 0 10 (by omega), uo 0 13 (by omega)]
          exact ⟨eN.1, fun i i1 i2 => by rw [uo 6 i (by omega)]; exact eN.2.1 i i1 i2, eN.2.2⟩
        · rw [uo 0 12 (by omega)]; exact e48.symm
        · rw [uo 0 11 (by omega)]; omega
        · rw [uo 0 17 (by omega)]; exact k10
        · rw [uo 0 16 (by omega)]; exact ok2.2.2.2.2
      have fail : ¬ oT = 0 → ¬ (0 < gx1 10 7 ∧ gx1 10 7 < gx3 10 7) → z_O Y 1 m_M_fails [(2, 0), (0, 4)] K τ gm2 (fun r5 g5 => (r5 = 0 ∨ r5 = 1) → Q r5 g5) := fun z1 z2 => m_fails hm k10 fun gm' j1 j2 j3 => fun _ => q2 rfl z1 z2 gm' (fD.v (fD.v v1 h1) j1) ⟨Or.inr (by rw [j1 1 t (by omega), w2]; omega), (j1 1 (t + 1) (by omega)).trans ((h1 1 (t + 1) (by omega)).trans v0)⟩ (by rw [j2, if_neg (by omega)]) (by rw [j3, e48])
      refine ⟨fun _ => ⟨fun z => by exfalso; omega, fun _ => ⟨by omega, fun z => by exfalso; omega, fun _ => ⟨fun z => s_M_common (by omega) (by omega) ⟨gp, by omega, by omega, good (Or.inl z)⟩, fun z => ⟨fun z2 => fail z (by omega), fun z2 => ⟨fun z3 => fail z (by omega), fun z3 => s_M_common (by omega) (by omega) ⟨gp, by omega, by omega, good (Or.inr (by omega))⟩⟩⟩⟩⟩⟩, fun z => by exfalso; omega⟩
  refine ⟨fun z => last _ (by omega), fun z => last _ (by omega)⟩
end Lock

theorem d_M_wrongGame_0 : decode (z_c m_M_wrongGame) 0 = .ok (.iload_n 1, 1) := by decide +kernel
theorem d_M_wrongGame_1 : decode (z_c m_M_wrongGame) 1 = .ok (.iload_n 2, 1) := by decide +kernel
theorem d_M_wrongGame_2 : decode (z_c m_M_wrongGame) 2 = .ok (.invokestatic 272, 3) := by decide +kernel
theorem d_M_wrongGame_5 : decode (z_c m_M_wrongGame) 5 = .ok (.ifCond .eq 17, 3) := by decide +kernel
theorem d_M_wrongGame_8 : decode (z_c m_M_wrongGame) 8 = .ok (.iload_n 3, 1) := by decide +kernel
theorem d_M_wrongGame_9 : decode (z_c m_M_wrongGame) 9 = .ok (.i2l, 1) := by decide +kernel
theorem d_M_wrongGame_10 : decode (z_c m_M_wrongGame) 10 = .ok (.iload 4, 2) := by decide +kernel
theorem d_M_wrongGame_12 : decode (z_c m_M_wrongGame) 12 = .ok (.i2l, 1) := by decide +kernel
theorem d_M_wrongGame_13 : decode (z_c m_M_wrongGame) 13 = .ok (.ldc2_w 381, 3) := by decide +kernel
theorem d_M_wrongGame_16 : decode (z_c m_M_wrongGame) 16 = .ok (.invokestatic 265, 3) := by decide +kernel
theorem d_M_wrongGame_19 : decode (z_c m_M_wrongGame) 19 = .ok (.ifCond .ne 7, 3) := by decide +kernel
theorem d_M_wrongGame_22 : decode (z_c m_M_wrongGame) 22 = .ok (.iconst 1, 1) := by decide +kernel
theorem d_M_wrongGame_23 : decode (z_c m_M_wrongGame) 23 = .ok (.goto 17, 3) := by decide +kernel
theorem d_M_wrongGame_26 : decode (z_c m_M_wrongGame) 26 = .ok (.iload_n 1, 1) := by decide +kernel
theorem d_M_wrongGame_27 : decode (z_c m_M_wrongGame) 27 = .ok (.iload_n 2, 1) := by decide +kernel
theorem d_M_wrongGame_28 : decode (z_c m_M_wrongGame) 28 = .ok (.invokestatic 297, 3) := by decide +kernel
theorem d_M_wrongGame_31 : decode (z_c m_M_wrongGame) 31 = .ok (.ifCond .eq 7, 3) := by decide +kernel
theorem d_M_wrongGame_34 : decode (z_c m_M_wrongGame) 34 = .ok (.iconst 0, 1) := by decide +kernel
theorem d_M_wrongGame_35 : decode (z_c m_M_wrongGame) 35 = .ok (.goto 5, 3) := by decide +kernel
theorem d_M_wrongGame_38 : decode (z_c m_M_wrongGame) 38 = .ok (.bipush 7, 2) := by decide +kernel
theorem d_M_wrongGame_40 : decode (z_c m_M_wrongGame) 40 = .ok (.ireturn, 1) := by decide +kernel
set_option maxRecDepth 8000 in
theorem b_M_wrongGame_0 {X : z_X} {N : Nat} {σ g : z_G} {Q : z_P} {a1 a2 a3 a4 : Int} (hx : z_lay X N σ 0 z_SM z_RM) (h : ((a2 < 1) → Q 1 g) ∧ (¬ (a2 < 1) → (((9999 < a2) → Q 1 g) ∧ (¬ (9999 < a2) → (((a1 < 0) → Q 1 g) ∧ (¬ (a1 < 0) → (((a2 < a1) → Q 1 g) ∧ (¬ (a2 < a1) → (((a3 < a4) → Q 1 g) ∧ (¬ (a3 < a4) → (((10 < a3) → Q 1 g) ∧ (¬ (10 < a3) → (((a1 ≤ 0) → Q 7 g) ∧ (¬ (a1 ≤ 0) → (((a2 ≤ a1) → Q 7 g) ∧ (¬ (a2 ≤ a1) → Q 0 g)))))))))))))))) : z_O X 2 m_M_wrongGame [(2, 0), (0, a1), (0, a2), (0, a3), (0, a4)] N σ g Q := by
  refine z_Oenter mi_M_wrongGame rfl (fun _ => ?_)
  show z_U X 2 m_M_wrongGame 0 [(0, (2, 0)), (1, (0, a1)), (2, (0, a2)), (3, (0, a3)), (4, (0, a4))] [] N σ g Q
  refine z_iload_n (i := 1) 1 d_M_wrongGame_0 rfl rfl ?_
  refine z_iload_n (i := 2) 2 d_M_wrongGame_1 rfl rfl ?_
  refine z_cS (as := [(0, a1), (0, a2)]) (d' := 1) (st := []) d_M_wrongGame_2 mi_M_isValue ml_M_272 ms_M_isValue rfl rfl rfl rfl rfl (b_M_isValue_0  ?_)
  refine ⟨fun c1 => ?_, fun c1 => ?_⟩
  · have h := h.1 c1
    intro _
    show z_U X 2 m_M_wrongGame 5 [(0, (2, 0)), (1, (0, a1)), (2, (0, a2)), (3, (0, a3)), (4, (0, a4))] [(0, 0)] N σ g Q
    refine z_if_eq (tgt := 22) d_M_wrongGame_5 (by decide) (fun _ => ?_) (fun c => absurd (by decide) c)
    refine z_iconst (n := 1) d_M_wrongGame_22 (by decide) ?_
    refine z_goto (tgt := 40) d_M_wrongGame_23 (by decide) ?_
    exact z_iret d_M_wrongGame_40 rfl (by decide) (by decide) ⟨rfl, rfl, h⟩
  · have h := h.2 c1
    refine ⟨fun c2 => ?_, fun c2 => ?_⟩
    · have h := h.1 c2
      intro _
      show z_U X 2 m_M_wrongGame 5 [(0, (2, 0)), (1, (0, a1)), (2, (0, a2)), (3, (0, a3)), (4, (0, a4))] [(0, 0)] N σ g Q
      refine z_if_eq (tgt := 22) d_M_wrongGame_5 (by decide) (fun _ => ?_) (fun c => absurd (by decide) c)
      refine z_iconst (n := 1) d_M_wrongGame_22 (by decide) ?_
      refine z_goto (tgt := 40) d_M_wrongGame_23 (by decide) ?_
      exact z_iret d_M_wrongGame_40 rfl (by decide) (by decide) ⟨rfl, rfl, h⟩
    · have h := h.2 c2
      refine ⟨fun c3 => ?_, fun c3 => ?_⟩
      · have h := h.1 c3
        intro _
        show z_U X 2 m_M_wrongGame 5 [(0, (2, 0)), (1, (0, a1)), (2, (0, a2)), (3, (0, a3)), (4, (0, a4))] [(0, 0)] N σ g Q
        refine z_if_eq (tgt := 22) d_M_wrongGame_5 (by decide) (fun _ => ?_) (fun c => absurd (by decide) c)
        refine z_iconst (n := 1) d_M_wrongGame_22 (by decide) ?_
        refine z_goto (tgt := 40) d_M_wrongGame_23 (by decide) ?_
        exact z_iret d_M_wrongGame_40 rfl (by decide) (by decide) ⟨rfl, rfl, h⟩
      · have h := h.2 c3
        refine ⟨fun c4 => ?_, fun c4 => ?_⟩
        · have h := h.1 c4
          intro _
          show z_U X 2 m_M_wrongGame 5 [(0, (2, 0)), (1, (0, a1)), (2, (0, a2)), (3, (0, a3)), (4, (0, a4))] [(0, 0)] N σ g Q
          refine z_if_eq (tgt := 22) d_M_wrongGame_5 (by decide) (fun _ => ?_) (fun c => absurd (by decide) c)
          refine z_iconst (n := 1) d_M_wrongGame_22 (by decide) ?_
          refine z_goto (tgt := 40) d_M_wrongGame_23 (by decide) ?_
          exact z_iret d_M_wrongGame_40 rfl (by decide) (by decide) ⟨rfl, rfl, h⟩
        · have h := h.2 c4
          intro _
          show z_U X 2 m_M_wrongGame 5 [(0, (2, 0)), (1, (0, a1)), (2, (0, a2)), (3, (0, a3)), (4, (0, a4))] [(0, 1)] N σ g Q
          refine z_if_eq (tgt := 22) d_M_wrongGame_5 (by decide) (fun c => absurd c (by decide)) (fun _ => ?_)
          refine z_iload_n (i := 3) 3 d_M_wrongGame_8 rfl rfl ?_
          refine z_i2l d_M_wrongGame_9 ?_
          refine z_iload 4 d_M_wrongGame_10 rfl ?_
          refine z_i2l d_M_wrongGame_12 ?_
          refine z_ldc2 (v := 10) d_M_wrongGame_13 kc_M_381 (by decide) ?_
          refine z_cS (as := [(1, a3), (1, a4), (1, 10)]) (d' := 1) (st := []) d_M_wrongGame_16 mi_M_isFrom ml_M_265 ms_M_isFrom rfl rfl rfl rfl rfl (b_M_isFrom_0  ?_)
          refine ⟨fun c5 => ?_, fun c5 => ?_⟩
          · have h := h.1 c5
            intro _
            show z_U X 2 m_M_wrongGame 19 [(0, (2, 0)), (1, (0, a1)), (2, (0, a2)), (3, (0, a3)), (4, (0, a4))] [(0, 0)] N σ g Q
            refine z_if_ne (tgt := 26) d_M_wrongGame_19 (by decide) (fun c => absurd (by decide) c) (fun _ => ?_)
            refine z_iconst (n := 1) d_M_wrongGame_22 (by decide) ?_
            refine z_goto (tgt := 40) d_M_wrongGame_23 (by decide) ?_
            exact z_iret d_M_wrongGame_40 rfl (by decide) (by decide) ⟨rfl, rfl, h⟩
          · have h := h.2 c5
            refine ⟨fun c6 => ?_, fun c6 => ?_⟩
            · have h := h.1 c6
              intro _
              show z_U X 2 m_M_wrongGame 19 [(0, (2, 0)), (1, (0, a1)), (2, (0, a2)), (3, (0, a3)), (4, (0, a4))] [(0, 0)] N σ g Q
              refine z_if_ne (tgt := 26) d_M_wrongGame_19 (by decide) (fun c => absurd (by decide) c) (fun _ => ?_)
              refine z_iconst (n := 1) d_M_wrongGame_22 (by decide) ?_
              refine z_goto (tgt := 40) d_M_wrongGame_23 (by decide) ?_
              exact z_iret d_M_wrongGame_40 rfl (by decide) (by decide) ⟨rfl, rfl, h⟩
            · have h := h.2 c6
              intro _
              show z_U X 2 m_M_wrongGame 19 [(0, (2, 0)), (1, (0, a1)), (2, (0, a2)), (3, (0, a3)), (4, (0, a4))] [(0, 1)] N σ g Q
              refine z_if_ne (tgt := 26) d_M_wrongGame_19 (by decide) (fun _ => ?_) (fun c => absurd c (by decide))
              refine z_iload_n (i := 1) 1 d_M_wrongGame_26 rfl rfl ?_
              refine z_iload_n (i := 2) 2 d_M_wrongGame_27 rfl rfl ?_
              refine z_cS (as := [(0, a1), (0, a2)]) (d' := 1) (st := []) d_M_wrongGame_28 mi_M_isOfTree ml_M_297 ms_M_isOfTree rfl rfl rfl rfl rfl (b_M_isOfTree_0  ?_)
              refine ⟨fun c7 => ?_, fun c7 => ?_⟩
              · have h := h.1 c7
                intro _
                show z_U X 2 m_M_wrongGame 31 [(0, (2, 0)), (1, (0, a1)), (2, (0, a2)), (3, (0, a3)), (4, (0, a4))] [(0, 0)] N σ g Q
                refine z_if_eq (tgt := 38) d_M_wrongGame_31 (by decide) (fun _ => ?_) (fun c => absurd (by decide) c)
                refine z_bipush (n := 7) d_M_wrongGame_38 (by decide) (by decide) ?_
                exact z_iret d_M_wrongGame_40 rfl (by decide) (by decide) ⟨rfl, rfl, h⟩
              · have h := h.2 c7
                refine ⟨fun c8 => ?_, fun c8 => ?_⟩
                · have h := h.1 c8
                  intro _
                  show z_U X 2 m_M_wrongGame 31 [(0, (2, 0)), (1, (0, a1)), (2, (0, a2)), (3, (0, a3)), (4, (0, a4))] [(0, 0)] N σ g Q
                  refine z_if_eq (tgt := 38) d_M_wrongGame_31 (by decide) (fun _ => ?_) (fun c => absurd (by decide) c)
                  refine z_bipush (n := 7) d_M_wrongGame_38 (by decide) (by decide) ?_
                  exact z_iret d_M_wrongGame_40 rfl (by decide) (by decide) ⟨rfl, rfl, h⟩
                · have h := h.2 c8
                  intro _
                  show z_U X 2 m_M_wrongGame 31 [(0, (2, 0)), (1, (0, a1)), (2, (0, a2)), (3, (0, a3)), (4, (0, a4))] [(0, 1)] N σ g Q
                  refine z_if_eq (tgt := 38) d_M_wrongGame_31 (by decide) (fun c => absurd c (by decide)) (fun _ => ?_)
                  refine z_iconst (n := 0) d_M_wrongGame_34 (by decide) ?_
                  refine z_goto (tgt := 40) d_M_wrongGame_35 (by decide) ?_
                  exact z_iret d_M_wrongGame_40 rfl (by decide) (by decide) ⟨rfl, rfl, h⟩
theorem d_M_wrongPlace_0 : decode (z_c m_M_wrongPlace) 0 = .ok (.iload_n 1, 1) := by decide +kernel
theorem d_M_wrongPlace_1 : decode (z_c m_M_wrongPlace) 1 = .ok (.invokestatic 98, 3) := by decide +kernel
theorem d_M_wrongPlace_4 : decode (z_c m_M_wrongPlace) 4 = .ok (.ifCond .ne 7, 3) := by decide +kernel
theorem d_M_wrongPlace_7 : decode (z_c m_M_wrongPlace) 7 = .ok (.iconst 1, 1) := by decide +kernel
theorem d_M_wrongPlace_8 : decode (z_c m_M_wrongPlace) 8 = .ok (.goto 36, 3) := by decide +kernel
theorem d_M_wrongPlace_11 : decode (z_c m_M_wrongPlace) 11 = .ok (.aload_n 0, 1) := by decide +kernel
theorem d_M_wrongPlace_12 : decode (z_c m_M_wrongPlace) 12 = .ok (.getfield 20, 3) := by decide +kernel
theorem d_M_wrongPlace_15 : decode (z_c m_M_wrongPlace) 15 = .ok (.iload_n 1, 1) := by decide +kernel
theorem d_M_wrongPlace_16 : decode (z_c m_M_wrongPlace) 16 = .ok (.iaload, 1) := by decide +kernel
theorem d_M_wrongPlace_17 : decode (z_c m_M_wrongPlace) 17 = .ok (.iconst (-1), 1) := by decide +kernel
theorem d_M_wrongPlace_18 : decode (z_c m_M_wrongPlace) 18 = .ok (.if_icmp .ne 7, 3) := by decide +kernel
theorem d_M_wrongPlace_21 : decode (z_c m_M_wrongPlace) 21 = .ok (.iconst 2, 1) := by decide +kernel
theorem d_M_wrongPlace_22 : decode (z_c m_M_wrongPlace) 22 = .ok (.goto 22, 3) := by decide +kernel
theorem d_M_wrongPlace_25 : decode (z_c m_M_wrongPlace) 25 = .ok (.iload_n 2, 1) := by decide +kernel
theorem d_M_wrongPlace_26 : decode (z_c m_M_wrongPlace) 26 = .ok (.ifCond .lt 13, 3) := by decide +kernel
theorem d_M_wrongPlace_29 : decode (z_c m_M_wrongPlace) 29 = .ok (.iload_n 2, 1) := by decide +kernel
theorem d_M_wrongPlace_30 : decode (z_c m_M_wrongPlace) 30 = .ok (.aload_n 0, 1) := by decide +kernel
theorem d_M_wrongPlace_31 : decode (z_c m_M_wrongPlace) 31 = .ok (.getfield 20, 3) := by decide +kernel
theorem d_M_wrongPlace_34 : decode (z_c m_M_wrongPlace) 34 = .ok (.iload_n 1, 1) := by decide +kernel
theorem d_M_wrongPlace_35 : decode (z_c m_M_wrongPlace) 35 = .ok (.iaload, 1) := by decide +kernel
theorem d_M_wrongPlace_36 : decode (z_c m_M_wrongPlace) 36 = .ok (.if_icmp .lt 7, 3) := by decide +kernel
theorem d_M_wrongPlace_39 : decode (z_c m_M_wrongPlace) 39 = .ok (.iconst 3, 1) := by decide +kernel
theorem d_M_wrongPlace_40 : decode (z_c m_M_wrongPlace) 40 = .ok (.goto 4, 3) := by decide +kernel
theorem d_M_wrongPlace_43 : decode (z_c m_M_wrongPlace) 43 = .ok (.iconst 0, 1) := by decide +kernel
theorem d_M_wrongPlace_44 : decode (z_c m_M_wrongPlace) 44 = .ok (.ireturn, 1) := by decide +kernel
set_option maxRecDepth 8000 in
theorem b_M_wrongPlace_0 {X : z_X} {N : Nat} {σ g : z_G} {Q : z_P} {a1 a2 : Int} (hx : z_lay X N σ 0 z_SM z_RM) (h : ((a1 < 0) → Q 1 g) ∧ (¬ (a1 < 0) → (((4 ≤ a1) → Q 1 g) ∧ (¬ (4 ≤ a1) → ((0 ≤ a1 ∧ a1 < 4) ∧ ((((g 3 a1) = (-1)) → Q 2 g) ∧ (¬ ((g 3 a1) = (-1)) → (((a2 < 0) → Q 3 g) ∧ (¬ (a2 < 0) → (((a2 < (g 3 a1)) → Q 0 g) ∧ (¬ (a2 < (g 3 a1)) → Q 3 g))))))))))) : z_O X 2 m_M_wrongPlace [(2, 0), (0, a1), (0, a2)] N σ g Q := by
  refine z_Oenter mi_M_wrongPlace rfl (fun _ => ?_)
  show z_U X 2 m_M_wrongPlace 0 [(0, (2, 0)), (1, (0, a1)), (2, (0, a2))] [] N σ g Q
  refine z_iload_n (i := 1) 1 d_M_wrongPlace_0 rfl rfl ?_
  refine z_cS (as := [(0, a1)]) (d' := 1) (st := []) d_M_wrongPlace_1 mi_M_isTray ml_M_98 ms_M_isTray rfl rfl rfl rfl rfl (b_M_isTray_0  ?_)
  refine ⟨fun c1 => ?_, fun c1 => ?_⟩
  · have h := h.1 c1
    intro _
    show z_U X 2 m_M_wrongPlace 4 [(0, (2, 0)), (1, (0, a1)), (2, (0, a2))] [(0, 0)] N σ g Q
    refine z_if_ne (tgt := 11) d_M_wrongPlace_4 (by decide) (fun c => absurd (by decide) c) (fun _ => ?_)
    refine z_iconst (n := 1) d_M_wrongPlace_7 (by decide) ?_
    refine z_goto (tgt := 44) d_M_wrongPlace_8 (by decide) ?_
    exact z_iret d_M_wrongPlace_44 rfl (by decide) (by decide) ⟨rfl, rfl, h⟩
  · have h := h.2 c1
    refine ⟨fun c2 => ?_, fun c2 => ?_⟩
    · have h := h.1 c2
      intro _
      show z_U X 2 m_M_wrongPlace 4 [(0, (2, 0)), (1, (0, a1)), (2, (0, a2))] [(0, 0)] N σ g Q
      refine z_if_ne (tgt := 11) d_M_wrongPlace_4 (by decide) (fun c => absurd (by decide) c) (fun _ => ?_)
      refine z_iconst (n := 1) d_M_wrongPlace_7 (by decide) ?_
      refine z_goto (tgt := 44) d_M_wrongPlace_8 (by decide) ?_
      exact z_iret d_M_wrongPlace_44 rfl (by decide) (by decide) ⟨rfl, rfl, h⟩
    · have h := h.2 c2
      intro _
      show z_U X 2 m_M_wrongPlace 4 [(0, (2, 0)), (1, (0, a1)), (2, (0, a2))] [(0, 1)] N σ g Q
      refine z_if_ne (tgt := 11) d_M_wrongPlace_4 (by decide) (fun _ => ?_) (fun c => absurd c (by decide))
      refine z_aload_n (i := 0) (c := 0) 0 d_M_wrongPlace_11 rfl rfl rfl ?_
      refine z_getr (c := 0) (kI := 5) (r2 := 3) d_M_wrongPlace_12 fd_M_trayMany fl_M_20 rfl rfl rfl (ks_M_0 hx) (kl_M_0 hx) (kr_M_0_5 hx) ?_
      refine z_iload_n (i := 1) 1 d_M_wrongPlace_15 rfl rfl ?_
      obtain ⟨c3, h⟩ := h
      refine z_iald (c := 3) (m := 4) d_M_wrongPlace_16 rfl (ks_M_3 hx) (kl_M_3 hx) rfl (by decide) c3 ?_
      refine z_iconst (n := (-1)) d_M_wrongPlace_17 (by decide) ?_
      refine z_icmp_ne (tgt := 25) d_M_wrongPlace_18 (by decide) (fun c4 => ?_) (fun c4 => ?_)
      · have h := h.2 c4
        refine z_iload_n (i := 2) 2 d_M_wrongPlace_25 rfl rfl ?_
        refine z_if_lt (tgt := 39) d_M_wrongPlace_26 (by decide) (fun c5 => ?_) (fun c5 => ?_)
        · have h := h.1 c5
          refine z_iconst (n := 3) d_M_wrongPlace_39 (by decide) ?_
          refine z_goto (tgt := 44) d_M_wrongPlace_40 (by decide) ?_
          exact z_iret d_M_wrongPlace_44 rfl (by decide) (by decide) ⟨rfl, rfl, h⟩
        · have h := h.2 c5
          refine z_iload_n (i := 2) 2 d_M_wrongPlace_29 rfl rfl ?_
          refine z_aload_n (i := 0) (c := 0) 0 d_M_wrongPlace_30 rfl rfl rfl ?_
          refine z_getr (c := 0) (kI := 5) (r2 := 3) d_M_wrongPlace_31 fd_M_trayMany fl_M_20 rfl rfl rfl (ks_M_0 hx) (kl_M_0 hx) (kr_M_0_5 hx) ?_
          refine z_iload_n (i := 1) 1 d_M_wrongPlace_34 rfl rfl ?_
          refine z_iald (c := 3) (m := 4) d_M_wrongPlace_35 rfl (ks_M_3 hx) (kl_M_3 hx) rfl (by decide) c3 ?_
          refine z_icmp_lt (tgt := 43) d_M_wrongPlace_36 (by decide) (fun c6 => ?_) (fun c6 => ?_)
          · have h := h.1 c6
            refine z_iconst (n := 0) d_M_wrongPlace_43 (by decide) ?_
            exact z_iret d_M_wrongPlace_44 rfl (by decide) (by decide) ⟨rfl, rfl, h⟩
          · have h := h.2 c6
            refine z_iconst (n := 3) d_M_wrongPlace_39 (by decide) ?_
            refine z_goto (tgt := 44) d_M_wrongPlace_40 (by decide) ?_
            exact z_iret d_M_wrongPlace_44 rfl (by decide) (by decide) ⟨rfl, rfl, h⟩
      · have h := h.1 c4
        refine z_iconst (n := 2) d_M_wrongPlace_21 (by decide) ?_
        refine z_goto (tgt := 44) d_M_wrongPlace_22 (by decide) ?_
        exact z_iret d_M_wrongPlace_44 rfl (by decide) (by decide) ⟨rfl, rfl, h⟩
theorem d_M_begins_0 : decode (z_c m_M_begins) 0 = .ok (.iload_n 1, 1) := by decide +kernel
theorem d_M_begins_1 : decode (z_c m_M_begins) 1 = .ok (.ifCond .lt 16, 3) := by decide +kernel
theorem d_M_begins_4 : decode (z_c m_M_begins) 4 = .ok (.iload_n 1, 1) := by decide +kernel
theorem d_M_begins_5 : decode (z_c m_M_begins) 5 = .ok (.aload_n 0, 1) := by decide +kernel
theorem d_M_begins_6 : decode (z_c m_M_begins) 6 = .ok (.getfield 111, 3) := by decide +kernel
theorem d_M_begins_9 : decode (z_c m_M_begins) 9 = .ok (.if_icmp .gt 8, 3) := by decide +kernel
theorem d_M_begins_12 : decode (z_c m_M_begins) 12 = .ok (.iload_n 1, 1) := by decide +kernel
theorem d_M_begins_13 : decode (z_c m_M_begins) 13 = .ok (.iload_n 2, 1) := by decide +kernel
theorem d_M_begins_14 : decode (z_c m_M_begins) 14 = .ok (.if_icmp .le 5, 3) := by decide +kernel
theorem d_M_begins_17 : decode (z_c m_M_begins) 17 = .ok (.iconst 0, 1) := by decide +kernel
theorem d_M_begins_18 : decode (z_c m_M_begins) 18 = .ok (.ireturn, 1) := by decide +kernel
theorem d_M_begins_19 : decode (z_c m_M_begins) 19 = .ok (.aload_n 0, 1) := by decide +kernel
theorem d_M_begins_20 : decode (z_c m_M_begins) 20 = .ok (.iload_n 1, 1) := by decide +kernel
theorem d_M_begins_21 : decode (z_c m_M_begins) 21 = .ok (.putfield 117, 3) := by decide +kernel
theorem d_M_begins_24 : decode (z_c m_M_begins) 24 = .ok (.iconst 0, 1) := by decide +kernel
theorem d_M_begins_25 : decode (z_c m_M_begins) 25 = .ok (.istore_n 3, 1) := by decide +kernel
theorem d_M_begins_26 : decode (z_c m_M_begins) 26 = .ok (.iload_n 3, 1) := by decide +kernel
theorem d_M_begins_27 : decode (z_c m_M_begins) 27 = .ok (.iload_n 1, 1) := by decide +kernel
theorem d_M_begins_28 : decode (z_c m_M_begins) 28 = .ok (.if_icmp .ge 21, 3) := by decide +kernel
theorem d_M_begins_31 : decode (z_c m_M_begins) 31 = .ok (.aload_n 0, 1) := by decide +kernel
theorem d_M_begins_32 : decode (z_c m_M_begins) 32 = .ok (.getfield 31, 3) := by decide +kernel
theorem d_M_begins_35 : decode (z_c m_M_begins) 35 = .ok (.iload_n 3, 1) := by decide +kernel
theorem d_M_begins_36 : decode (z_c m_M_begins) 36 = .ok (.aload_n 0, 1) := by decide +kernel
theorem d_M_begins_37 : decode (z_c m_M_begins) 37 = .ok (.getfield 27, 3) := by decide +kernel
theorem d_M_begins_40 : decode (z_c m_M_begins) 40 = .ok (.iload_n 3, 1) := by decide +kernel
theorem d_M_begins_41 : decode (z_c m_M_begins) 41 = .ok (.baload, 1) := by decide +kernel
theorem d_M_begins_42 : decode (z_c m_M_begins) 42 = .ok (.bastore, 1) := by decide +kernel
theorem d_M_begins_43 : decode (z_c m_M_begins) 43 = .ok (.iinc 3 1, 3) := by decide +kernel
theorem d_M_begins_46 : decode (z_c m_M_begins) 46 = .ok (.goto (-20), 3) := by decide +kernel
theorem d_M_begins_49 : decode (z_c m_M_begins) 49 = .ok (.aload_n 0, 1) := by decide +kernel
theorem d_M_begins_50 : decode (z_c m_M_begins) 50 = .ok (.iconst 0, 1) := by decide +kernel
theorem d_M_begins_51 : decode (z_c m_M_begins) 51 = .ok (.putfield 111, 3) := by decide +kernel
theorem d_M_begins_54 : decode (z_c m_M_begins) 54 = .ok (.aload_n 0, 1) := by decide +kernel
theorem d_M_begins_55 : decode (z_c m_M_begins) 55 = .ok (.iconst 0, 1) := by decide +kernel
theorem d_M_begins_56 : decode (z_c m_M_begins) 56 = .ok (.putfield 157, 3) := by decide +kernel
theorem d_M_begins_59 : decode (z_c m_M_begins) 59 = .ok (.aload_n 0, 1) := by decide +kernel
theorem d_M_begins_60 : decode (z_c m_M_begins) 60 = .ok (.iconst (-1), 1) := by decide +kernel
theorem d_M_begins_61 : decode (z_c m_M_begins) 61 = .ok (.putfield 38, 3) := by decide +kernel
theorem d_M_begins_64 : decode (z_c m_M_begins) 64 = .ok (.aload_n 0, 1) := by decide +kernel
theorem d_M_begins_65 : decode (z_c m_M_begins) 65 = .ok (.iconst 0, 1) := by decide +kernel
theorem d_M_begins_66 : decode (z_c m_M_begins) 66 = .ok (.putfield 120, 3) := by decide +kernel
theorem d_M_begins_69 : decode (z_c m_M_begins) 69 = .ok (.aload_n 0, 1) := by decide +kernel
theorem d_M_begins_70 : decode (z_c m_M_begins) 70 = .ok (.invokevirtual 160, 3) := by decide +kernel
theorem d_M_begins_73 : decode (z_c m_M_begins) 73 = .ok (.iconst 1, 1) := by decide +kernel
theorem d_M_begins_74 : decode (z_c m_M_begins) 74 = .ok (.ireturn, 1) := by decide +kernel
abbrev L_M_begins_26 (X : z_X) (N : Nat) (σ : z_G) (x1 x3 : Int) (g : z_G) (Q : z_P) : Prop := z_U X 3 m_M_begins 26 [(0, (2, 0)), (1, (0, x1)), (3, (0, x3))] [] N σ g Q
set_option maxRecDepth 8000 in
theorem b_M_begins_0 {X : z_X} {N : Nat} {σ g : z_G} {Q : z_P} {a1 a2 : Int} (hx : z_lay X N σ 0 z_SM z_RM) (h : ((a1 < 0) → Q 0 g) ∧ (¬ (a1 < 0) → ((((g 0 9) < a1) → Q 0 g) ∧ (¬ ((g 0 9) < a1) → (((a1 ≤ a2) → L_M_begins_26 X N σ a1 0 (z_up g 0 10 a1) Q) ∧ (¬ (a1 ≤ a2) → Q 0 g)))))) : z_O X 3 m_M_begins [(2, 0), (0, a1), (0, a2)] N σ g Q := by
  refine z_Oenter mi_M_begins rfl (fun _ => ?_)
  show z_U X 3 m_M_begins 0 [(0, (2, 0)), (1, (0, a1)), (2, (0, a2))] [] N σ g Q
  refine z_iload_n (i := 1) 1 d_M_begins_0 rfl rfl ?_
  refine z_if_lt (tgt := 17) d_M_begins_1 (by decide) (fun c1 => ?_) (fun c1 => ?_)
  · have h := h.1 c1
    refine z_iconst (n := 0) d_M_begins_17 (by decide) ?_
    exact z_zret d_M_begins_18 rfl (by decide) (by decide) (by decide) ⟨rfl, rfl, h⟩
  · have h := h.2 c1
    refine z_iload_n (i := 1) 1 d_M_begins_4 rfl rfl ?_
    refine z_aload_n (i := 0) (c := 0) 0 d_M_begins_5 rfl rfl rfl ?_
    refine z_geti (c := 0) (kI := 9) d_M_begins_6 fd_M_taped fl_M_111 (Or.inl rfl) rfl rfl (ks_M_0 hx) (kl_M_0 hx) ?_
    refine z_icmp_gt (tgt := 17) d_M_begins_9 (by decide) (fun c2 => ?_) (fun c2 => ?_)
    · have h := h.1 c2
      refine z_iconst (n := 0) d_M_begins_17 (by decide) ?_
      exact z_zret d_M_begins_18 rfl (by decide) (by decide) (by decide) ⟨rfl, rfl, h⟩
    · have h := h.2 c2
      refine z_iload_n (i := 1) 1 d_M_begins_12 rfl rfl ?_
      refine z_iload_n (i := 2) 2 d_M_begins_13 rfl rfl ?_
      refine z_icmp_le (tgt := 19) d_M_begins_14 (by decide) (fun c3 => ?_) (fun c3 => ?_)
      · have h := h.1 c3
        refine z_aload_n (i := 0) (c := 0) 0 d_M_begins_19 rfl rfl rfl ?_
        refine z_iload_n (i := 1) 1 d_M_begins_20 rfl rfl ?_
        refine z_puti (c := 0) (kI := 10) d_M_begins_21 fd_M_size fl_M_117 pf_M_size rfl rfl rfl rfl (ks_M_0 hx) (kl_M_0 hx) ?_
        refine z_iconst (n := 0) d_M_begins_24 (by decide) ?_
        refine z_istore_n (i := 3) (ls' := [(3, (0, 0)), (0, (2, 0)), (1, (0, a1)), (2, (0, a2))]) d_M_begins_25 rfl rfl rfl ?_
        refine z_sub (ls' := [(0, (2, 0)), (1, (0, a1)), (3, (0, 0))]) [1, 2, 0] rfl ?_
        exact h
      · have h := h.2 c3
        refine z_iconst (n := 0) d_M_begins_17 (by decide) ?_
        exact z_zret d_M_begins_18 rfl (by decide) (by decide) (by decide) ⟨rfl, rfl, h⟩
set_option maxRecDepth 8000 in
theorem b_M_begins_26 {X : z_X} {N : Nat} {σ g : z_G} {Q : z_P} {x1 x3 : Int} (hx : z_lay X N σ 0 z_SM z_RM) (h : ((x1 ≤ x3) → (z_O X 2 m_M_nextToken [(2, 0)] N σ (z_up (z_up (z_up (z_up g 0 9 0) 0 17 0) 0 16 (-1)) 0 13 0) (fun r0 g0 => Q 1 g0))) ∧ (¬ (x1 ≤ x3) → ((0 ≤ x3 ∧ x3 < 900) ∧ ((-128 ≤ (g 5 x3) ∧ (g 5 x3) ≤ 127) ∧ ((-2147483648 ≤ (x3 + 1) ∧ (x3 + 1) ≤ 2147483647) ∧ L_M_begins_26 X N σ x1 (x3 + 1) (z_up g 6 x3 (g 5 x3)) Q))))) : L_M_begins_26 X N σ x1 x3 g Q := by
  refine z_iload_n (i := 3) 2 d_M_begins_26 rfl rfl ?_
  refine z_iload_n (i := 1) 1 d_M_begins_27 rfl rfl ?_
  refine z_icmp_ge (tgt := 49) d_M_begins_28 (by decide) (fun c1 => ?_) (fun c1 => ?_)
  · have h := h.1 c1
    refine z_aload_n (i := 0) (c := 0) 0 d_M_begins_49 rfl rfl rfl ?_
    refine z_iconst (n := 0) d_M_begins_50 (by decide) ?_
    refine z_puti (c := 0) (kI := 9) d_M_begins_51 fd_M_taped fl_M_111 pf_M_taped rfl rfl rfl rfl (ks_M_0 hx) (kl_M_0 hx) ?_
    refine z_aload_n (i := 0) (c := 0) 0 d_M_begins_54 rfl rfl rfl ?_
    refine z_iconst (n := 0) d_M_begins_55 (by decide) ?_
    refine z_puti (c := 0) (kI := 17) d_M_begins_56 fd_M_faults fl_M_157 pf_M_faults rfl rfl rfl rfl (ks_M_0 hx) (kl_M_0 hx) ?_
    refine z_aload_n (i := 0) (c := 0) 0 d_M_begins_59 rfl rfl rfl ?_
    refine z_iconst (n := (-1)) d_M_begins_60 (by decide) ?_
    refine z_puti (c := 0) (kI := 16) d_M_begins_61 fd_M_faultPlace fl_M_38 pf_M_faultPlace rfl rfl rfl rfl (ks_M_0 hx) (kl_M_0 hx) ?_
    refine z_aload_n (i := 0) (c := 0) 0 d_M_begins_64 rfl rfl rfl ?_
    refine z_iconst (n := 0) d_M_begins_65 (by decide) ?_
    refine z_puti (c := 0) (kI := 13) d_M_begins_66 fd_M_end fl_M_120 pf_M_end rfl rfl rfl rfl (ks_M_0 hx) (kl_M_0 hx) ?_
    refine z_aload_n (i := 0) (c := 0) 0 d_M_begins_69 rfl rfl rfl ?_
    refine z_cV (c := 0) (as := []) (d' := 2) (st := []) d_M_begins_70 mi_M_nextToken ml_M_160 mv_M_nextToken se_M_nextToken rfl rfl rfl rfl (ks_M_0 hx) rfl rfl (kl_M_0 hx) rfl rfl (z_Omono h (fun r0 g0 _ h hro => ?_))
    show z_U X 3 m_M_begins 73 [(0, (2, 0)), (1, (0, x1)), (3, (0, x3))] [] N σ g0 Q
    refine z_iconst (n := 1) d_M_begins_73 (by decide) ?_
    exact z_zret d_M_begins_74 rfl (by decide) (by decide) (by decide) ⟨rfl, rfl, h⟩
  · have h := h.2 c1
    refine z_aload_n (i := 0) (c := 0) 0 d_M_begins_31 rfl rfl rfl ?_
    refine z_getr (c := 0) (kI := 8) (r2 := 6) d_M_begins_32 fd_M_text fl_M_31 rfl rfl rfl (ks_M_0 hx) (kl_M_0 hx) (kr_M_0_8 hx) ?_
    refine z_iload_n (i := 3) 2 d_M_begins_35 rfl rfl ?_
    refine z_aload_n (i := 0) (c := 0) 0 d_M_begins_36 rfl rfl rfl ?_
    refine z_getr (c := 0) (kI := 7) (r2 := 5) d_M_begins_37 fd_M_tape fl_M_27 rfl rfl rfl (ks_M_0 hx) (kl_M_0 hx) (kr_M_0_7 hx) ?_
    refine z_iload_n (i := 3) 2 d_M_begins_40 rfl rfl ?_
    obtain ⟨c2, h⟩ := h
    refine z_bald (c := 5) (m := 900) d_M_begins_41 rfl (ks_M_5 hx) (kl_M_5 hx) rfl (by decide) c2 ?_
    obtain ⟨c3, h⟩ := h
    refine z_bast (c := 6) (m := 900) d_M_begins_42 rfl (ks_M_6 hx) (kl_M_6 hx) rfl (by decide) c2 c3 ?_
    obtain ⟨c4, h⟩ := h
    refine z_iinc (n := 1) (ls' := [(3, (0, x3 + 1)), (0, (2, 0)), (1, (0, x1))]) 2 d_M_begins_43 rfl c4 rfl rfl ?_
    refine z_goto (tgt := 26) d_M_begins_46 (by decide) ?_
    refine z_sub (ls' := [(0, (2, 0)), (1, (0, x1)), (3, (0, x3 + 1))]) [1, 2, 0] rfl ?_
    exact h
theorem d_M_copyPins_0 : decode (z_c m_M_copyPins) 0 = .ok (.aload_n 0, 1) := by decide +kernel
theorem d_M_copyPins_1 : decode (z_c m_M_copyPins) 1 = .ok (.getfield 7, 3) := by decide +kernel
theorem d_M_copyPins_4 : decode (z_c m_M_copyPins) 4 = .ok (.iconst 4, 1) := by decide +kernel
theorem d_M_copyPins_5 : decode (z_c m_M_copyPins) 5 = .ok (.iaload, 1) := by decide +kernel
theorem d_M_copyPins_6 : decode (z_c m_M_copyPins) 6 = .ok (.istore_n 2, 1) := by decide +kernel
theorem d_M_copyPins_7 : decode (z_c m_M_copyPins) 7 = .ok (.iload_n 1, 1) := by decide +kernel
theorem d_M_copyPins_8 : decode (z_c m_M_copyPins) 8 = .ok (.invokestatic 98, 3) := by decide +kernel
theorem d_M_copyPins_11 : decode (z_c m_M_copyPins) 11 = .ok (.ifCond .ne 9, 3) := by decide +kernel
theorem d_M_copyPins_14 : decode (z_c m_M_copyPins) 14 = .ok (.aload_n 0, 1) := by decide +kernel
theorem d_M_copyPins_15 : decode (z_c m_M_copyPins) 15 = .ok (.iconst 1, 1) := by decide +kernel
theorem d_M_copyPins_16 : decode (z_c m_M_copyPins) 16 = .ok (.invokevirtual 87, 3) := by decide +kernel
theorem d_M_copyPins_19 : decode (z_c m_M_copyPins) 19 = .ok (.ireturn, 1) := by decide +kernel
theorem d_M_copyPins_20 : decode (z_c m_M_copyPins) 20 = .ok (.aload_n 0, 1) := by decide +kernel
theorem d_M_copyPins_21 : decode (z_c m_M_copyPins) 21 = .ok (.getfield 20, 3) := by decide +kernel
theorem d_M_copyPins_24 : decode (z_c m_M_copyPins) 24 = .ok (.iload_n 1, 1) := by decide +kernel
theorem d_M_copyPins_25 : decode (z_c m_M_copyPins) 25 = .ok (.iaload, 1) := by decide +kernel
theorem d_M_copyPins_26 : decode (z_c m_M_copyPins) 26 = .ok (.iconst (-1), 1) := by decide +kernel
theorem d_M_copyPins_27 : decode (z_c m_M_copyPins) 27 = .ok (.if_icmp .ne 9, 3) := by decide +kernel
theorem d_M_copyPins_30 : decode (z_c m_M_copyPins) 30 = .ok (.aload_n 0, 1) := by decide +kernel
theorem d_M_copyPins_31 : decode (z_c m_M_copyPins) 31 = .ok (.iconst 2, 1) := by decide +kernel
theorem d_M_copyPins_32 : decode (z_c m_M_copyPins) 32 = .ok (.invokevirtual 87, 3) := by decide +kernel
theorem d_M_copyPins_35 : decode (z_c m_M_copyPins) 35 = .ok (.ireturn, 1) := by decide +kernel
theorem d_M_copyPins_36 : decode (z_c m_M_copyPins) 36 = .ok (.aload_n 0, 1) := by decide +kernel
theorem d_M_copyPins_37 : decode (z_c m_M_copyPins) 37 = .ok (.getfield 20, 3) := by decide +kernel
theorem d_M_copyPins_40 : decode (z_c m_M_copyPins) 40 = .ok (.iload_n 1, 1) := by decide +kernel
theorem d_M_copyPins_41 : decode (z_c m_M_copyPins) 41 = .ok (.iaload, 1) := by decide +kernel
theorem d_M_copyPins_42 : decode (z_c m_M_copyPins) 42 = .ok (.iconst 2, 1) := by decide +kernel
theorem d_M_copyPins_43 : decode (z_c m_M_copyPins) 43 = .ok (.iload_n 2, 1) := by decide +kernel
theorem d_M_copyPins_44 : decode (z_c m_M_copyPins) 44 = .ok (.imul, 1) := by decide +kernel
theorem d_M_copyPins_45 : decode (z_c m_M_copyPins) 45 = .ok (.if_icmp .ge 9, 3) := by decide +kernel
theorem d_M_copyPins_48 : decode (z_c m_M_copyPins) 48 = .ok (.aload_n 0, 1) := by decide +kernel
theorem d_M_copyPins_49 : decode (z_c m_M_copyPins) 49 = .ok (.iconst 3, 1) := by decide +kernel
theorem d_M_copyPins_50 : decode (z_c m_M_copyPins) 50 = .ok (.invokevirtual 87, 3) := by decide +kernel
theorem d_M_copyPins_53 : decode (z_c m_M_copyPins) 53 = .ok (.ireturn, 1) := by decide +kernel
theorem d_M_copyPins_54 : decode (z_c m_M_copyPins) 54 = .ok (.iconst 0, 1) := by decide +kernel
theorem d_M_copyPins_55 : decode (z_c m_M_copyPins) 55 = .ok (.istore_n 3, 1) := by decide +kernel
theorem d_M_copyPins_56 : decode (z_c m_M_copyPins) 56 = .ok (.iload_n 3, 1) := by decide +kernel
theorem d_M_copyPins_57 : decode (z_c m_M_copyPins) 57 = .ok (.iconst 2, 1) := by decide +kernel
theorem d_M_copyPins_58 : decode (z_c m_M_copyPins) 58 = .ok (.iload_n 2, 1) := by decide +kernel
theorem d_M_copyPins_59 : decode (z_c m_M_copyPins) 59 = .ok (.imul, 1) := by decide +kernel
theorem d_M_copyPins_60 : decode (z_c m_M_copyPins) 60 = .ok (.if_icmp .ge 51, 3) := by decide +kernel
theorem d_M_copyPins_63 : decode (z_c m_M_copyPins) 63 = .ok (.aload_n 0, 1) := by decide +kernel
theorem d_M_copyPins_64 : decode (z_c m_M_copyPins) 64 = .ok (.getfield 23, 3) := by decide +kernel
theorem d_M_copyPins_67 : decode (z_c m_M_copyPins) 67 = .ok (.bipush 60, 2) := by decide +kernel
theorem d_M_copyPins_69 : decode (z_c m_M_copyPins) 69 = .ok (.iload_n 1, 1) := by decide +kernel
theorem d_M_copyPins_70 : decode (z_c m_M_copyPins) 70 = .ok (.imul, 1) := by decide +kernel
theorem d_M_copyPins_71 : decode (z_c m_M_copyPins) 71 = .ok (.iload_n 3, 1) := by decide +kernel
theorem d_M_copyPins_72 : decode (z_c m_M_copyPins) 72 = .ok (.iadd, 1) := by decide +kernel
theorem d_M_copyPins_73 : decode (z_c m_M_copyPins) 73 = .ok (.iload_n 3, 1) := by decide +kernel
theorem d_M_copyPins_74 : decode (z_c m_M_copyPins) 74 = .ok (.iload_n 2, 1) := by decide +kernel
theorem d_M_copyPins_75 : decode (z_c m_M_copyPins) 75 = .ok (.if_icmp .ge 12, 3) := by decide +kernel
theorem d_M_copyPins_78 : decode (z_c m_M_copyPins) 78 = .ok (.aload_n 0, 1) := by decide +kernel
theorem d_M_copyPins_79 : decode (z_c m_M_copyPins) 79 = .ok (.iload_n 3, 1) := by decide +kernel
theorem d_M_copyPins_80 : decode (z_c m_M_copyPins) 80 = .ok (.invokevirtual 366, 3) := by decide +kernel
theorem d_M_copyPins_83 : decode (z_c m_M_copyPins) 83 = .ok (.i2l, 1) := by decide +kernel
theorem d_M_copyPins_84 : decode (z_c m_M_copyPins) 84 = .ok (.goto 11, 3) := by decide +kernel
theorem d_M_copyPins_87 : decode (z_c m_M_copyPins) 87 = .ok (.aload_n 0, 1) := by decide +kernel
theorem d_M_copyPins_88 : decode (z_c m_M_copyPins) 88 = .ok (.iload_n 3, 1) := by decide +kernel
theorem d_M_copyPins_89 : decode (z_c m_M_copyPins) 89 = .ok (.iload_n 2, 1) := by decide +kernel
theorem d_M_copyPins_90 : decode (z_c m_M_copyPins) 90 = .ok (.isub, 1) := by decide +kernel
theorem d_M_copyPins_91 : decode (z_c m_M_copyPins) 91 = .ok (.invokevirtual 369, 3) := by decide +kernel
theorem d_M_copyPins_94 : decode (z_c m_M_copyPins) 94 = .ok (.i2l, 1) := by decide +kernel
theorem d_M_copyPins_95 : decode (z_c m_M_copyPins) 95 = .ok (.aload_n 0, 1) := by decide +kernel
theorem d_M_copyPins_96 : decode (z_c m_M_copyPins) 96 = .ok (.getfield 17, 3) := by decide +kernel
theorem d_M_copyPins_99 : decode (z_c m_M_copyPins) 99 = .ok (.iload_n 1, 1) := by decide +kernel
theorem d_M_copyPins_100 : decode (z_c m_M_copyPins) 100 = .ok (.iaload, 1) := by decide +kernel
theorem d_M_copyPins_101 : decode (z_c m_M_copyPins) 101 = .ok (.invokestatic 105, 3) := by decide +kernel
theorem d_M_copyPins_104 : decode (z_c m_M_copyPins) 104 = .ok (.lastore, 1) := by decide +kernel
theorem d_M_copyPins_105 : decode (z_c m_M_copyPins) 105 = .ok (.iinc 3 1, 3) := by decide +kernel
theorem d_M_copyPins_108 : decode (z_c m_M_copyPins) 108 = .ok (.goto (-52), 3) := by decide +kernel
theorem d_M_copyPins_111 : decode (z_c m_M_copyPins) 111 = .ok (.aload_n 0, 1) := by decide +kernel
theorem d_M_copyPins_112 : decode (z_c m_M_copyPins) 112 = .ok (.iload_n 2, 1) := by decide +kernel
theorem d_M_copyPins_113 : decode (z_c m_M_copyPins) 113 = .ok (.invokevirtual 91, 3) := by decide +kernel
theorem d_M_copyPins_116 : decode (z_c m_M_copyPins) 116 = .ok (.ireturn, 1) := by decide +kernel
abbrev L_M_copyPins_56 (X : z_X) (N : Nat) (σ : z_G) (x1 x2 x3 : Int) (g : z_G) (Q : z_P) : Prop := z_U X 3 m_M_copyPins 56 [(0, (2, 0)), (1, (0, x1)), (2, (0, x2)), (3, (0, x3))] [] N σ g Q
set_option maxRecDepth 8000 in
theorem b_M_copyPins_0 {X : z_X} {N : Nat} {σ g : z_G} {Q : z_P} {a1 : Int} (hx : z_lay X N σ 0 z_SM z_RM) (h : ((a1 < 0) → Q (-1) (z_up g 0 1 1)) ∧ (¬ (a1 < 0) → (((4 ≤ a1) → Q (-1) (z_up g 0 1 1)) ∧ (¬ (4 ≤ a1) → ((0 ≤ a1 ∧ a1 < 4) ∧ ((((g 3 a1) = (-1)) → Q (-1) (z_up g 0 1 2)) ∧ (¬ ((g 3 a1) = (-1)) → ((-2147483648 ≤ (2 * (g 1 4)) ∧ (2 * (g 1 4)) ≤ 2147483647) ∧ ((((2 * (g 1 4)) ≤ (g 3 a1)) → L_M_copyPins_56 X N σ a1 (g 1 4) 0 g Q) ∧ (¬ ((2 * (g 1 4)) ≤ (g 3 a1)) → Q (-1) (z_up g 0 1 3))))))))))) : z_O X 3 m_M_copyPins [(2, 0), (0, a1)] N σ g Q := by
  refine z_Oenter mi_M_copyPins rfl (fun _ => ?_)
  show z_U X 3 m_M_copyPins 0 [(0, (2, 0)), (1, (0, a1))] [] N σ g Q
  refine z_aload_n (i := 0) (c := 0) 0 d_M_copyPins_0 rfl rfl rfl ?_
  refine z_getr (c := 0) (kI := 0) (r2 := 1) d_M_copyPins_1 fd_M_at fl_M_7 rfl rfl rfl (ks_M_0 hx) (kl_M_0 hx) (kr_M_0_0 hx) ?_
  refine z_iconst (n := 4) d_M_copyPins_4 (by decide) ?_
  refine z_iald (c := 1) (m := 3296) d_M_copyPins_5 rfl (ks_M_1 hx) (kl_M_1 hx) rfl (by decide) (by decide) ?_
  refine z_istore_n (i := 2) (ls' := [(2, (0, g 1 4)), (0, (2, 0)), (1, (0, a1))]) d_M_copyPins_6 rfl rfl rfl ?_
  refine z_iload_n (i := 1) 2 d_M_copyPins_7 rfl rfl ?_
  refine z_cS (as := [(0, a1)]) (d' := 1) (st := []) d_M_copyPins_8 mi_M_isTray ml_M_98 ms_M_isTray rfl rfl rfl rfl rfl (b_M_isTray_0  ?_)
  refine ⟨fun c1 => ?_, fun c1 => ?_⟩
  · have h := h.1 c1
    intro _
    show z_U X 3 m_M_copyPins 11 [(2, (0, g 1 4)), (0, (2, 0)), (1, (0, a1))] [(0, 0)] N σ g Q
    refine z_if_ne (tgt := 20) d_M_copyPins_11 (by decide) (fun c => absurd (by decide) c) (fun _ => ?_)
    refine z_aload_n (i := 0) (c := 0) 1 d_M_copyPins_14 rfl rfl rfl ?_
    refine z_iconst (n := 1) d_M_copyPins_15 (by decide) ?_
    refine z_cV (c := 0) (as := [(0, 1)]) (d' := 1) (st := []) d_M_copyPins_16 mi_M_refuse ml_M_87 mv_M_refuse se_M_refuse rfl rfl rfl rfl (ks_M_0 hx) rfl rfl (kl_M_0 hx) rfl rfl (b_M_refuse_0 hx ?_)
    intro _
    show z_U X 3 m_M_copyPins 19 [(2, (0, g 1 4)), (0, (2, 0)), (1, (0, a1))] [(0, (-1))] N σ (z_up g 0 1 1) Q
    exact z_iret d_M_copyPins_19 rfl (by decide) (by decide) ⟨rfl, rfl, h⟩
  · have h := h.2 c1
    refine ⟨fun c2 => ?_, fun c2 => ?_⟩
    · have h := h.1 c2
      intro _
      show z_U X 3 m_M_copyPins 11 [(2, (0, g 1 4)), (0, (2, 0)), (1, (0, a1))] [(0, 0)] N σ g Q
      refine z_if_ne (tgt := 20) d_M_copyPins_11 (by decide) (fun c => absurd (by decide) c) (fun _ => ?_)
      refine z_aload_n (i := 0) (c := 0) 1 d_M_copyPins_14 rfl rfl rfl ?_
      refine z_iconst (n := 1) d_M_copyPins_15 (by decide) ?_
      refine z_cV (c := 0) (as := [(0, 1)]) (d' := 1) (st := []) d_M_copyPins_16 mi_M_refuse ml_M_87 mv_M_refuse se_M_refuse rfl rfl rfl rfl (ks_M_0 hx) rfl rfl (kl_M_0 hx) rfl rfl (b_M_refuse_0 hx ?_)
      intro _
      show z_U X 3 m_M_copyPins 19 [(2, (0, g 1 4)), (0, (2, 0)), (1, (0, a1))] [(0, (-1))] N σ (z_up g 0 1 1) Q
      exact z_iret d_M_copyPins_19 rfl (by decide) (by decide) ⟨rfl, rfl, h⟩
    · have h := h.2 c2
      intro _
      show z_U X 3 m_M_copyPins 11 [(2, (0, g 1 4)), (0, (2, 0)), (1, (0, a1))] [(0, 1)] N σ g Q
      refine z_if_ne (tgt := 20) d_M_copyPins_11 (by decide) (fun _ => ?_) (fun c => absurd c (by decide))
      refine z_aload_n (i := 0) (c := 0) 1 d_M_copyPins_20 rfl rfl rfl ?_
      refine z_getr (c := 0) (kI := 5) (r2 := 3) d_M_copyPins_21 fd_M_trayMany fl_M_20 rfl rfl rfl (ks_M_0 hx) (kl_M_0 hx) (kr_M_0_5 hx) ?_
      refine z_iload_n (i := 1) 2 d_M_copyPins_24 rfl rfl ?_
      obtain ⟨c3, h⟩ := h
      refine z_iald (c := 3) (m := 4) d_M_copyPins_25 rfl (ks_M_3 hx) (kl_M_3 hx) rfl (by decide) c3 ?_
      refine z_iconst (n := (-1)) d_M_copyPins_26 (by decide) ?_
      refine z_icmp_ne (tgt := 36) d_M_copyPins_27 (by decide) (fun c4 => ?_) (fun c4 => ?_)
      · have h := h.2 c4
        refine z_aload_n (i := 0) (c := 0) 1 d_M_copyPins_36 rfl rfl rfl ?_
        refine z_getr (c := 0) (kI := 5) (r2 := 3) d_M_copyPins_37 fd_M_trayMany fl_M_20 rfl rfl rfl (ks_M_0 hx) (kl_M_0 hx) (kr_M_0_5 hx) ?_
        refine z_iload_n (i := 1) 2 d_M_copyPins_40 rfl rfl ?_
        refine z_iald (c := 3) (m := 4) d_M_copyPins_41 rfl (ks_M_3 hx) (kl_M_3 hx) rfl (by decide) c3 ?_
        refine z_iconst (n := 2) d_M_copyPins_42 (by decide) ?_
        refine z_iload_n (i := 2) 0 d_M_copyPins_43 rfl rfl ?_
        obtain ⟨c5, h⟩ := h
        refine z_imul d_M_copyPins_44 c5 ?_
        refine z_icmp_ge (tgt := 54) d_M_copyPins_45 (by decide) (fun c6 => ?_) (fun c6 => ?_)
        · have h := h.1 c6
          refine z_iconst (n := 0) d_M_copyPins_54 (by decide) ?_
          refine z_istore_n (i := 3) (ls' := [(3, (0, 0)), (2, (0, g 1 4)), (0, (2, 0)), (1, (0, a1))]) d_M_copyPins_55 rfl rfl rfl ?_
          refine z_sub (ls' := [(0, (2, 0)), (1, (0, a1)), (2, (0, g 1 4)), (3, (0, 0))]) [2, 3, 1, 0] rfl ?_
          exact h
        · have h := h.2 c6
          refine z_aload_n (i := 0) (c := 0) 1 d_M_copyPins_48 rfl rfl rfl ?_
          refine z_iconst (n := 3) d_M_copyPins_49 (by decide) ?_
          refine z_cV (c := 0) (as := [(0, 3)]) (d' := 1) (st := []) d_M_copyPins_50 mi_M_refuse ml_M_87 mv_M_refuse se_M_refuse rfl rfl rfl rfl (ks_M_0 hx) rfl rfl (kl_M_0 hx) rfl rfl (b_M_refuse_0 hx ?_)
          intro _
          show z_U X 3 m_M_copyPins 53 [(2, (0, g 1 4)), (0, (2, 0)), (1, (0, a1))] [(0, (-1))] N σ (z_up g 0 1 3) Q
          exact z_iret d_M_copyPins_53 rfl (by decide) (by decide) ⟨rfl, rfl, h⟩
      · have h := h.1 c4
        refine z_aload_n (i := 0) (c := 0) 1 d_M_copyPins_30 rfl rfl rfl ?_
        refine z_iconst (n := 2) d_M_copyPins_31 (by decide) ?_
        refine z_cV (c := 0) (as := [(0, 2)]) (d' := 1) (st := []) d_M_copyPins_32 mi_M_refuse ml_M_87 mv_M_refuse se_M_refuse rfl rfl rfl rfl (ks_M_0 hx) rfl rfl (kl_M_0 hx) rfl rfl (b_M_refuse_0 hx ?_)
        intro _
        show z_U X 3 m_M_copyPins 35 [(2, (0, g 1 4)), (0, (2, 0)), (1, (0, a1))] [(0, (-1))] N σ (z_up g 0 1 2) Q
        exact z_iret d_M_copyPins_35 rfl (by decide) (by decide) ⟨rfl, rfl, h⟩
set_option maxRecDepth 8000 in
theorem b_M_copyPins_56 {X : z_X} {N : Nat} {σ g : z_G} {Q : z_P} {x1 x2 x3 : Int} (hx : z_lay X N σ 0 z_SM z_RM) (h : (-2147483648 ≤ (2 * x2) ∧ (2 * x2) ≤ 2147483647) ∧ ((((2 * x2) ≤ x3) → Q x2 (z_up g 0 1 0)) ∧ (¬ ((2 * x2) ≤ x3) → ((-2147483648 ≤ (60 * x1) ∧ (60 * x1) ≤ 2147483647) ∧ ((-2147483648 ≤ ((60 * x1) + x3) ∧ ((60 * x1) + x3) ≤ 2147483647) ∧ (((x2 ≤ x3) → ((-2147483648 ≤ (x3 - x2) ∧ (x3 - x2) ≤ 2147483647) ∧ ((-2147483648 ≤ (3 * (x3 - x2)) ∧ (3 * (x3 - x2)) ≤ 2147483647) ∧ ((-2147483648 ≤ (10 + (3 * (x3 - x2))) ∧ (10 + (3 * (x3 - x2))) ≤ 2147483647) ∧ ((-2147483648 ≤ ((10 + (3 * (x3 - x2))) + 1) ∧ ((10 + (3 * (x3 - x2))) + 1) ≤ 2147483647) ∧ ((0 ≤ ((10 + (3 * (x3 - x2))) + 1) ∧ ((10 + (3 * (x3 - x2))) + 1) < 3296) ∧ ((0 ≤ x1 ∧ x1 < 4) ∧ ((((g 2 x1) = 0) → ((0 ≤ ((60 * x1) + x3) ∧ ((60 * x1) + x3) < 240) ∧ ((-2147483648 ≤ (x3 + 1) ∧ (x3 + 1) ≤ 2147483647) ∧ L_M_copyPins_56 X N σ x1 x2 (x3 + 1) (z_up g 4 ((60 * x1) + x3) (Int.bmod (Int.bmod (g 1 ((10 + (3 * (x3 - x2))) + 1)) 4294967296) 256)) Q))) ∧ (¬ ((g 2 x1) = 0) → ((((g 2 x1) = 1) → ((0 ≤ ((60 * x1) + x3) ∧ ((60 * x1) + x3) < 240) ∧ ((-2147483648 ≤ (x3 + 1) ∧ (x3 + 1) ≤ 2147483647) ∧ L_M_copyPins_56 X N σ x1 x2 (x3 + 1) (z_up g 4 ((60 * x1) + x3) (Int.bmod (Int.bmod (g 1 ((10 + (3 * (x3 - x2))) + 1)) 4294967296) 65536)) Q))) ∧ (¬ ((g 2 x1) = 1) → ((((g 2 x1) = 2) → ((0 ≤ ((60 * x1) + x3) ∧ ((60 * x1) + x3) < 240) ∧ ((-2147483648 ≤ (x3 + 1) ∧ (x3 + 1) ≤ 2147483647) ∧ L_M_copyPins_56 X N σ x1 x2 (x3 + 1) (z_up g 4 ((60 * x1) + x3) (Int.bmod (g 1 ((10 + (3 * (x3 - x2))) + 1)) 4294967296)) Q))) ∧ (¬ ((g 2 x1) = 2) → ((0 ≤ ((60 * x1) + x3) ∧ ((60 * x1) + x3) < 240) ∧ ((-2147483648 ≤ (x3 + 1) ∧ (x3 + 1) ≤ 2147483647) ∧ L_M_copyPins_56 X N σ x1 x2 (x3 + 1) (z_up g 4 ((60 * x1) + x3) (g 1 ((10 + (3 * (x3 - x2))) + 1))) Q))))))))))))))) ∧ (¬ (x2 ≤ x3) → ((-2147483648 ≤ (3 * x3) ∧ (3 * x3) ≤ 2147483647) ∧ ((-2147483648 ≤ (10 + (3 * x3)) ∧ (10 + (3 * x3)) ≤ 2147483647) ∧ ((0 ≤ (10 + (3 * x3)) ∧ (10 + (3 * x3)) < 3296) ∧ ((0 ≤ x1 ∧ x1 < 4) ∧ ((((g 2 x1) = 0) → ((0 ≤ ((60 * x1) + x3) ∧ ((60 * x1) + x3) < 240) ∧ ((-2147483648 ≤ (x3 + 1) ∧ (x3 + 1) ≤ 2147483647) ∧ L_M_copyPins_56 X N σ x1 x2 (x3 + 1) (z_up g 4 ((60 * x1) + x3) (Int.bmod (Int.bmod (g 1 (10 + (3 * x3))) 4294967296) 256)) Q))) ∧ (¬ ((g 2 x1) = 0) → ((((g 2 x1) = 1) → ((0 ≤ ((60 * x1) + x3) ∧ ((60 * x1) + x3) < 240) ∧ ((-2147483648 ≤ (x3 + 1) ∧ (x3 + 1) ≤ 2147483647) ∧ L_M_copyPins_56 X N σ x1 x2 (x3 + 1) (z_up g 4 ((60 * x1) + x3) (Int.bmod (Int.bmod (g 1 (10 + (3 * x3))) 4294967296) 65536)) Q))) ∧ (¬ ((g 2 x1) = 1) → ((((g 2 x1) = 2) → ((0 ≤ ((60 * x1) + x3) ∧ ((60 * x1) + x3) < 240) ∧ ((-2147483648 ≤ (x3 + 1) ∧ (x3 + 1) ≤ 2147483647) ∧ L_M_copyPins_56 X N σ x1 x2 (x3 + 1) (z_up g 4 ((60 * x1) + x3) (Int.bmod (g 1 (10 + (3 * x3))) 4294967296)) Q))) ∧ (¬ ((g 2 x1) = 2) → ((0 ≤ ((60 * x1) + x3) ∧ ((60 * x1) + x3) < 240) ∧ ((-2147483648 ≤ (x3 + 1) ∧ (x3 + 1) ≤ 2147483647) ∧ L_M_copyPins_56 X N σ x1 x2 (x3 + 1) (z_up g 4 ((60 * x1) + x3) (g 1 (10 + (3 * x3)))) Q))))))))))))))))))) : L_M_copyPins_56 X N σ x1 x2 x3 g Q := by
  refine z_iload_n (i := 3) 3 d_M_copyPins_56 rfl rfl ?_
  refine z_iconst (n := 2) d_M_copyPins_57 (by decide) ?_
  refine z_iload_n (i := 2) 2 d_M_copyPins_58 rfl rfl ?_
  obtain ⟨c1, h⟩ := h
  refine z_imul d_M_copyPins_59 c1 ?_
  refine z_icmp_ge (tgt := 111) d_M_copyPins_60 (by decide) (fun c2 => ?_) (fun c2 => ?_)
  · have h := h.1 c2
    refine z_aload_n (i := 0) (c := 0) 0 d_M_copyPins_111 rfl rfl rfl ?_
    refine z_iload_n (i := 2) 2 d_M_copyPins_112 rfl rfl ?_
    refine z_cV (c := 0) (as := [(0, x2)]) (d' := 1) (st := []) d_M_copyPins_113 mi_M_gives ml_M_91 mv_M_gives se_M_gives rfl rfl rfl rfl (ks_M_0 hx) rfl rfl (kl_M_0 hx) rfl rfl (b_M_gives_0 hx ?_)
    intro _
    show z_U X 3 m_M_copyPins 116 [(0, (2, 0)), (1, (0, x1)), (2, (0, x2)), (3, (0, x3))] [(0, x2)] N σ (z_up g 0 1 0) Q
    exact z_iret d_M_copyPins_116 rfl (by decide) (by decide) ⟨rfl, rfl, h⟩
  · have h := h.2 c2
    refine z_aload_n (i := 0) (c := 0) 0 d_M_copyPins_63 rfl rfl rfl ?_
    refine z_getr (c := 0) (kI := 6) (r2 := 4) d_M_copyPins_64 fd_M_trays fl_M_23 rfl rfl rfl (ks_M_0 hx) (kl_M_0 hx) (kr_M_0_6 hx) ?_
    refine z_bipush (n := 60) d_M_copyPins_67 (by decide) (by decide) ?_
    refine z_iload_n (i := 1) 1 d_M_copyPins_69 rfl rfl ?_
    obtain ⟨c3, h⟩ := h
    refine z_imul d_M_copyPins_70 c3 ?_
    refine z_iload_n (i := 3) 3 d_M_copyPins_71 rfl rfl ?_
    obtain ⟨c4, h⟩ := h
    refine z_iadd d_M_copyPins_72 c4 ?_
    refine z_iload_n (i := 3) 3 d_M_copyPins_73 rfl rfl ?_
    refine z_iload_n (i := 2) 2 d_M_copyPins_74 rfl rfl ?_
    refine z_icmp_ge (tgt := 87) d_M_copyPins_75 (by decide) (fun c5 => ?_) (fun c5 => ?_)
    · have h := h.1 c5
      refine z_aload_n (i := 0) (c := 0) 0 d_M_copyPins_87 rfl rfl rfl ?_
      refine z_iload_n (i := 3) 3 d_M_copyPins_88 rfl rfl ?_
      refine z_iload_n (i := 2) 2 d_M_copyPins_89 rfl rfl ?_
      obtain ⟨c6, h⟩ := h
      refine z_isub d_M_copyPins_90 c6 ?_
      refine z_cV (c := 0) (as := [(0, x3 - x2)]) (d' := 2) (st := [(0, (60 * x1) + x3), (2, 4)]) d_M_copyPins_91 mi_M_bottomOf ml_M_369 mv_M_bottomOf se_M_bottomOf rfl rfl rfl rfl (ks_M_0 hx) rfl rfl (kl_M_0 hx) rfl rfl (b_M_bottomOf_0 hx ?_)
      obtain ⟨c7, h⟩ := h
      refine ⟨c7, ?_⟩
      obtain ⟨c8, h⟩ := h
      refine ⟨c8, ?_⟩
      obtain ⟨c9, h⟩ := h
      refine ⟨c9, ?_⟩
      obtain ⟨c10, h⟩ := h
      refine ⟨c10, ?_⟩
      intro _
      show z_U X 3 m_M_copyPins 94 [(0, (2, 0)), (1, (0, x1)), (2, (0, x2)), (3, (0, x3))] [(0, g 1 ((10 + (3 * (x3 - x2))) + 1)), (0, (60 * x1) + x3), (2, 4)] N σ g Q
      refine z_i2l d_M_copyPins_94 ?_
      refine z_aload_n (i := 0) (c := 0) 0 d_M_copyPins_95 rfl rfl rfl ?_
      refine z_getr (c := 0) (kI := 4) (r2 := 2) d_M_copyPins_96 fd_M_sort fl_M_17 rfl rfl rfl (ks_M_0 hx) (kl_M_0 hx) (kr_M_0_4 hx) ?_
      refine z_iload_n (i := 1) 1 d_M_copyPins_99 rfl rfl ?_
      obtain ⟨c11, h⟩ := h
      refine z_iald (c := 2) (m := 4) d_M_copyPins_100 rfl (ks_M_2 hx) (kl_M_2 hx) rfl (by decide) c11 ?_
      refine z_cS (as := [(1, g 1 ((10 + (3 * (x3 - x2))) + 1)), (0, g 2 x1)]) (d' := 1) (st := [(0, (60 * x1) + x3), (2, 4)]) d_M_copyPins_101 mi_M_cut ml_M_105 ms_M_cut rfl rfl rfl rfl rfl (b_M_cut_0  ?_)
      refine ⟨fun c12 => ?_, fun c12 => ?_⟩
      · have h := h.1 c12
        intro _
        show z_U X 3 m_M_copyPins 104 [(0, (2, 0)), (1, (0, x1)), (2, (0, x2)), (3, (0, x3))] [(1, Int.bmod (Int.bmod (g 1 ((10 + (3 * (x3 - x2))) + 1)) 4294967296) 256), (0, (60 * x1) + x3), (2, 4)] N σ g Q
        obtain ⟨c13, h⟩ := h
        refine z_last (c := 4) (m := 240) d_M_copyPins_104 rfl (ks_M_4 hx) (kl_M_4 hx) rfl (by decide) c13 ?_
        obtain ⟨c14, h⟩ := h
        refine z_iinc (n := 1) (ls' := [(3, (0, x3 + 1)), (0, (2, 0)), (1, (0, x1)), (2, (0, x2))]) 3 d_M_copyPins_105 rfl c14 rfl rfl ?_
        refine z_goto (tgt := 56) d_M_copyPins_108 (by decide) ?_
        refine z_sub (ls' := [(0, (2, 0)), (1, (0, x1)), (2, (0, x2)), (3, (0, x3 + 1))]) [1, 2, 3, 0] rfl ?_
        exact h
      · have h := h.2 c12
        refine ⟨fun c15 => ?_, fun c15 => ?_⟩
        · have h := h.1 c15
          intro _
          show z_U X 3 m_M_copyPins 104 [(0, (2, 0)), (1, (0, x1)), (2, (0, x2)), (3, (0, x3))] [(1, Int.bmod (Int.bmod (g 1 ((10 + (3 * (x3 - x2))) + 1)) 4294967296) 65536), (0, (60 * x1) + x3), (2, 4)] N σ g Q
          obtain ⟨c16, h⟩ := h
          refine z_last (c := 4) (m := 240) d_M_copyPins_104 rfl (ks_M_4 hx) (kl_M_4 hx) rfl (by decide) c16 ?_
          obtain ⟨c17, h⟩ := h
          refine z_iinc (n := 1) (ls' := [(3, (0, x3 + 1)), (0, (2, 0)), (1, (0, x1)), (2, (0, x2))]) 3 d_M_copyPins_105 rfl c17 rfl rfl ?_
          refine z_goto (tgt := 56) d_M_copyPins_108 (by decide) ?_
          refine z_sub (ls' := [(0, (2, 0)), (1, (0, x1)), (2, (0, x2)), (3, (0, x3 + 1))]) [1, 2, 3, 0] rfl ?_
          exact h
        · have h := h.2 c15
          refine ⟨fun c18 => ?_, fun c18 => ?_⟩
          · have h := h.1 c18
            intro _
            show z_U X 3 m_M_copyPins 104 [(0, (2, 0)), (1, (0, x1)), (2, (0, x2)), (3, (0, x3))] [(1, Int.bmod (g 1 ((10 + (3 * (x3 - x2))) + 1)) 4294967296), (0, (60 * x1) + x3), (2, 4)] N σ g Q
            obtain ⟨c19, h⟩ := h
            refine z_last (c := 4) (m := 240) d_M_copyPins_104 rfl (ks_M_4 hx) (kl_M_4 hx) rfl (by decide) c19 ?_
            obtain ⟨c20, h⟩ := h
            refine z_iinc (n := 1) (ls' := [(3, (0, x3 + 1)), (0, (2, 0)), (1, (0, x1)), (2, (0, x2))]) 3 d_M_copyPins_105 rfl c20 rfl rfl ?_
            refine z_goto (tgt := 56) d_M_copyPins_108 (by decide) ?_
            refine z_sub (ls' := [(0, (2, 0)), (1, (0, x1)), (2, (0, x2)), (3, (0, x3 + 1))]) [1, 2, 3, 0] rfl ?_
            exact h
          · have h := h.2 c18
            intro _
            show z_U X 3 m_M_copyPins 104 [(0, (2, 0)), (1, (0, x1)), (2, (0, x2)), (3, (0, x3))] [(1, g 1 ((10 + (3 * (x3 - x2))) + 1)), (0, (60 * x1) + x3), (2, 4)] N σ g Q
            obtain ⟨c21, h⟩ := h
            refine z_last (c := 4) (m := 240) d_M_copyPins_104 rfl (ks_M_4 hx) (kl_M_4 hx) rfl (by decide) c21 ?_
            obtain ⟨c22, h⟩ := h
            refine z_iinc (n := 1) (ls' := [(3, (0, x3 + 1)), (0, (2, 0)), (1, (0, x1)), (2, (0, x2))]) 3 d_M_copyPins_105 rfl c22 rfl rfl ?_
            refine z_goto (tgt := 56) d_M_copyPins_108 (by decide) ?_
            refine z_sub (ls' := [(0, (2, 0)), (1, (0, x1)), (2, (0, x2)), (3, (0, x3 + 1))]) [1, 2, 3, 0] rfl ?_
            exact h
    · have h := h.2 c5
      refine z_aload_n (i := 0) (c := 0) 0 d_M_copyPins_78 rfl rfl rfl ?_
      refine z_iload_n (i := 3) 3 d_M_copyPins_79 rfl rfl ?_
      refine z_cV (c := 0) (as := [(0, x3)]) (d' := 2) (st := [(0, (60 * x1) + x3), (2, 4)]) d_M_copyPins_80 mi_M_topOf ml_M_366 mv_M_topOf se_M_topOf rfl rfl rfl rfl (ks_M_0 hx) rfl rfl (kl_M_0 hx) rfl rfl (b_M_topOf_0 hx ?_)
      obtain ⟨c23, h⟩ := h
      refine ⟨c23, ?_⟩
      obtain ⟨c24, h⟩ := h
      refine ⟨c24, ?_⟩
      obtain ⟨c25, h⟩ := h
      refine ⟨c25, ?_⟩
      intro _
      show z_U X 3 m_M_copyPins 83 [(0, (2, 0)), (1, (0, x1)), (2, (0, x2)), (3, (0, x3))] [(0, g 1 (10 + (3 * x3))), (0, (60 * x1) + x3), (2, 4)] N σ g Q
      refine z_i2l d_M_copyPins_83 ?_
      refine z_goto (tgt := 95) d_M_copyPins_84 (by decide) ?_
      refine z_aload_n (i := 0) (c := 0) 0 d_M_copyPins_95 rfl rfl rfl ?_
      refine z_getr (c := 0) (kI := 4) (r2 := 2) d_M_copyPins_96 fd_M_sort fl_M_17 rfl rfl rfl (ks_M_0 hx) (kl_M_0 hx) (kr_M_0_4 hx) ?_
      refine z_iload_n (i := 1) 1 d_M_copyPins_99 rfl rfl ?_
      obtain ⟨c26, h⟩ := h
      refine z_iald (c := 2) (m := 4) d_M_copyPins_100 rfl (ks_M_2 hx) (kl_M_2 hx) rfl (by decide) c26 ?_
      refine z_cS (as := [(1, g 1 (10 + (3 * x3))), (0, g 2 x1)]) (d' := 1) (st := [(0, (60 * x1) + x3), (2, 4)]) d_M_copyPins_101 mi_M_cut ml_M_105 ms_M_cut rfl rfl rfl rfl rfl (b_M_cut_0  ?_)
      refine ⟨fun c27 => ?_, fun c27 => ?_⟩
      · have h := h.1 c27
        intro _
        show z_U X 3 m_M_copyPins 104 [(0, (2, 0)), (1, (0, x1)), (2, (0, x2)), (3, (0, x3))] [(1, Int.bmod (Int.bmod (g 1 (10 + (3 * x3))) 4294967296) 256), (0, (60 * x1) + x3), (2, 4)] N σ g Q
        obtain ⟨c28, h⟩ := h
        refine z_last (c := 4) (m := 240) d_M_copyPins_104 rfl (ks_M_4 hx) (kl_M_4 hx) rfl (by decide) c28 ?_
        obtain ⟨c29, h⟩ := h
        refine z_iinc (n := 1) (ls' := [(3, (0, x3 + 1)), (0, (2, 0)), (1, (0, x1)), (2, (0, x2))]) 3 d_M_copyPins_105 rfl c29 rfl rfl ?_
        refine z_goto (tgt := 56) d_M_copyPins_108 (by decide) ?_
        refine z_sub (ls' := [(0, (2, 0)), (1, (0, x1)), (2, (0, x2)), (3, (0, x3 + 1))]) [1, 2, 3, 0] rfl ?_
        exact h
      · have h := h.2 c27
        refine ⟨fun c30 => ?_, fun c30 => ?_⟩
        · have h := h.1 c30
          intro _
          show z_U X 3 m_M_copyPins 104 [(0, (2, 0)), (1, (0, x1)), (2, (0, x2)), (3, (0, x3))] [(1, Int.bmod (Int.bmod (g 1 (10 + (3 * x3))) 4294967296) 65536), (0, (60 * x1) + x3), (2, 4)] N σ g Q
          obtain ⟨c31, h⟩ := h
          refine z_last (c := 4) (m := 240) d_M_copyPins_104 rfl (ks_M_4 hx) (kl_M_4 hx) rfl (by decide) c31 ?_
          obtain ⟨c32, h⟩ := h
          refine z_iinc (n := 1) (ls' := [(3, (0, x3 + 1)), (0, (2, 0)), (1, (0, x1)), (2, (0, x2))]) 3 d_M_copyPins_105 rfl c32 rfl rfl ?_
          refine z_goto (tgt := 56) d_M_copyPins_108 (by decide) ?_
          refine z_sub (ls' := [(0, (2, 0)), (1, (0, x1)), (2, (0, x2)), (3, (0, x3 + 1))]) [1, 2, 3, 0] rfl ?_
          exact h
        · have h := h.2 c30
          refine ⟨fun c33 => ?_, fun c33 => ?_⟩
          · have h := h.1 c33
            intro _
            show z_U X 3 m_M_copyPins 104 [(0, (2, 0)), (1, (0, x1)), (2, (0, x2)), (3, (0, x3))] [(1, Int.bmod (g 1 (10 + (3 * x3))) 4294967296), (0, (60 * x1) + x3), (2, 4)] N σ g Q
            obtain ⟨c34, h⟩ := h
            refine z_last (c := 4) (m := 240) d_M_copyPins_104 rfl (ks_M_4 hx) (kl_M_4 hx) rfl (by decide) c34 ?_
            obtain ⟨c35, h⟩ := h
            refine z_iinc (n := 1) (ls' := [(3, (0, x3 + 1)), (0, (2, 0)), (1, (0, x1)), (2, (0, x2))]) 3 d_M_copyPins_105 rfl c35 rfl rfl ?_
            refine z_goto (tgt := 56) d_M_copyPins_108 (by decide) ?_
            refine z_sub (ls' := [(0, (2, 0)), (1, (0, x1)), (2, (0, x2)), (3, (0, x3 + 1))]) [1, 2, 3, 0] rfl ?_
            exact h
          · have h := h.2 c33
            intro _
            show z_U X 3 m_M_copyPins 104 [(0, (2, 0)), (1, (0, x1)), (2, (0, x2)), (3, (0, x3))] [(1, g 1 (10 + (3 * x3))), (0, (60 * x1) + x3), (2, 4)] N σ g Q
            obtain ⟨c36, h⟩ := h
            refine z_last (c := 4) (m := 240) d_M_copyPins_104 rfl (ks_M_4 hx) (kl_M_4 hx) rfl (by decide) c36 ?_
            obtain ⟨c37, h⟩ := h
            refine z_iinc (n := 1) (ls' := [(3, (0, x3 + 1)), (0, (2, 0)), (1, (0, x1)), (2, (0, x2))]) 3 d_M_copyPins_105 rfl c37 rfl rfl ?_
            refine z_goto (tgt := 56) d_M_copyPins_108 (by decide) ?_
            refine z_sub (ls' := [(0, (2, 0)), (1, (0, x1)), (2, (0, x2)), (3, (0, x3 + 1))]) [1, 2, 3, 0] rfl ?_
            exact h
theorem d_M_depth_0 : decode (z_c m_M_depth) 0 = .ok (.iload_n 1, 1) := by decide +kernel
theorem d_M_depth_1 : decode (z_c m_M_depth) 1 = .ok (.iload_n 2, 1) := by decide +kernel
theorem d_M_depth_2 : decode (z_c m_M_depth) 2 = .ok (.invokestatic 272, 3) := by decide +kernel
theorem d_M_depth_5 : decode (z_c m_M_depth) 5 = .ok (.ifCond .ne 11, 3) := by decide +kernel
theorem d_M_depth_8 : decode (z_c m_M_depth) 8 = .ok (.aload_n 0, 1) := by decide +kernel
theorem d_M_depth_9 : decode (z_c m_M_depth) 9 = .ok (.iconst 1, 1) := by decide +kernel
theorem d_M_depth_10 : decode (z_c m_M_depth) 10 = .ok (.invokevirtual 87, 3) := by decide +kernel
theorem d_M_depth_13 : decode (z_c m_M_depth) 13 = .ok (.goto 30, 3) := by decide +kernel
theorem d_M_depth_16 : decode (z_c m_M_depth) 16 = .ok (.iload_n 1, 1) := by decide +kernel
theorem d_M_depth_17 : decode (z_c m_M_depth) 17 = .ok (.iload_n 2, 1) := by decide +kernel
theorem d_M_depth_18 : decode (z_c m_M_depth) 18 = .ok (.invokestatic 297, 3) := by decide +kernel
theorem d_M_depth_21 : decode (z_c m_M_depth) 21 = .ok (.ifCond .eq 16, 3) := by decide +kernel
theorem d_M_depth_24 : decode (z_c m_M_depth) 24 = .ok (.aload_n 0, 1) := by decide +kernel
theorem d_M_depth_25 : decode (z_c m_M_depth) 25 = .ok (.aload_n 0, 1) := by decide +kernel
theorem d_M_depth_26 : decode (z_c m_M_depth) 26 = .ok (.iload_n 1, 1) := by decide +kernel
theorem d_M_depth_27 : decode (z_c m_M_depth) 27 = .ok (.iload_n 2, 1) := by decide +kernel
theorem d_M_depth_28 : decode (z_c m_M_depth) 28 = .ok (.invokevirtual 260, 3) := by decide +kernel
theorem d_M_depth_31 : decode (z_c m_M_depth) 31 = .ok (.invokevirtual 91, 3) := by decide +kernel
theorem d_M_depth_34 : decode (z_c m_M_depth) 34 = .ok (.goto 9, 3) := by decide +kernel
theorem d_M_depth_37 : decode (z_c m_M_depth) 37 = .ok (.aload_n 0, 1) := by decide +kernel
theorem d_M_depth_38 : decode (z_c m_M_depth) 38 = .ok (.bipush 7, 2) := by decide +kernel
theorem d_M_depth_40 : decode (z_c m_M_depth) 40 = .ok (.invokevirtual 87, 3) := by decide +kernel
theorem d_M_depth_43 : decode (z_c m_M_depth) 43 = .ok (.ireturn, 1) := by decide +kernel
set_option maxRecDepth 8000 in
theorem b_M_depth_0 {X : z_X} {N : Nat} {σ g : z_G} {Q : z_P} {a1 a2 : Int} (hx : z_lay X N σ 0 z_SM z_RM) (h : ((a2 < 1) → Q (-1) (z_up g 0 1 1)) ∧ (¬ (a2 < 1) → (((9999 < a2) → Q (-1) (z_up g 0 1 1)) ∧ (¬ (9999 < a2) → (((a1 < 0) → Q (-1) (z_up g 0 1 1)) ∧ (¬ (a1 < 0) → (((a2 < a1) → Q (-1) (z_up g 0 1 1)) ∧ (¬ (a2 < a1) → (((a1 ≤ 0) → Q (-1) (z_up g 0 1 7)) ∧ (¬ (a1 ≤ 0) → (((a2 ≤ a1) → Q (-1) (z_up g 0 1 7)) ∧ (¬ (a2 ≤ a1) → (z_O X 2 m_M_depthOf [(2, 0), (0, a1), (0, a2)] N σ g (fun r0 g0 => Q r0 (z_up g0 0 1 0))))))))))))))) : z_O X 3 m_M_depth [(2, 0), (0, a1), (0, a2)] N σ g Q := by
  refine z_Oenter mi_M_depth rfl (fun _ => ?_)
  show z_U X 3 m_M_depth 0 [(0, (2, 0)), (1, (0, a1)), (2, (0, a2))] [] N σ g Q
  refine z_iload_n (i := 1) 1 d_M_depth_0 rfl rfl ?_
  refine z_iload_n (i := 2) 2 d_M_depth_1 rfl rfl ?_
  refine z_cS (as := [(0, a1), (0, a2)]) (d' := 1) (st := []) d_M_depth_2 mi_M_isValue ml_M_272 ms_M_isValue rfl rfl rfl rfl rfl (b_M_isValue_0  ?_)
  refine ⟨fun c1 => ?_, fun c1 => ?_⟩
  · have h := h.1 c1
    intro _
    show z_U X 3 m_M_depth 5 [(0, (2, 0)), (1, (0, a1)), (2, (0, a2))] [(0, 0)] N σ g Q
    refine z_if_ne (tgt := 16) d_M_depth_5 (by decide) (fun c => absurd (by decide) c) (fun _ => ?_)
    refine z_aload_n (i := 0) (c := 0) 0 d_M_depth_8 rfl rfl rfl ?_
    refine z_iconst (n := 1) d_M_depth_9 (by decide) ?_
    refine z_cV (c := 0) (as := [(0, 1)]) (d' := 1) (st := []) d_M_depth_10 mi_M_refuse ml_M_87 mv_M_refuse se_M_refuse rfl rfl rfl rfl (ks_M_0 hx) rfl rfl (kl_M_0 hx) rfl rfl (b_M_refuse_0 hx ?_)
    intro _
    show z_U X 3 m_M_depth 13 [(0, (2, 0)), (1, (0, a1)), (2, (0, a2))] [(0, (-1))] N σ (z_up g 0 1 1) Q
    refine z_goto (tgt := 43) d_M_depth_13 (by decide) ?_
    exact z_iret d_M_depth_43 rfl (by decide) (by decide) ⟨rfl, rfl, h⟩
  · have h := h.2 c1
    refine ⟨fun c2 => ?_, fun c2 => ?_⟩
    · have h := h.1 c2
      intro _
      show z_U X 3 m_M_depth 5 [(0, (2, 0)), (1, (0, a1)), (2, (0, a2))] [(0, 0)] N σ g Q
      refine z_if_ne (tgt := 16) d_M_depth_5 (by decide) (fun c => absurd (by decide) c) (fun _ => ?_)
      refine z_aload_n (i := 0) (c := 0) 0 d_M_depth_8 rfl rfl rfl ?_
      refine z_iconst (n := 1) d_M_depth_9 (by decide) ?_
      refine z_cV (c := 0) (as := [(0, 1)]) (d' := 1) (st := []) d_M_depth_10 mi_M_refuse ml_M_87 mv_M_refuse se_M_refuse rfl rfl rfl rfl (ks_M_0 hx) rfl rfl (kl_M_0 hx) rfl rfl (b_M_refuse_0 hx ?_)
      intro _
      show z_U X 3 m_M_depth 13 [(0, (2, 0)), (1, (0, a1)), (2, (0, a2))] [(0, (-1))] N σ (z_up g 0 1 1) Q
      refine z_goto (tgt := 43) d_M_depth_13 (by decide) ?_
      exact z_iret d_M_depth_43 rfl (by decide) (by decide) ⟨rfl, rfl, h⟩
    · have h := h.2 c2
      refine ⟨fun c3 => ?_, fun c3 => ?_⟩
      · have h := h.1 c3
        intro _
        show z_U X 3 m_M_depth 5 [(0, (2, 0)), (1, (0, a1)), (2, (0, a2))] [(0, 0)] N σ g Q
        refine z_if_ne (tgt := 16) d_M_depth_5 (by decide) (fun c => absurd (by decide) c) (fun _ => ?_)
        refine z_aload_n (i := 0) (c := 0) 0 d_M_depth_8 rfl rfl rfl ?_
        refine z_iconst (n := 1) d_M_depth_9 (by decide) ?_
        refine z_cV (c := 0) (as := [(0, 1)]) (d' := 1) (st := []) d_M_depth_10 mi_M_refuse ml_M_87 mv_M_refuse se_M_refuse rfl rfl rfl rfl (ks_M_0 hx) rfl rfl (kl_M_0 hx) rfl rfl (b_M_refuse_0 hx ?_)
        intro _
        show z_U X 3 m_M_depth 13 [(0, (2, 0)), (1, (0, a1)), (2, (0, a2))] [(0, (-1))] N σ (z_up g 0 1 1) Q
        refine z_goto (tgt := 43) d_M_depth_13 (by decide) ?_
        exact z_iret d_M_depth_43 rfl (by decide) (by decide) ⟨rfl, rfl, h⟩
      · have h := h.2 c3
        refine ⟨fun c4 => ?_, fun c4 => ?_⟩
        · have h := h.1 c4
          intro _
          show z_U X 3 m_M_depth 5 [(0, (2, 0)), (1, (0, a1)), (2, (0, a2))] [(0, 0)] N σ g Q
          refine z_if_ne (tgt := 16) d_M_depth_5 (by decide) (fun c => absurd (by decide) c) (fun _ => ?_)
          refine z_aload_n (i := 0) (c := 0) 0 d_M_depth_8 rfl rfl rfl ?_
          refine z_iconst (n := 1) d_M_depth_9 (by decide) ?_
          refine z_cV (c := 0) (as := [(0, 1)]) (d' := 1) (st := []) d_M_depth_10 mi_M_refuse ml_M_87 mv_M_refuse se_M_refuse rfl rfl rfl rfl (ks_M_0 hx) rfl rfl (kl_M_0 hx) rfl rfl (b_M_refuse_0 hx ?_)
          intro _
          show z_U X 3 m_M_depth 13 [(0, (2, 0)), (1, (0, a1)), (2, (0, a2))] [(0, (-1))] N σ (z_up g 0 1 1) Q
          refine z_goto (tgt := 43) d_M_depth_13 (by decide) ?_
          exact z_iret d_M_depth_43 rfl (by decide) (by decide) ⟨rfl, rfl, h⟩
        · have h := h.2 c4
          intro _
          show z_U X 3 m_M_depth 5 [(0, (2, 0)), (1, (0, a1)), (2, (0, a2))] [(0, 1)] N σ g Q
          refine z_if_ne (tgt := 16) d_M_depth_5 (by decide) (fun _ => ?_) (fun c => absurd c (by decide))
          refine z_iload_n (i := 1) 1 d_M_depth_16 rfl rfl ?_
          refine z_iload_n (i := 2) 2 d_M_depth_17 rfl rfl ?_
          refine z_cS (as := [(0, a1), (0, a2)]) (d' := 1) (st := []) d_M_depth_18 mi_M_isOfTree ml_M_297 ms_M_isOfTree rfl rfl rfl rfl rfl (b_M_isOfTree_0  ?_)
          refine ⟨fun c5 => ?_, fun c5 => ?_⟩
          · have h := h.1 c5
            intro _
            show z_U X 3 m_M_depth 21 [(0, (2, 0)), (1, (0, a1)), (2, (0, a2))] [(0, 0)] N σ g Q
            refine z_if_eq (tgt := 37) d_M_depth_21 (by decide) (fun _ => ?_) (fun c => absurd (by decide) c)
            refine z_aload_n (i := 0) (c := 0) 0 d_M_depth_37 rfl rfl rfl ?_
            refine z_bipush (n := 7) d_M_depth_38 (by decide) (by decide) ?_
            refine z_cV (c := 0) (as := [(0, 7)]) (d' := 1) (st := []) d_M_depth_40 mi_M_refuse ml_M_87 mv_M_refuse se_M_refuse rfl rfl rfl rfl (ks_M_0 hx) rfl rfl (kl_M_0 hx) rfl rfl (b_M_refuse_0 hx ?_)
            intro _
            show z_U X 3 m_M_depth 43 [(0, (2, 0)), (1, (0, a1)), (2, (0, a2))] [(0, (-1))] N σ (z_up g 0 1 7) Q
            exact z_iret d_M_depth_43 rfl (by decide) (by decide) ⟨rfl, rfl, h⟩
          · have h := h.2 c5
            refine ⟨fun c6 => ?_, fun c6 => ?_⟩
            · have h := h.1 c6
              intro _
              show z_U X 3 m_M_depth 21 [(0, (2, 0)), (1, (0, a1)), (2, (0, a2))] [(0, 0)] N σ g Q
              refine z_if_eq (tgt := 37) d_M_depth_21 (by decide) (fun _ => ?_) (fun c => absurd (by decide) c)
              refine z_aload_n (i := 0) (c := 0) 0 d_M_depth_37 rfl rfl rfl ?_
              refine z_bipush (n := 7) d_M_depth_38 (by decide) (by decide) ?_
              refine z_cV (c := 0) (as := [(0, 7)]) (d' := 1) (st := []) d_M_depth_40 mi_M_refuse ml_M_87 mv_M_refuse se_M_refuse rfl rfl rfl rfl (ks_M_0 hx) rfl rfl (kl_M_0 hx) rfl rfl (b_M_refuse_0 hx ?_)
              intro _
              show z_U X 3 m_M_depth 43 [(0, (2, 0)), (1, (0, a1)), (2, (0, a2))] [(0, (-1))] N σ (z_up g 0 1 7) Q
              exact z_iret d_M_depth_43 rfl (by decide) (by decide) ⟨rfl, rfl, h⟩
            · have h := h.2 c6
              intro _
              show z_U X 3 m_M_depth 21 [(0, (2, 0)), (1, (0, a1)), (2, (0, a2))] [(0, 1)] N σ g Q
              refine z_if_eq (tgt := 37) d_M_depth_21 (by decide) (fun c => absurd c (by decide)) (fun _ => ?_)
              refine z_aload_n (i := 0) (c := 0) 0 d_M_depth_24 rfl rfl rfl ?_
              refine z_aload_n (i := 0) (c := 0) 0 d_M_depth_25 rfl rfl rfl ?_
              refine z_iload_n (i := 1) 1 d_M_depth_26 rfl rfl ?_
              refine z_iload_n (i := 2) 2 d_M_depth_27 rfl rfl ?_
              refine z_cV (c := 0) (as := [(0, a1), (0, a2)]) (d' := 2) (st := [(2, 0)]) d_M_depth_28 mi_M_depthOf ml_M_260 mv_M_depthOf se_M_depthOf rfl rfl rfl rfl (ks_M_0 hx) rfl rfl (kl_M_0 hx) rfl rfl (z_Omono h (fun r0 g0 _ h hro => ?_))
              show z_U X 3 m_M_depth 31 [(0, (2, 0)), (1, (0, a1)), (2, (0, a2))] [(0, r0), (2, 0)] N σ g0 Q
              refine z_cV (c := 0) (as := [(0, r0)]) (d' := 1) (st := []) d_M_depth_31 mi_M_gives ml_M_91 mv_M_gives se_M_gives rfl rfl rfl rfl (ks_M_0 hx) rfl rfl (kl_M_0 hx) rfl rfl (b_M_gives_0 hx ?_)
              intro _
              show z_U X 3 m_M_depth 34 [(0, (2, 0)), (1, (0, a1)), (2, (0, a2))] [(0, r0)] N σ (z_up g0 0 1 0) Q
              refine z_goto (tgt := 43) d_M_depth_34 (by decide) ?_
              exact z_iret d_M_depth_43 rfl (by decide) (by decide) ⟨rfl, rfl, h⟩
theorem d_M_depthNow_0 : decode (z_c m_M_depthNow) 0 = .ok (.aload_n 0, 1) := by decide +kernel
theorem d_M_depthNow_1 : decode (z_c m_M_depthNow) 1 = .ok (.aload_n 0, 1) := by decide +kernel
theorem d_M_depthNow_2 : decode (z_c m_M_depthNow) 2 = .ok (.getfield 7, 3) := by decide +kernel
theorem d_M_depthNow_5 : decode (z_c m_M_depthNow) 5 = .ok (.iconst 2, 1) := by decide +kernel
theorem d_M_depthNow_6 : decode (z_c m_M_depthNow) 6 = .ok (.iaload, 1) := by decide +kernel
theorem d_M_depthNow_7 : decode (z_c m_M_depthNow) 7 = .ok (.aload_n 0, 1) := by decide +kernel
theorem d_M_depthNow_8 : decode (z_c m_M_depthNow) 8 = .ok (.getfield 7, 3) := by decide +kernel
theorem d_M_depthNow_11 : decode (z_c m_M_depthNow) 11 = .ok (.iconst 3, 1) := by decide +kernel
theorem d_M_depthNow_12 : decode (z_c m_M_depthNow) 12 = .ok (.iaload, 1) := by decide +kernel
theorem d_M_depthNow_13 : decode (z_c m_M_depthNow) 13 = .ok (.invokevirtual 260, 3) := by decide +kernel
theorem d_M_depthNow_16 : decode (z_c m_M_depthNow) 16 = .ok (.ireturn, 1) := by decide +kernel
set_option maxRecDepth 8000 in
theorem b_M_depthNow_0 {X : z_X} {N : Nat} {σ g : z_G} {Q : z_P} (hx : z_lay X N σ 0 z_SM z_RM) (h : z_O X 2 m_M_depthOf [(2, 0), (0, g 1 2), (0, g 1 3)] N σ g (fun r0 g0 => Q r0 g0)) : z_O X 3 m_M_depthNow [(2, 0)] N σ g Q := by
  refine z_Oenter mi_M_depthNow rfl (fun _ => ?_)
  show z_U X 3 m_M_depthNow 0 [(0, (2, 0))] [] N σ g Q
  refine z_aload_n (i := 0) (c := 0) 0 d_M_depthNow_0 rfl rfl rfl ?_
  refine z_aload_n (i := 0) (c := 0) 0 d_M_depthNow_1 rfl rfl rfl ?_
  refine z_getr (c := 0) (kI := 0) (r2 := 1) d_M_depthNow_2 fd_M_at fl_M_7 rfl rfl rfl (ks_M_0 hx) (kl_M_0 hx) (kr_M_0_0 hx) ?_
  refine z_iconst (n := 2) d_M_depthNow_5 (by decide) ?_
  refine z_iald (c := 1) (m := 3296) d_M_depthNow_6 rfl (ks_M_1 hx) (kl_M_1 hx) rfl (by decide) (by decide) ?_
  refine z_aload_n (i := 0) (c := 0) 0 d_M_depthNow_7 rfl rfl rfl ?_
  refine z_getr (c := 0) (kI := 0) (r2 := 1) d_M_depthNow_8 fd_M_at fl_M_7 rfl rfl rfl (ks_M_0 hx) (kl_M_0 hx) (kr_M_0_0 hx) ?_
  refine z_iconst (n := 3) d_M_depthNow_11 (by decide) ?_
  refine z_iald (c := 1) (m := 3296) d_M_depthNow_12 rfl (ks_M_1 hx) (kl_M_1 hx) rfl (by decide) (by decide) ?_
  refine z_cV (c := 0) (as := [(0, g 1 2), (0, g 1 3)]) (d' := 2) (st := []) d_M_depthNow_13 mi_M_depthOf ml_M_260 mv_M_depthOf se_M_depthOf rfl rfl rfl rfl (ks_M_0 hx) rfl rfl (kl_M_0 hx) rfl rfl (z_Omono h (fun r0 g0 _ h hro => ?_))
  show z_U X 3 m_M_depthNow 16 [(0, (2, 0))] [(0, r0)] N σ g0 Q
  exact z_iret d_M_depthNow_16 rfl (by decide) (by decide) ⟨rfl, rfl, h⟩
theorem d_M_flips_0 : decode (z_c m_M_flips) 0 = .ok (.aload_n 0, 1) := by decide +kernel
theorem d_M_flips_1 : decode (z_c m_M_flips) 1 = .ok (.aload_n 0, 1) := by decide +kernel
theorem d_M_flips_2 : decode (z_c m_M_flips) 2 = .ok (.getfield 7, 3) := by decide +kernel
theorem d_M_flips_5 : decode (z_c m_M_flips) 5 = .ok (.iconst 3, 1) := by decide +kernel
theorem d_M_flips_6 : decode (z_c m_M_flips) 6 = .ok (.iaload, 1) := by decide +kernel
theorem d_M_flips_7 : decode (z_c m_M_flips) 7 = .ok (.aload_n 0, 1) := by decide +kernel
theorem d_M_flips_8 : decode (z_c m_M_flips) 8 = .ok (.getfield 7, 3) := by decide +kernel
theorem d_M_flips_11 : decode (z_c m_M_flips) 11 = .ok (.iconst 2, 1) := by decide +kernel
theorem d_M_flips_12 : decode (z_c m_M_flips) 12 = .ok (.iaload, 1) := by decide +kernel
theorem d_M_flips_13 : decode (z_c m_M_flips) 13 = .ok (.isub, 1) := by decide +kernel
theorem d_M_flips_14 : decode (z_c m_M_flips) 14 = .ok (.aload_n 0, 1) := by decide +kernel
theorem d_M_flips_15 : decode (z_c m_M_flips) 15 = .ok (.getfield 7, 3) := by decide +kernel
theorem d_M_flips_18 : decode (z_c m_M_flips) 18 = .ok (.iconst 3, 1) := by decide +kernel
theorem d_M_flips_19 : decode (z_c m_M_flips) 19 = .ok (.iaload, 1) := by decide +kernel
theorem d_M_flips_20 : decode (z_c m_M_flips) 20 = .ok (.invokevirtual 329, 3) := by decide +kernel
theorem d_M_flips_23 : decode (z_c m_M_flips) 23 = .ok (.return_, 1) := by decide +kernel
set_option maxRecDepth 8000 in
theorem b_M_flips_0 {X : z_X} {N : Nat} {σ g : z_G} {Q : z_P} (hx : z_lay X N σ 0 z_SM z_RM) (h : (-2147483648 ≤ ((g 1 3) - (g 1 2)) ∧ ((g 1 3) - (g 1 2)) ≤ 2147483647) ∧ (z_O X 2 m_M_comes [(2, 0), (0, (g 1 3) - (g 1 2)), (0, g 1 3)] N σ g (fun r0 g0 => Q 0 g0))) : z_O X 3 m_M_flips [(2, 0)] N σ g Q := by
  refine z_Oenter mi_M_flips rfl (fun _ => ?_)
  show z_U X 3 m_M_flips 0 [(0, (2, 0))] [] N σ g Q
  refine z_aload_n (i := 0) (c := 0) 0 d_M_flips_0 rfl rfl rfl ?_
  refine z_aload_n (i := 0) (c := 0) 0 d_M_flips_1 rfl rfl rfl ?_
  refine z_getr (c := 0) (kI := 0) (r2 := 1) d_M_flips_2 fd_M_at fl_M_7 rfl rfl rfl (ks_M_0 hx) (kl_M_0 hx) (kr_M_0_0 hx) ?_
  refine z_iconst (n := 3) d_M_flips_5 (by decide) ?_
  refine z_iald (c := 1) (m := 3296) d_M_flips_6 rfl (ks_M_1 hx) (kl_M_1 hx) rfl (by decide) (by decide) ?_
  refine z_aload_n (i := 0) (c := 0) 0 d_M_flips_7 rfl rfl rfl ?_
  refine z_getr (c := 0) (kI := 0) (r2 := 1) d_M_flips_8 fd_M_at fl_M_7 rfl rfl rfl (ks_M_0 hx) (kl_M_0 hx) (kr_M_0_0 hx) ?_
  refine z_iconst (n := 2) d_M_flips_11 (by decide) ?_
  refine z_iald (c := 1) (m := 3296) d_M_flips_12 rfl (ks_M_1 hx) (kl_M_1 hx) rfl (by decide) (by decide) ?_
  obtain ⟨c1, h⟩ := h
  refine z_isub d_M_flips_13 c1 ?_
  refine z_aload_n (i := 0) (c := 0) 0 d_M_flips_14 rfl rfl rfl ?_
  refine z_getr (c := 0) (kI := 0) (r2 := 1) d_M_flips_15 fd_M_at fl_M_7 rfl rfl rfl (ks_M_0 hx) (kl_M_0 hx) (kr_M_0_0 hx) ?_
  refine z_iconst (n := 3) d_M_flips_18 (by decide) ?_
  refine z_iald (c := 1) (m := 3296) d_M_flips_19 rfl (ks_M_1 hx) (kl_M_1 hx) rfl (by decide) (by decide) ?_
  refine z_cV (c := 0) (as := [(0, (g 1 3) - (g 1 2)), (0, g 1 3)]) (d' := 2) (st := []) d_M_flips_20 mi_M_comes ml_M_329 mv_M_comes se_M_comes rfl rfl rfl rfl (ks_M_0 hx) rfl rfl (kl_M_0 hx) rfl rfl (z_Omono h (fun r0 g0 _ h hro => ?_))
  show z_U X 3 m_M_flips 23 [(0, (2, 0))] [] N σ g0 Q
  exact z_vret d_M_flips_23 rfl (by decide) (by decide) ⟨rfl, rfl, h⟩
theorem d_M_follow_0 : decode (z_c m_M_follow) 0 = .ok (.iload_n 1, 1) := by decide +kernel
theorem d_M_follow_1 : decode (z_c m_M_follow) 1 = .ok (.invokestatic 98, 3) := by decide +kernel
theorem d_M_follow_4 : decode (z_c m_M_follow) 4 = .ok (.ifCond .eq 15, 3) := by decide +kernel
theorem d_M_follow_7 : decode (z_c m_M_follow) 7 = .ok (.iload_n 2, 1) := by decide +kernel
theorem d_M_follow_8 : decode (z_c m_M_follow) 8 = .ok (.i2l, 1) := by decide +kernel
theorem d_M_follow_9 : decode (z_c m_M_follow) 9 = .ok (.lconst 0, 1) := by decide +kernel
theorem d_M_follow_10 : decode (z_c m_M_follow) 10 = .ok (.ldc2_w 309, 3) := by decide +kernel
theorem d_M_follow_13 : decode (z_c m_M_follow) 13 = .ok (.invokestatic 265, 3) := by decide +kernel
theorem d_M_follow_16 : decode (z_c m_M_follow) 16 = .ok (.ifCond .ne 9, 3) := by decide +kernel
theorem d_M_follow_19 : decode (z_c m_M_follow) 19 = .ok (.aload_n 0, 1) := by decide +kernel
theorem d_M_follow_20 : decode (z_c m_M_follow) 20 = .ok (.iconst 1, 1) := by decide +kernel
theorem d_M_follow_21 : decode (z_c m_M_follow) 21 = .ok (.invokevirtual 94, 3) := by decide +kernel
theorem d_M_follow_24 : decode (z_c m_M_follow) 24 = .ok (.ireturn, 1) := by decide +kernel
theorem d_M_follow_25 : decode (z_c m_M_follow) 25 = .ok (.aload_n 0, 1) := by decide +kernel
theorem d_M_follow_26 : decode (z_c m_M_follow) 26 = .ok (.getfield 20, 3) := by decide +kernel
theorem d_M_follow_29 : decode (z_c m_M_follow) 29 = .ok (.iload_n 1, 1) := by decide +kernel
theorem d_M_follow_30 : decode (z_c m_M_follow) 30 = .ok (.iaload, 1) := by decide +kernel
theorem d_M_follow_31 : decode (z_c m_M_follow) 31 = .ok (.iconst (-1), 1) := by decide +kernel
theorem d_M_follow_32 : decode (z_c m_M_follow) 32 = .ok (.if_icmp .ne 9, 3) := by decide +kernel
theorem d_M_follow_35 : decode (z_c m_M_follow) 35 = .ok (.aload_n 0, 1) := by decide +kernel
theorem d_M_follow_36 : decode (z_c m_M_follow) 36 = .ok (.iconst 2, 1) := by decide +kernel
theorem d_M_follow_37 : decode (z_c m_M_follow) 37 = .ok (.invokevirtual 94, 3) := by decide +kernel
theorem d_M_follow_40 : decode (z_c m_M_follow) 40 = .ok (.ireturn, 1) := by decide +kernel
theorem d_M_follow_41 : decode (z_c m_M_follow) 41 = .ok (.aload_n 0, 1) := by decide +kernel
theorem d_M_follow_42 : decode (z_c m_M_follow) 42 = .ok (.getfield 20, 3) := by decide +kernel
theorem d_M_follow_45 : decode (z_c m_M_follow) 45 = .ok (.iload_n 1, 1) := by decide +kernel
theorem d_M_follow_46 : decode (z_c m_M_follow) 46 = .ok (.iaload, 1) := by decide +kernel
theorem d_M_follow_47 : decode (z_c m_M_follow) 47 = .ok (.iload_n 2, 1) := by decide +kernel
theorem d_M_follow_48 : decode (z_c m_M_follow) 48 = .ok (.if_icmp .ge 9, 3) := by decide +kernel
theorem d_M_follow_51 : decode (z_c m_M_follow) 51 = .ok (.aload_n 0, 1) := by decide +kernel
theorem d_M_follow_52 : decode (z_c m_M_follow) 52 = .ok (.iconst 3, 1) := by decide +kernel
theorem d_M_follow_53 : decode (z_c m_M_follow) 53 = .ok (.invokevirtual 94, 3) := by decide +kernel
theorem d_M_follow_56 : decode (z_c m_M_follow) 56 = .ok (.ireturn, 1) := by decide +kernel
theorem d_M_follow_57 : decode (z_c m_M_follow) 57 = .ok (.iconst 0, 1) := by decide +kernel
theorem d_M_follow_58 : decode (z_c m_M_follow) 58 = .ok (.istore_n 3, 1) := by decide +kernel
theorem d_M_follow_59 : decode (z_c m_M_follow) 59 = .ok (.iload_n 3, 1) := by decide +kernel
theorem d_M_follow_60 : decode (z_c m_M_follow) 60 = .ok (.iload_n 2, 1) := by decide +kernel
theorem d_M_follow_61 : decode (z_c m_M_follow) 61 = .ok (.if_icmp .ge 34, 3) := by decide +kernel
theorem d_M_follow_64 : decode (z_c m_M_follow) 64 = .ok (.aload_n 0, 1) := by decide +kernel
theorem d_M_follow_65 : decode (z_c m_M_follow) 65 = .ok (.getfield 23, 3) := by decide +kernel
theorem d_M_follow_68 : decode (z_c m_M_follow) 68 = .ok (.bipush 60, 2) := by decide +kernel
theorem d_M_follow_70 : decode (z_c m_M_follow) 70 = .ok (.iload_n 1, 1) := by decide +kernel
theorem d_M_follow_71 : decode (z_c m_M_follow) 71 = .ok (.imul, 1) := by decide +kernel
theorem d_M_follow_72 : decode (z_c m_M_follow) 72 = .ok (.iload_n 3, 1) := by decide +kernel
theorem d_M_follow_73 : decode (z_c m_M_follow) 73 = .ok (.iadd, 1) := by decide +kernel
theorem d_M_follow_74 : decode (z_c m_M_follow) 74 = .ok (.laload, 1) := by decide +kernel
theorem d_M_follow_75 : decode (z_c m_M_follow) 75 = .ok (.lconst 0, 1) := by decide +kernel
theorem d_M_follow_76 : decode (z_c m_M_follow) 76 = .ok (.lconst 1, 1) := by decide +kernel
theorem d_M_follow_77 : decode (z_c m_M_follow) 77 = .ok (.invokestatic 265, 3) := by decide +kernel
theorem d_M_follow_80 : decode (z_c m_M_follow) 80 = .ok (.ifCond .ne 9, 3) := by decide +kernel
theorem d_M_follow_83 : decode (z_c m_M_follow) 83 = .ok (.aload_n 0, 1) := by decide +kernel
theorem d_M_follow_84 : decode (z_c m_M_follow) 84 = .ok (.iconst 5, 1) := by decide +kernel
theorem d_M_follow_85 : decode (z_c m_M_follow) 85 = .ok (.invokevirtual 94, 3) := by decide +kernel
theorem d_M_follow_88 : decode (z_c m_M_follow) 88 = .ok (.ireturn, 1) := by decide +kernel
theorem d_M_follow_89 : decode (z_c m_M_follow) 89 = .ok (.iinc 3 1, 3) := by decide +kernel
theorem d_M_follow_92 : decode (z_c m_M_follow) 92 = .ok (.goto (-33), 3) := by decide +kernel
theorem d_M_follow_95 : decode (z_c m_M_follow) 95 = .ok (.lconst 1, 1) := by decide +kernel
theorem d_M_follow_96 : decode (z_c m_M_follow) 96 = .ok (.lstore_n 3, 1) := by decide +kernel
theorem d_M_follow_97 : decode (z_c m_M_follow) 97 = .ok (.lconst 1, 1) := by decide +kernel
theorem d_M_follow_98 : decode (z_c m_M_follow) 98 = .ok (.lstore 5, 2) := by decide +kernel
theorem d_M_follow_100 : decode (z_c m_M_follow) 100 = .ok (.iload_n 2, 1) := by decide +kernel
theorem d_M_follow_101 : decode (z_c m_M_follow) 101 = .ok (.iconst 1, 1) := by decide +kernel
theorem d_M_follow_102 : decode (z_c m_M_follow) 102 = .ok (.isub, 1) := by decide +kernel
theorem d_M_follow_103 : decode (z_c m_M_follow) 103 = .ok (.istore 7, 2) := by decide +kernel
theorem d_M_follow_105 : decode (z_c m_M_follow) 105 = .ok (.iload 7, 2) := by decide +kernel
theorem d_M_follow_107 : decode (z_c m_M_follow) 107 = .ok (.ifCond .lt 65, 3) := by decide +kernel
theorem d_M_follow_110 : decode (z_c m_M_follow) 110 = .ok (.aload_n 0, 1) := by decide +kernel
theorem d_M_follow_111 : decode (z_c m_M_follow) 111 = .ok (.getfield 23, 3) := by decide +kernel
theorem d_M_follow_114 : decode (z_c m_M_follow) 114 = .ok (.bipush 60, 2) := by decide +kernel
theorem d_M_follow_116 : decode (z_c m_M_follow) 116 = .ok (.iload_n 1, 1) := by decide +kernel
theorem d_M_follow_117 : decode (z_c m_M_follow) 117 = .ok (.imul, 1) := by decide +kernel
theorem d_M_follow_118 : decode (z_c m_M_follow) 118 = .ok (.iload 7, 2) := by decide +kernel
theorem d_M_follow_120 : decode (z_c m_M_follow) 120 = .ok (.iadd, 1) := by decide +kernel
theorem d_M_follow_121 : decode (z_c m_M_follow) 121 = .ok (.laload, 1) := by decide +kernel
theorem d_M_follow_122 : decode (z_c m_M_follow) 122 = .ok (.lconst 1, 1) := by decide +kernel
theorem d_M_follow_123 : decode (z_c m_M_follow) 123 = .ok (.lcmp, 1) := by decide +kernel
theorem d_M_follow_124 : decode (z_c m_M_follow) 124 = .ok (.ifCond .ne 7, 3) := by decide +kernel
theorem d_M_follow_127 : decode (z_c m_M_follow) 127 = .ok (.iconst 1, 1) := by decide +kernel
theorem d_M_follow_128 : decode (z_c m_M_follow) 128 = .ok (.goto 4, 3) := by decide +kernel
theorem d_M_follow_131 : decode (z_c m_M_follow) 131 = .ok (.iconst 0, 1) := by decide +kernel
theorem d_M_follow_132 : decode (z_c m_M_follow) 132 = .ok (.istore 8, 2) := by decide +kernel
theorem d_M_follow_134 : decode (z_c m_M_follow) 134 = .ok (.lload_n 3, 1) := by decide +kernel
theorem d_M_follow_135 : decode (z_c m_M_follow) 135 = .ok (.lload 5, 2) := by decide +kernel
theorem d_M_follow_137 : decode (z_c m_M_follow) 137 = .ok (.ladd, 1) := by decide +kernel
theorem d_M_follow_138 : decode (z_c m_M_follow) 138 = .ok (.lstore 9, 2) := by decide +kernel
theorem d_M_follow_140 : decode (z_c m_M_follow) 140 = .ok (.iload 8, 2) := by decide +kernel
theorem d_M_follow_142 : decode (z_c m_M_follow) 142 = .ok (.ifCond .eq 8, 3) := by decide +kernel
theorem d_M_follow_145 : decode (z_c m_M_follow) 145 = .ok (.lload 9, 2) := by decide +kernel
theorem d_M_follow_147 : decode (z_c m_M_follow) 147 = .ok (.goto 4, 3) := by decide +kernel
theorem d_M_follow_150 : decode (z_c m_M_follow) 150 = .ok (.lload_n 3, 1) := by decide +kernel
theorem d_M_follow_151 : decode (z_c m_M_follow) 151 = .ok (.lstore_n 3, 1) := by decide +kernel
theorem d_M_follow_152 : decode (z_c m_M_follow) 152 = .ok (.iload 8, 2) := by decide +kernel
theorem d_M_follow_154 : decode (z_c m_M_follow) 154 = .ok (.ifCond .eq 8, 3) := by decide +kernel
theorem d_M_follow_157 : decode (z_c m_M_follow) 157 = .ok (.lload 5, 2) := by decide +kernel
theorem d_M_follow_159 : decode (z_c m_M_follow) 159 = .ok (.goto 5, 3) := by decide +kernel
theorem d_M_follow_162 : decode (z_c m_M_follow) 162 = .ok (.lload 9, 2) := by decide +kernel
theorem d_M_follow_164 : decode (z_c m_M_follow) 164 = .ok (.lstore 5, 2) := by decide +kernel
theorem d_M_follow_166 : decode (z_c m_M_follow) 166 = .ok (.iinc 7 (-1), 3) := by decide +kernel
theorem d_M_follow_169 : decode (z_c m_M_follow) 169 = .ok (.goto (-64), 3) := by decide +kernel
theorem d_M_follow_172 : decode (z_c m_M_follow) 172 = .ok (.aload_n 0, 1) := by decide +kernel
theorem d_M_follow_173 : decode (z_c m_M_follow) 173 = .ok (.lload_n 3, 1) := by decide +kernel
theorem d_M_follow_174 : decode (z_c m_M_follow) 174 = .ok (.lload_n 3, 1) := by decide +kernel
theorem d_M_follow_175 : decode (z_c m_M_follow) 175 = .ok (.lload 5, 2) := by decide +kernel
theorem d_M_follow_177 : decode (z_c m_M_follow) 177 = .ok (.ladd, 1) := by decide +kernel
theorem d_M_follow_178 : decode (z_c m_M_follow) 178 = .ok (.invokevirtual 253, 3) := by decide +kernel
theorem d_M_follow_181 : decode (z_c m_M_follow) 181 = .ok (.ireturn, 1) := by decide +kernel
abbrev L_M_follow_59 (X : z_X) (N : Nat) (σ : z_G) (x1 x2 x3 : Int) (g : z_G) (Q : z_P) : Prop := z_U X 3 m_M_follow 59 [(0, (2, 0)), (1, (0, x1)), (2, (0, x2)), (3, (0, x3))] [] N σ g Q
abbrev L_M_follow_105 (X : z_X) (N : Nat) (σ : z_G) (x1 x3 x5 x7 : Int) (g : z_G) (Q : z_P) : Prop := z_U X 3 m_M_follow 105 [(0, (2, 0)), (1, (0, x1)), (3, (1, x3)), (5, (1, x5)), (7, (0, x7))] [] N σ g Q
set_option maxRecDepth 8000 in
theorem b_M_follow_0 {X : z_X} {N : Nat} {σ g : z_G} {Q : z_P} {a1 a2 : Int} (hx : z_lay X N σ 0 z_SM z_RM) (h : ((a1 < 0) → Q 0 (z_up g 0 1 1)) ∧ (¬ (a1 < 0) → (((4 ≤ a1) → Q 0 (z_up g 0 1 1)) ∧ (¬ (4 ≤ a1) → (((a2 < 0) → Q 0 (z_up g 0 1 1)) ∧ (¬ (a2 < 0) → (((20 < a2) → Q 0 (z_up g 0 1 1)) ∧ (¬ (20 < a2) → ((0 ≤ a1 ∧ a1 < 4) ∧ ((((g 3 a1) = (-1)) → Q 0 (z_up g 0 1 2)) ∧ (¬ ((g 3 a1) = (-1)) → (((a2 ≤ (g 3 a1)) → L_M_follow_59 X N σ a1 a2 0 g Q) ∧ (¬ (a2 ≤ (g 3 a1)) → Q 0 (z_up g 0 1 3)))))))))))))) : z_O X 3 m_M_follow [(2, 0), (0, a1), (0, a2)] N σ g Q := by
  refine z_Oenter mi_M_follow rfl (fun _ => ?_)
  show z_U X 3 m_M_follow 0 [(0, (2, 0)), (1, (0, a1)), (2, (0, a2))] [] N σ g Q
  refine z_iload_n (i := 1) 1 d_M_follow_0 rfl rfl ?_
  refine z_cS (as := [(0, a1)]) (d' := 1) (st := []) d_M_follow_1 mi_M_isTray ml_M_98 ms_M_isTray rfl rfl rfl rfl rfl (b_M_isTray_0  ?_)
  refine ⟨fun c1 => ?_, fun c1 => ?_⟩
  · have h := h.1 c1
    intro _
    show z_U X 3 m_M_follow 4 [(0, (2, 0)), (1, (0, a1)), (2, (0, a2))] [(0, 0)] N σ g Q
    refine z_if_eq (tgt := 19) d_M_follow_4 (by decide) (fun _ => ?_) (fun c => absurd (by decide) c)
    refine z_aload_n (i := 0) (c := 0) 0 d_M_follow_19 rfl rfl rfl ?_
    refine z_iconst (n := 1) d_M_follow_20 (by decide) ?_
    refine z_cV (c := 0) (as := [(0, 1)]) (d' := 1) (st := []) d_M_follow_21 mi_M_is ml_M_94 mv_M_is se_M_is rfl rfl rfl rfl (ks_M_0 hx) rfl rfl (kl_M_0 hx) rfl rfl (b_M_is_0 hx ?_)
    refine ⟨fun c => absurd c (by decide), fun _ => ?_⟩
    intro _
    show z_U X 3 m_M_follow 24 [(0, (2, 0)), (1, (0, a1)), (2, (0, a2))] [(0, 0)] N σ (z_up g 0 1 1) Q
    exact z_zret d_M_follow_24 rfl (by decide) (by decide) (by decide) ⟨rfl, rfl, h⟩
  · have h := h.2 c1
    refine ⟨fun c2 => ?_, fun c2 => ?_⟩
    · have h := h.1 c2
      intro _
      show z_U X 3 m_M_follow 4 [(0, (2, 0)), (1, (0, a1)), (2, (0, a2))] [(0, 0)] N σ g Q
      refine z_if_eq (tgt := 19) d_M_follow_4 (by decide) (fun _ => ?_) (fun c => absurd (by decide) c)
      refine z_aload_n (i := 0) (c := 0) 0 d_M_follow_19 rfl rfl rfl ?_
      refine z_iconst (n := 1) d_M_follow_20 (by decide) ?_
      refine z_cV (c := 0) (as := [(0, 1)]) (d' := 1) (st := []) d_M_follow_21 mi_M_is ml_M_94 mv_M_is se_M_is rfl rfl rfl rfl (ks_M_0 hx) rfl rfl (kl_M_0 hx) rfl rfl (b_M_is_0 hx ?_)
      refine ⟨fun c => absurd c (by decide), fun _ => ?_⟩
      intro _
      show z_U X 3 m_M_follow 24 [(0, (2, 0)), (1, (0, a1)), (2, (0, a2))] [(0, 0)] N σ (z_up g 0 1 1) Q
      exact z_zret d_M_follow_24 rfl (by decide) (by decide) (by decide) ⟨rfl, rfl, h⟩
    · have h := h.2 c2
      intro _
      show z_U X 3 m_M_follow 4 [(0, (2, 0)), (1, (0, a1)), (2, (0, a2))] [(0, 1)] N σ g Q
      refine z_if_eq (tgt := 19) d_M_follow_4 (by decide) (fun c => absurd c (by decide)) (fun _ => ?_)
      refine z_iload_n (i := 2) 2 d_M_follow_7 rfl rfl ?_
      refine z_i2l d_M_follow_8 ?_
      refine z_lconst (v := 0) d_M_follow_9 (by decide) (by decide) ?_
      refine z_ldc2 (v := 20) d_M_follow_10 kc_M_309 (by decide) ?_
      refine z_cS (as := [(1, a2), (1, 0), (1, 20)]) (d' := 1) (st := []) d_M_follow_13 mi_M_isFrom ml_M_265 ms_M_isFrom rfl rfl rfl rfl rfl (b_M_isFrom_0  ?_)
      refine ⟨fun c3 => ?_, fun c3 => ?_⟩
      · have h := h.1 c3
        intro _
        show z_U X 3 m_M_follow 16 [(0, (2, 0)), (1, (0, a1)), (2, (0, a2))] [(0, 0)] N σ g Q
        refine z_if_ne (tgt := 25) d_M_follow_16 (by decide) (fun c => absurd (by decide) c) (fun _ => ?_)
        refine z_aload_n (i := 0) (c := 0) 0 d_M_follow_19 rfl rfl rfl ?_
        refine z_iconst (n := 1) d_M_follow_20 (by decide) ?_
        refine z_cV (c := 0) (as := [(0, 1)]) (d' := 1) (st := []) d_M_follow_21 mi_M_is ml_M_94 mv_M_is se_M_is rfl rfl rfl rfl (ks_M_0 hx) rfl rfl (kl_M_0 hx) rfl rfl (b_M_is_0 hx ?_)
        refine ⟨fun c => absurd c (by decide), fun _ => ?_⟩
        intro _
        show z_U X 3 m_M_follow 24 [(0, (2, 0)), (1, (0, a1)), (2, (0, a2))] [(0, 0)] N σ (z_up g 0 1 1) Q
        exact z_zret d_M_follow_24 rfl (by decide) (by decide) (by decide) ⟨rfl, rfl, h⟩
      · have h := h.2 c3
        refine ⟨fun c4 => ?_, fun c4 => ?_⟩
        · have h := h.1 c4
          intro _
          show z_U X 3 m_M_follow 16 [(0, (2, 0)), (1, (0, a1)), (2, (0, a2))] [(0, 0)] N σ g Q
          refine z_if_ne (tgt := 25) d_M_follow_16 (by decide) (fun c => absurd (by decide) c) (fun _ => ?_)
          refine z_aload_n (i := 0) (c := 0) 0 d_M_follow_19 rfl rfl rfl ?_
          refine z_iconst (n := 1) d_M_follow_20 (by decide) ?_
          refine z_cV (c := 0) (as := [(0, 1)]) (d' := 1) (st := []) d_M_follow_21 mi_M_is ml_M_94 mv_M_is se_M_is rfl rfl rfl rfl (ks_M_0 hx) rfl rfl (kl_M_0 hx) rfl rfl (b_M_is_0 hx ?_)
          refine ⟨fun c => absurd c (by decide), fun _ => ?_⟩
          intro _
          show z_U X 3 m_M_follow 24 [(0, (2, 0)), (1, (0, a1)), (2, (0, a2))] [(0, 0)] N σ (z_up g 0 1 1) Q
          exact z_zret d_M_follow_24 rfl (by decide) (by decide) (by decide) ⟨rfl, rfl, h⟩
        · have h := h.2 c4
          intro _
          show z_U X 3 m_M_follow 16 [(0, (2, 0)), (1, (0, a1)), (2, (0, a2))] [(0, 1)] N σ g Q
          refine z_if_ne (tgt := 25) d_M_follow_16 (by decide) (fun _ => ?_) (fun c => absurd c (by decide))
          refine z_aload_n (i := 0) (c := 0) 0 d_M_follow_25 rfl rfl rfl ?_
          refine z_getr (c := 0) (kI := 5) (r2 := 3) d_M_follow_26 fd_M_trayMany fl_M_20 rfl rfl rfl (ks_M_0 hx) (kl_M_0 hx) (kr_M_0_5 hx) ?_
          refine z_iload_n (i := 1) 1 d_M_follow_29 rfl rfl ?_
          obtain ⟨c5, h⟩ := h
          refine z_iald (c := 3) (m := 4) d_M_follow_30 rfl (ks_M_3 hx) (kl_M_3 hx) rfl (by decide) c5 ?_
          refine z_iconst (n := (-1)) d_M_follow_31 (by decide) ?_
          refine z_icmp_ne (tgt := 41) d_M_follow_32 (by decide) (fun c6 => ?_) (fun c6 => ?_)
          · have h := h.2 c6
            refine z_aload_n (i := 0) (c := 0) 0 d_M_follow_41 rfl rfl rfl ?_
            refine z_getr (c := 0) (kI := 5) (r2 := 3) d_M_follow_42 fd_M_trayMany fl_M_20 rfl rfl rfl (ks_M_0 hx) (kl_M_0 hx) (kr_M_0_5 hx) ?_
            refine z_iload_n (i := 1) 1 d_M_follow_45 rfl rfl ?_
            refine z_iald (c := 3) (m := 4) d_M_follow_46 rfl (ks_M_3 hx) (kl_M_3 hx) rfl (by decide) c5 ?_
            refine z_iload_n (i := 2) 2 d_M_follow_47 rfl rfl ?_
            refine z_icmp_ge (tgt := 57) d_M_follow_48 (by decide) (fun c7 => ?_) (fun c7 => ?_)
            · have h := h.1 c7
              refine z_iconst (n := 0) d_M_follow_57 (by decide) ?_
              refine z_istore_n (i := 3) (ls' := [(3, (0, 0)), (0, (2, 0)), (1, (0, a1)), (2, (0, a2))]) d_M_follow_58 rfl rfl rfl ?_
              refine z_sub (ls' := [(0, (2, 0)), (1, (0, a1)), (2, (0, a2)), (3, (0, 0))]) [1, 2, 3, 0] rfl ?_
              exact h
            · have h := h.2 c7
              refine z_aload_n (i := 0) (c := 0) 0 d_M_follow_51 rfl rfl rfl ?_
              refine z_iconst (n := 3) d_M_follow_52 (by decide) ?_
              refine z_cV (c := 0) (as := [(0, 3)]) (d' := 1) (st := []) d_M_follow_53 mi_M_is ml_M_94 mv_M_is se_M_is rfl rfl rfl rfl (ks_M_0 hx) rfl rfl (kl_M_0 hx) rfl rfl (b_M_is_0 hx ?_)
              refine ⟨fun c => absurd c (by decide), fun _ => ?_⟩
              intro _
              show z_U X 3 m_M_follow 56 [(0, (2, 0)), (1, (0, a1)), (2, (0, a2))] [(0, 0)] N σ (z_up g 0 1 3) Q
              exact z_zret d_M_follow_56 rfl (by decide) (by decide) (by decide) ⟨rfl, rfl, h⟩
          · have h := h.1 c6
            refine z_aload_n (i := 0) (c := 0) 0 d_M_follow_35 rfl rfl rfl ?_
            refine z_iconst (n := 2) d_M_follow_36 (by decide) ?_
            refine z_cV (c := 0) (as := [(0, 2)]) (d' := 1) (st := []) d_M_follow_37 mi_M_is ml_M_94 mv_M_is se_M_is rfl rfl rfl rfl (ks_M_0 hx) rfl rfl (kl_M_0 hx) rfl rfl (b_M_is_0 hx ?_)
            refine ⟨fun c => absurd c (by decide), fun _ => ?_⟩
            intro _
            show z_U X 3 m_M_follow 40 [(0, (2, 0)), (1, (0, a1)), (2, (0, a2))] [(0, 0)] N σ (z_up g 0 1 2) Q
            exact z_zret d_M_follow_40 rfl (by decide) (by decide) (by decide) ⟨rfl, rfl, h⟩
set_option maxRecDepth 8000 in
theorem b_M_follow_59 {X : z_X} {N : Nat} {σ g : z_G} {Q : z_P} {x1 x2 x3 : Int} (hx : z_lay X N σ 0 z_SM z_RM) (h : ((x2 ≤ x3) → ((-2147483648 ≤ (x2 - 1) ∧ (x2 - 1) ≤ 2147483647) ∧ L_M_follow_105 X N σ x1 1 1 (x2 - 1) g Q)) ∧ (¬ (x2 ≤ x3) → ((-2147483648 ≤ (60 * x1) ∧ (60 * x1) ≤ 2147483647) ∧ ((-2147483648 ≤ ((60 * x1) + x3) ∧ ((60 * x1) + x3) ≤ 2147483647) ∧ ((0 ≤ ((60 * x1) + x3) ∧ ((60 * x1) + x3) < 240) ∧ ((((g 4 ((60 * x1) + x3)) < 0) → Q 0 (z_up g 0 1 5)) ∧ (¬ ((g 4 ((60 * x1) + x3)) < 0) → (((1 < (g 4 ((60 * x1) + x3))) → Q 0 (z_up g 0 1 5)) ∧ (¬ (1 < (g 4 ((60 * x1) + x3))) → ((-2147483648 ≤ (x3 + 1) ∧ (x3 + 1) ≤ 2147483647) ∧ L_M_follow_59 X N σ x1 x2 (x3 + 1) g Q)))))))))) : L_M_follow_59 X N σ x1 x2 x3 g Q := by
  refine z_iload_n (i := 3) 3 d_M_follow_59 rfl rfl ?_
  refine z_iload_n (i := 2) 2 d_M_follow_60 rfl rfl ?_
  refine z_icmp_ge (tgt := 95) d_M_follow_61 (by decide) (fun c1 => ?_) (fun c1 => ?_)
  · have h := h.1 c1
    refine z_lconst (v := 1) d_M_follow_95 (by decide) (by decide) ?_
    refine z_lstore_n (i := 3) (ls' := [(3, (1, 1)), (0, (2, 0)), (1, (0, x1)), (2, (0, x2))]) d_M_follow_96 rfl rfl rfl ?_
    refine z_lconst (v := 1) d_M_follow_97 (by decide) (by decide) ?_
    refine z_lstore (ls' := [(5, (1, 1)), (3, (1, 1)), (0, (2, 0)), (1, (0, x1)), (2, (0, x2))]) d_M_follow_98 rfl rfl ?_
    refine z_iload_n (i := 2) 4 d_M_follow_100 rfl rfl ?_
    refine z_iconst (n := 1) d_M_follow_101 (by decide) ?_
    obtain ⟨c2, h⟩ := h
    refine z_isub d_M_follow_102 c2 ?_
    refine z_istore (ls' := [(7, (0, x2 - 1)), (5, (1, 1)), (3, (1, 1)), (0, (2, 0)), (1, (0, x1)), (2, (0, x2))]) d_M_follow_103 rfl rfl ?_
    refine z_sub (ls' := [(0, (2, 0)), (1, (0, x1)), (3, (1, 1)), (5, (1, 1)), (7, (0, x2 - 1))]) [3, 4, 2, 1, 0] rfl ?_
    exact h
  · have h := h.2 c1
    refine z_aload_n (i := 0) (c := 0) 0 d_M_follow_64 rfl rfl rfl ?_
    refine z_getr (c := 0) (kI := 6) (r2 := 4) d_M_follow_65 fd_M_trays fl_M_23 rfl rfl rfl (ks_M_0 hx) (kl_M_0 hx) (kr_M_0_6 hx) ?_
    refine z_bipush (n := 60) d_M_follow_68 (by decide) (by decide) ?_
    refine z_iload_n (i := 1) 1 d_M_follow_70 rfl rfl ?_
    obtain ⟨c3, h⟩ := h
    refine z_imul d_M_follow_71 c3 ?_
    refine z_iload_n (i := 3) 3 d_M_follow_72 rfl rfl ?_
    obtain ⟨c4, h⟩ := h
    refine z_iadd d_M_follow_73 c4 ?_
    obtain ⟨c5, h⟩ := h
    refine z_lald (c := 4) (m := 240) d_M_follow_74 rfl (ks_M_4 hx) (kl_M_4 hx) rfl (by decide) c5 ?_
    refine z_lconst (v := 0) d_M_follow_75 (by decide) (by decide) ?_
    refine z_lconst (v := 1) d_M_follow_76 (by decide) (by decide) ?_
    refine z_cS (as := [(1, g 4 ((60 * x1) + x3)), (1, 0), (1, 1)]) (d' := 1) (st := []) d_M_follow_77 mi_M_isFrom ml_M_265 ms_M_isFrom rfl rfl rfl rfl rfl (b_M_isFrom_0  ?_)
    refine ⟨fun c6 => ?_, fun c6 => ?_⟩
    · have h := h.1 c6
      intro _
      show z_U X 3 m_M_follow 80 [(0, (2, 0)), (1, (0, x1)), (2, (0, x2)), (3, (0, x3))] [(0, 0)] N σ g Q
      refine z_if_ne (tgt := 89) d_M_follow_80 (by decide) (fun c => absurd (by decide) c) (fun _ => ?_)
      refine z_aload_n (i := 0) (c := 0) 0 d_M_follow_83 rfl rfl rfl ?_
      refine z_iconst (n := 5) d_M_follow_84 (by decide) ?_
      refine z_cV (c := 0) (as := [(0, 5)]) (d' := 1) (st := []) d_M_follow_85 mi_M_is ml_M_94 mv_M_is se_M_is rfl rfl rfl rfl (ks_M_0 hx) rfl rfl (kl_M_0 hx) rfl rfl (b_M_is_0 hx ?_)
      refine ⟨fun c => absurd c (by decide), fun _ => ?_⟩
      intro _
      show z_U X 3 m_M_follow 88 [(0, (2, 0)), (1, (0, x1)), (2, (0, x2)), (3, (0, x3))] [(0, 0)] N σ (z_up g 0 1 5) Q
      exact z_zret d_M_follow_88 rfl (by decide) (by decide) (by decide) ⟨rfl, rfl, h⟩
    · have h := h.2 c6
      refine ⟨fun c7 => ?_, fun c7 => ?_⟩
      · have h := h.1 c7
        intro _
        show z_U X 3 m_M_follow 80 [(0, (2, 0)), (1, (0, x1)), (2, (0, x2)), (3, (0, x3))] [(0, 0)] N σ g Q
        refine z_if_ne (tgt := 89) d_M_follow_80 (by decide) (fun c => absurd (by decide) c) (fun _ => ?_)
        refine z_aload_n (i := 0) (c := 0) 0 d_M_follow_83 rfl rfl rfl ?_
        refine z_iconst (n := 5) d_M_follow_84 (by decide) ?_
        refine z_cV (c := 0) (as := [(0, 5)]) (d' := 1) (st := []) d_M_follow_85 mi_M_is ml_M_94 mv_M_is se_M_is rfl rfl rfl rfl (ks_M_0 hx) rfl rfl (kl_M_0 hx) rfl rfl (b_M_is_0 hx ?_)
        refine ⟨fun c => absurd c (by decide), fun _ => ?_⟩
        intro _
        show z_U X 3 m_M_follow 88 [(0, (2, 0)), (1, (0, x1)), (2, (0, x2)), (3, (0, x3))] [(0, 0)] N σ (z_up g 0 1 5) Q
        exact z_zret d_M_follow_88 rfl (by decide) (by decide) (by decide) ⟨rfl, rfl, h⟩
      · have h := h.2 c7
        intro _
        show z_U X 3 m_M_follow 80 [(0, (2, 0)), (1, (0, x1)), (2, (0, x2)), (3, (0, x3))] [(0, 1)] N σ g Q
        refine z_if_ne (tgt := 89) d_M_follow_80 (by decide) (fun _ => ?_) (fun c => absurd c (by decide))
        obtain ⟨c8, h⟩ := h
        refine z_iinc (n := 1) (ls' := [(3, (0, x3 + 1)), (0, (2, 0)), (1, (0, x1)), (2, (0, x2))]) 3 d_M_follow_89 rfl c8 rfl rfl ?_
        refine z_goto (tgt := 59) d_M_follow_92 (by decide) ?_
        refine z_sub (ls' := [(0, (2, 0)), (1, (0, x1)), (2, (0, x2)), (3, (0, x3 + 1))]) [1, 2, 3, 0] rfl ?_
        exact h
set_option maxRecDepth 8000 in
theorem b_M_follow_105 {X : z_X} {N : Nat} {σ g : z_G} {Q : z_P} {x1 x3 x5 x7 : Int} (hx : z_lay X N σ 0 z_SM z_RM) (h : ((x7 < 0) → ((-9223372036854775808 ≤ (x3 + x5) ∧ (x3 + x5) ≤ 9223372036854775807) ∧ (z_O X 2 m_M_tellsBy [(2, 0), (1, x3), (1, x3 + x5)] N σ g (fun r0 g0 => (r0 = 0 ∨ r0 = 1) → Q r0 g0)))) ∧ (¬ (x7 < 0) → ((-2147483648 ≤ (60 * x1) ∧ (60 * x1) ≤ 2147483647) ∧ ((-2147483648 ≤ ((60 * x1) + x7) ∧ ((60 * x1) + x7) ≤ 2147483647) ∧ ((0 ≤ ((60 * x1) + x7) ∧ ((60 * x1) + x7) < 240) ∧ ((((g 4 ((60 * x1) + x7)) = 1) → ((-9223372036854775808 ≤ (x3 + x5) ∧ (x3 + x5) ≤ 9223372036854775807) ∧ ((-2147483648 ≤ (x7 + (-1)) ∧ (x7 + (-1)) ≤ 2147483647) ∧ L_M_follow_105 X N σ x1 (x3 + x5) x5 (x7 + (-1)) g Q))) ∧ (¬ ((g 4 ((60 * x1) + x7)) = 1) → ((-9223372036854775808 ≤ (x3 + x5) ∧ (x3 + x5) ≤ 9223372036854775807) ∧ ((-2147483648 ≤ (x7 + (-1)) ∧ (x7 + (-1)) ≤ 2147483647) ∧ L_M_follow_105 X N σ x1 x3 (x3 + x5) (x7 + (-1)) g Q))))))))) : L_M_follow_105 X N σ x1 x3 x5 x7 g Q := by
  refine z_iload 4 d_M_follow_105 rfl ?_
  refine z_if_lt (tgt := 172) d_M_follow_107 (by decide) (fun c1 => ?_) (fun c1 => ?_)
  · have h := h.1 c1
    refine z_aload_n (i := 0) (c := 0) 0 d_M_follow_172 rfl rfl rfl ?_
    refine z_lload_n (i := 3) 2 d_M_follow_173 rfl rfl ?_
    refine z_lload_n (i := 3) 2 d_M_follow_174 rfl rfl ?_
    refine z_lload 3 d_M_follow_175 rfl ?_
    obtain ⟨c2, h⟩ := h
    refine z_ladd d_M_follow_177 c2 ?_
    refine z_cV (c := 0) (as := [(1, x3), (1, x3 + x5)]) (d' := 2) (st := []) d_M_follow_178 mi_M_tellsBy ml_M_253 mv_M_tellsBy se_M_tellsBy rfl rfl rfl rfl (ks_M_0 hx) rfl rfl (kl_M_0 hx) rfl rfl (z_Omono h (fun r0 g0 _ h hro => ?_))
    have h := h (z_b01 hro)
    have hzr0 := z_b01 hro
    show z_U X 3 m_M_follow 181 [(0, (2, 0)), (1, (0, x1)), (3, (1, x3)), (5, (1, x5)), (7, (0, x7))] [(0, r0)] N σ g0 Q
    exact z_zret d_M_follow_181 rfl (by decide) (by decide) hzr0 ⟨rfl, rfl, h⟩
  · have h := h.2 c1
    refine z_aload_n (i := 0) (c := 0) 0 d_M_follow_110 rfl rfl rfl ?_
    refine z_getr (c := 0) (kI := 6) (r2 := 4) d_M_follow_111 fd_M_trays fl_M_23 rfl rfl rfl (ks_M_0 hx) (kl_M_0 hx) (kr_M_0_6 hx) ?_
    refine z_bipush (n := 60) d_M_follow_114 (by decide) (by decide) ?_
    refine z_iload_n (i := 1) 1 d_M_follow_116 rfl rfl ?_
    obtain ⟨c3, h⟩ := h
    refine z_imul d_M_follow_117 c3 ?_
    refine z_iload 4 d_M_follow_118 rfl ?_
    obtain ⟨c4, h⟩ := h
    refine z_iadd d_M_follow_120 c4 ?_
    obtain ⟨c5, h⟩ := h
    refine z_lald (c := 4) (m := 240) d_M_follow_121 rfl (ks_M_4 hx) (kl_M_4 hx) rfl (by decide) c5 ?_
    refine z_lconst (v := 1) d_M_follow_122 (by decide) (by decide) ?_
    refine z_lcmp_ne (tgt := 131) d_M_follow_123 d_M_follow_124 (by decide) (fun c6 => ?_) (fun c6 => ?_)
    · have h := h.2 c6
      refine z_iconst (n := 0) d_M_follow_131 (by decide) ?_
      refine z_istore (ls' := [(8, (0, 0)), (0, (2, 0)), (1, (0, x1)), (3, (1, x3)), (5, (1, x5)), (7, (0, x7))]) d_M_follow_132 rfl rfl ?_
      refine z_lload_n (i := 3) 3 d_M_follow_134 rfl rfl ?_
      refine z_lload 4 d_M_follow_135 rfl ?_
      obtain ⟨c7, h⟩ := h
      refine z_ladd d_M_follow_137 c7 ?_
      refine z_lstore (ls' := [(9, (1, x3 + x5)), (8, (0, 0)), (0, (2, 0)), (1, (0, x1)), (3, (1, x3)), (5, (1, x5)), (7, (0, x7))]) d_M_follow_138 rfl rfl ?_
      refine z_iload 1 d_M_follow_140 rfl ?_
      refine z_if_eq (tgt := 150) d_M_follow_142 (by decide) (fun _ => ?_) (fun c => absurd (by decide) c)
      refine z_lload_n (i := 3) 4 d_M_follow_150 rfl rfl ?_
      refine z_lstore_n (i := 3) (ls' := [(3, (1, x3)), (9, (1, x3 + x5)), (8, (0, 0)), (0, (2, 0)), (1, (0, x1)), (5, (1, x5)), (7, (0, x7))]) d_M_follow_151 rfl rfl rfl ?_
      refine z_iload 2 d_M_follow_152 rfl ?_
      refine z_if_eq (tgt := 162) d_M_follow_154 (by decide) (fun _ => ?_) (fun c => absurd (by decide) c)
      refine z_lload 1 d_M_follow_162 rfl ?_
      refine z_lstore (ls' := [(5, (1, x3 + x5)), (3, (1, x3)), (9, (1, x3 + x5)), (8, (0, 0)), (0, (2, 0)), (1, (0, x1)), (7, (0, x7))]) d_M_follow_164 rfl rfl ?_
      obtain ⟨c8, h⟩ := h
      refine z_iinc (n := (-1)) (ls' := [(7, (0, x7 + (-1))), (5, (1, x3 + x5)), (3, (1, x3)), (9, (1, x3 + x5)), (8, (0, 0)), (0, (2, 0)), (1, (0, x1))]) 6 d_M_follow_166 rfl c8 rfl rfl ?_
      refine z_goto (tgt := 105) d_M_follow_169 (by decide) ?_
      refine z_sub (ls' := [(0, (2, 0)), (1, (0, x1)), (3, (1, x3)), (5, (1, x3 + x5)), (7, (0, x7 + (-1)))]) [5, 6, 2, 1, 0] rfl ?_
      exact h
    · have h := h.1 c6
      refine z_iconst (n := 1) d_M_follow_127 (by decide) ?_
      refine z_goto (tgt := 132) d_M_follow_128 (by decide) ?_
      refine z_istore (ls' := [(8, (0, 1)), (0, (2, 0)), (1, (0, x1)), (3, (1, x3)), (5, (1, x5)), (7, (0, x7))]) d_M_follow_132 rfl rfl ?_
      refine z_lload_n (i := 3) 3 d_M_follow_134 rfl rfl ?_
      refine z_lload 4 d_M_follow_135 rfl ?_
      obtain ⟨c9, h⟩ := h
      refine z_ladd d_M_follow_137 c9 ?_
      refine z_lstore (ls' := [(9, (1, x3 + x5)), (8, (0, 1)), (0, (2, 0)), (1, (0, x1)), (3, (1, x3)), (5, (1, x5)), (7, (0, x7))]) d_M_follow_138 rfl rfl ?_
      refine z_iload 1 d_M_follow_140 rfl ?_
      refine z_if_eq (tgt := 150) d_M_follow_142 (by decide) (fun c => absurd c (by decide)) (fun _ => ?_)
      refine z_lload 0 d_M_follow_145 rfl ?_
      refine z_goto (tgt := 151) d_M_follow_147 (by decide) ?_
      refine z_lstore_n (i := 3) (ls' := [(3, (1, x3 + x5)), (9, (1, x3 + x5)), (8, (0, 1)), (0, (2, 0)), (1, (0, x1)), (5, (1, x5)), (7, (0, x7))]) d_M_follow_151 rfl rfl rfl ?_
      refine z_iload 2 d_M_follow_152 rfl ?_
      refine z_if_eq (tgt := 162) d_M_follow_154 (by decide) (fun c => absurd c (by decide)) (fun _ => ?_)
      refine z_lload 5 d_M_follow_157 rfl ?_
      refine z_goto (tgt := 164) d_M_follow_159 (by decide) ?_
      refine z_lstore (ls' := [(5, (1, x5)), (3, (1, x3 + x5)), (9, (1, x3 + x5)), (8, (0, 1)), (0, (2, 0)), (1, (0, x1)), (7, (0, x7))]) d_M_follow_164 rfl rfl ?_
      obtain ⟨c10, h⟩ := h
      refine z_iinc (n := (-1)) (ls' := [(7, (0, x7 + (-1))), (5, (1, x5)), (3, (1, x3 + x5)), (9, (1, x3 + x5)), (8, (0, 1)), (0, (2, 0)), (1, (0, x1))]) 6 d_M_follow_166 rfl c10 rfl rfl ?_
      refine z_goto (tgt := 105) d_M_follow_169 (by decide) ?_
      refine z_sub (ls' := [(0, (2, 0)), (1, (0, x1)), (3, (1, x3 + x5)), (5, (1, x5)), (7, (0, x7 + (-1)))]) [5, 6, 2, 1, 0] rfl ?_
      exact h
theorem d_M_game_0 : decode (z_c m_M_game) 0 = .ok (.aload_n 0, 1) := by decide +kernel
theorem d_M_game_1 : decode (z_c m_M_game) 1 = .ok (.iload_n 1, 1) := by decide +kernel
theorem d_M_game_2 : decode (z_c m_M_game) 2 = .ok (.iload_n 2, 1) := by decide +kernel
theorem d_M_game_3 : decode (z_c m_M_game) 3 = .ok (.iload_n 3, 1) := by decide +kernel
theorem d_M_game_4 : decode (z_c m_M_game) 4 = .ok (.iconst 0, 1) := by decide +kernel
theorem d_M_game_5 : decode (z_c m_M_game) 5 = .ok (.invokevirtual 383, 3) := by decide +kernel
theorem d_M_game_8 : decode (z_c m_M_game) 8 = .ok (.istore 4, 2) := by decide +kernel
theorem d_M_game_10 : decode (z_c m_M_game) 10 = .ok (.iload 4, 2) := by decide +kernel
theorem d_M_game_12 : decode (z_c m_M_game) 12 = .ok (.ifCond .le 10, 3) := by decide +kernel
theorem d_M_game_15 : decode (z_c m_M_game) 15 = .ok (.aload_n 0, 1) := by decide +kernel
theorem d_M_game_16 : decode (z_c m_M_game) 16 = .ok (.iload 4, 2) := by decide +kernel
theorem d_M_game_18 : decode (z_c m_M_game) 18 = .ok (.invokevirtual 87, 3) := by decide +kernel
theorem d_M_game_21 : decode (z_c m_M_game) 21 = .ok (.ireturn, 1) := by decide +kernel
theorem d_M_game_22 : decode (z_c m_M_game) 22 = .ok (.aload_n 0, 1) := by decide +kernel
theorem d_M_game_23 : decode (z_c m_M_game) 23 = .ok (.iload_n 1, 1) := by decide +kernel
theorem d_M_game_24 : decode (z_c m_M_game) 24 = .ok (.iload_n 2, 1) := by decide +kernel
theorem d_M_game_25 : decode (z_c m_M_game) 25 = .ok (.iload_n 3, 1) := by decide +kernel
theorem d_M_game_26 : decode (z_c m_M_game) 26 = .ok (.invokevirtual 387, 3) := by decide +kernel
theorem d_M_game_29 : decode (z_c m_M_game) 29 = .ok (.aload_n 0, 1) := by decide +kernel
theorem d_M_game_30 : decode (z_c m_M_game) 30 = .ok (.iload_n 3, 1) := by decide +kernel
theorem d_M_game_31 : decode (z_c m_M_game) 31 = .ok (.ifCond .ne 12, 3) := by decide +kernel
theorem d_M_game_34 : decode (z_c m_M_game) 34 = .ok (.aload_n 0, 1) := by decide +kernel
theorem d_M_game_35 : decode (z_c m_M_game) 35 = .ok (.getfield 59, 3) := by decide +kernel
theorem d_M_game_38 : decode (z_c m_M_game) 38 = .ok (.iconst 0, 1) := by decide +kernel
theorem d_M_game_39 : decode (z_c m_M_game) 39 = .ok (.iaload, 1) := by decide +kernel
theorem d_M_game_40 : decode (z_c m_M_game) 40 = .ok (.goto 18, 3) := by decide +kernel
theorem d_M_game_43 : decode (z_c m_M_game) 43 = .ok (.aload_n 0, 1) := by decide +kernel
theorem d_M_game_44 : decode (z_c m_M_game) 44 = .ok (.getfield 59, 3) := by decide +kernel
theorem d_M_game_47 : decode (z_c m_M_game) 47 = .ok (.iconst 0, 1) := by decide +kernel
theorem d_M_game_48 : decode (z_c m_M_game) 48 = .ok (.iaload, 1) := by decide +kernel
theorem d_M_game_49 : decode (z_c m_M_game) 49 = .ok (.aload_n 0, 1) := by decide +kernel
theorem d_M_game_50 : decode (z_c m_M_game) 50 = .ok (.getfield 59, 3) := by decide +kernel
theorem d_M_game_53 : decode (z_c m_M_game) 53 = .ok (.iconst 1, 1) := by decide +kernel
theorem d_M_game_54 : decode (z_c m_M_game) 54 = .ok (.iaload, 1) := by decide +kernel
theorem d_M_game_55 : decode (z_c m_M_game) 55 = .ok (.invokestatic 317, 3) := by decide +kernel
theorem d_M_game_58 : decode (z_c m_M_game) 58 = .ok (.invokevirtual 91, 3) := by decide +kernel
theorem d_M_game_61 : decode (z_c m_M_game) 61 = .ok (.ireturn, 1) := by decide +kernel
set_option maxRecDepth 8000 in
theorem b_M_game_0 {X : z_X} {N : Nat} {σ g : z_G} {Q : z_P} {a1 a2 a3 : Int} (hx : z_lay X N σ 0 z_SM z_RM) (h : z_O X 2 m_M_wrongGame [(2, 0), (0, a1), (0, a2), (0, a3), (0, 0)] N σ g (fun r0 g0 => (((r0 ≤ 0) → (z_O X 2 m_M_plays [(2, 0), (0, a1), (0, a2), (0, a3)] N σ g0 (fun r1 g1 => (((a3 = 0) → Q (g1 13 0) (z_up g1 0 1 0)) ∧ (¬ (a3 = 0) → ((((g1 13 0) < (g1 13 1)) → Q (g1 13 1) (z_up g1 0 1 0)) ∧ (¬ ((g1 13 0) < (g1 13 1)) → Q (g1 13 0) (z_up g1 0 1 0)))))))) ∧ (¬ (r0 ≤ 0) → Q (-1) (z_up g0 0 1 r0))))) : z_O X 3 m_M_game [(2, 0), (0, a1), (0, a2), (0, a3)] N σ g Q := by
  refine z_Oenter mi_M_game rfl (fun _ => ?_)
  show z_U X 3 m_M_game 0 [(0, (2, 0)), (1, (0, a1)), (2, (0, a2)), (3, (0, a3))] [] N σ g Q
  refine z_aload_n (i := 0) (c := 0) 0 d_M_game_0 rfl rfl rfl ?_
  refine z_iload_n (i := 1) 1 d_M_game_1 rfl rfl ?_
  refine z_iload_n (i := 2) 2 d_M_game_2 rfl rfl ?_
  refine z_iload_n (i := 3) 3 d_M_game_3 rfl rfl ?_
  refine z_iconst (n := 0) d_M_game_4 (by decide) ?_
  refine z_cV (c := 0) (as := [(0, a1), (0, a2), (0, a3), (0, 0)]) (d' := 2) (st := []) d_M_game_5 mi_M_wrongGame ml_M_383 mv_M_wrongGame se_M_wrongGame rfl rfl rfl rfl (ks_M_0 hx) rfl rfl (kl_M_0 hx) rfl rfl (z_Omono h (fun r0 g0 _ h hro => ?_))
  show z_U X 3 m_M_game 8 [(0, (2, 0)), (1, (0, a1)), (2, (0, a2)), (3, (0, a3))] [(0, r0)] N σ g0 Q
  refine z_istore (ls' := [(4, (0, r0)), (0, (2, 0)), (1, (0, a1)), (2, (0, a2)), (3, (0, a3))]) d_M_game_8 rfl rfl ?_
  refine z_iload 0 d_M_game_10 rfl ?_
  refine z_if_le (tgt := 22) d_M_game_12 (by decide) (fun c1 => ?_) (fun c1 => ?_)
  · have h := h.1 c1
    refine z_aload_n (i := 0) (c := 0) 1 d_M_game_22 rfl rfl rfl ?_
    refine z_iload_n (i := 1) 2 d_M_game_23 rfl rfl ?_
    refine z_iload_n (i := 2) 3 d_M_game_24 rfl rfl ?_
    refine z_iload_n (i := 3) 4 d_M_game_25 rfl rfl ?_
    refine z_cV (c := 0) (as := [(0, a1), (0, a2), (0, a3)]) (d' := 2) (st := []) d_M_game_26 mi_M_plays ml_M_387 mv_M_plays se_M_plays rfl rfl rfl rfl (ks_M_0 hx) rfl rfl (kl_M_0 hx) rfl rfl (z_Omono h (fun r1 g1 _ h hro => ?_))
    show z_U X 3 m_M_game 29 [(4, (0, r0)), (0, (2, 0)), (1, (0, a1)), (2, (0, a2)), (3, (0, a3))] [] N σ g1 Q
    refine z_aload_n (i := 0) (c := 0) 1 d_M_game_29 rfl rfl rfl ?_
    refine z_iload_n (i := 3) 4 d_M_game_30 rfl rfl ?_
    refine z_if_ne (tgt := 43) d_M_game_31 (by decide) (fun c2 => ?_) (fun c2 => ?_)
    · have h := h.2 c2
      refine z_aload_n (i := 0) (c := 0) 1 d_M_game_43 rfl rfl rfl ?_
      refine z_getr (c := 0) (kI := 33) (r2 := 13) d_M_game_44 fd_M_endBy fl_M_59 rfl rfl rfl (ks_M_0 hx) (kl_M_0 hx) (kr_M_0_33 hx) ?_
      refine z_iconst (n := 0) d_M_game_47 (by decide) ?_
      refine z_iald (c := 13) (m := 1024) d_M_game_48 rfl (ks_M_13 hx) (kl_M_13 hx) rfl (by decide) (by decide) ?_
      refine z_aload_n (i := 0) (c := 0) 1 d_M_game_49 rfl rfl rfl ?_
      refine z_getr (c := 0) (kI := 33) (r2 := 13) d_M_game_50 fd_M_endBy fl_M_59 rfl rfl rfl (ks_M_0 hx) (kl_M_0 hx) (kr_M_0_33 hx) ?_
      refine z_iconst (n := 1) d_M_game_53 (by decide) ?_
      refine z_iald (c := 13) (m := 1024) d_M_game_54 rfl (ks_M_13 hx) (kl_M_13 hx) rfl (by decide) (by decide) ?_
      refine z_mmax d_M_game_55 kmm_max_M_317 kms_max kmi kmc_max (by decide) (Nat.le_of_ble_eq_true rfl) (fun c3 => ?_) (fun c3 => ?_)
      · have h := h.1 c3
        refine z_cV (c := 0) (as := [(0, g1 13 1)]) (d' := 1) (st := []) d_M_game_58 mi_M_gives ml_M_91 mv_M_gives se_M_gives rfl rfl rfl rfl (ks_M_0 hx) rfl rfl (kl_M_0 hx) rfl rfl (b_M_gives_0 hx ?_)
        intro _
        show z_U X 3 m_M_game 61 [(4, (0, r0)), (0, (2, 0)), (1, (0, a1)), (2, (0, a2)), (3, (0, a3))] [(0, g1 13 1)] N σ (z_up g1 0 1 0) Q
        exact z_iret d_M_game_61 rfl (by decide) (by decide) ⟨rfl, rfl, h⟩
      · have h := h.2 c3
        refine z_cV (c := 0) (as := [(0, g1 13 0)]) (d' := 1) (st := []) d_M_game_58 mi_M_gives ml_M_91 mv_M_gives se_M_gives rfl rfl rfl rfl (ks_M_0 hx) rfl rfl (kl_M_0 hx) rfl rfl (b_M_gives_0 hx ?_)
        intro _
        show z_U X 3 m_M_game 61 [(4, (0, r0)), (0, (2, 0)), (1, (0, a1)), (2, (0, a2)), (3, (0, a3))] [(0, g1 13 0)] N σ (z_up g1 0 1 0) Q
        exact z_iret d_M_game_61 rfl (by decide) (by decide) ⟨rfl, rfl, h⟩
    · have h := h.1 c2
      refine z_aload_n (i := 0) (c := 0) 1 d_M_game_34 rfl rfl rfl ?_
      refine z_getr (c := 0) (kI := 33) (r2 := 13) d_M_game_35 fd_M_endBy fl_M_59 rfl rfl rfl (ks_M_0 hx) (kl_M_0 hx) (kr_M_0_33 hx) ?_
      refine z_iconst (n := 0) d_M_game_38 (by decide) ?_
      refine z_iald (c := 13) (m := 1024) d_M_game_39 rfl (ks_M_13 hx) (kl_M_13 hx) rfl (by decide) (by decide) ?_
      refine z_goto (tgt := 58) d_M_game_40 (by decide) ?_
      refine z_cV (c := 0) (as := [(0, g1 13 0)]) (d' := 1) (st := []) d_M_game_58 mi_M_gives ml_M_91 mv_M_gives se_M_gives rfl rfl rfl rfl (ks_M_0 hx) rfl rfl (kl_M_0 hx) rfl rfl (b_M_gives_0 hx ?_)
      intro _
      show z_U X 3 m_M_game 61 [(4, (0, r0)), (0, (2, 0)), (1, (0, a1)), (2, (0, a2)), (3, (0, a3))] [(0, g1 13 0)] N σ (z_up g1 0 1 0) Q
      exact z_iret d_M_game_61 rfl (by decide) (by decide) ⟨rfl, rfl, h⟩
  · have h := h.2 c1
    refine z_aload_n (i := 0) (c := 0) 1 d_M_game_15 rfl rfl rfl ?_
    refine z_iload 0 d_M_game_16 rfl ?_
    refine z_cV (c := 0) (as := [(0, r0)]) (d' := 1) (st := []) d_M_game_18 mi_M_refuse ml_M_87 mv_M_refuse se_M_refuse rfl rfl rfl rfl (ks_M_0 hx) rfl rfl (kl_M_0 hx) rfl rfl (b_M_refuse_0 hx ?_)
    intro _
    show z_U X 3 m_M_game 21 [(4, (0, r0)), (0, (2, 0)), (1, (0, a1)), (2, (0, a2)), (3, (0, a3))] [(0, (-1))] N σ (z_up g0 0 1 r0) Q
    exact z_iret d_M_game_21 rfl (by decide) (by decide) ⟨rfl, rfl, h⟩
theorem d_M_goes_0 : decode (z_c m_M_goes) 0 = .ok (.aload_n 0, 1) := by decide +kernel
theorem d_M_goes_1 : decode (z_c m_M_goes) 1 = .ok (.aload_n 0, 1) := by decide +kernel
theorem d_M_goes_2 : decode (z_c m_M_goes) 2 = .ok (.getfield 7, 3) := by decide +kernel
theorem d_M_goes_5 : decode (z_c m_M_goes) 5 = .ok (.iconst 2, 1) := by decide +kernel
theorem d_M_goes_6 : decode (z_c m_M_goes) 6 = .ok (.iaload, 1) := by decide +kernel
theorem d_M_goes_7 : decode (z_c m_M_goes) 7 = .ok (.aload_n 0, 1) := by decide +kernel
theorem d_M_goes_8 : decode (z_c m_M_goes) 8 = .ok (.getfield 7, 3) := by decide +kernel
theorem d_M_goes_11 : decode (z_c m_M_goes) 11 = .ok (.iconst 3, 1) := by decide +kernel
theorem d_M_goes_12 : decode (z_c m_M_goes) 12 = .ok (.iaload, 1) := by decide +kernel
theorem d_M_goes_13 : decode (z_c m_M_goes) 13 = .ok (.iload_n 1, 1) := by decide +kernel
theorem d_M_goes_14 : decode (z_c m_M_goes) 14 = .ok (.invokevirtual 325, 3) := by decide +kernel
theorem d_M_goes_17 : decode (z_c m_M_goes) 17 = .ok (.aload_n 0, 1) := by decide +kernel
theorem d_M_goes_18 : decode (z_c m_M_goes) 18 = .ok (.getfield 303, 3) := by decide +kernel
theorem d_M_goes_21 : decode (z_c m_M_goes) 21 = .ok (.sipush 9999, 3) := by decide +kernel
theorem d_M_goes_24 : decode (z_c m_M_goes) 24 = .ok (.if_icmp .le 5, 3) := by decide +kernel
theorem d_M_goes_27 : decode (z_c m_M_goes) 27 = .ok (.iconst 0, 1) := by decide +kernel
theorem d_M_goes_28 : decode (z_c m_M_goes) 28 = .ok (.ireturn, 1) := by decide +kernel
theorem d_M_goes_29 : decode (z_c m_M_goes) 29 = .ok (.aload_n 0, 1) := by decide +kernel
theorem d_M_goes_30 : decode (z_c m_M_goes) 30 = .ok (.aload_n 0, 1) := by decide +kernel
theorem d_M_goes_31 : decode (z_c m_M_goes) 31 = .ok (.getfield 300, 3) := by decide +kernel
theorem d_M_goes_34 : decode (z_c m_M_goes) 34 = .ok (.aload_n 0, 1) := by decide +kernel
theorem d_M_goes_35 : decode (z_c m_M_goes) 35 = .ok (.getfield 303, 3) := by decide +kernel
theorem d_M_goes_38 : decode (z_c m_M_goes) 38 = .ok (.invokevirtual 329, 3) := by decide +kernel
theorem d_M_goes_41 : decode (z_c m_M_goes) 41 = .ok (.iconst 1, 1) := by decide +kernel
theorem d_M_goes_42 : decode (z_c m_M_goes) 42 = .ok (.ireturn, 1) := by decide +kernel
set_option maxRecDepth 8000 in
theorem b_M_goes_0 {X : z_X} {N : Nat} {σ g : z_G} {Q : z_P} {a1 : Int} (hx : z_lay X N σ 0 z_SM z_RM) (h : z_O X 1 m_M_findsChild [(2, 0), (0, g 1 2), (0, g 1 3), (0, a1)] N σ g (fun r0 g0 => ((((g0 0 29) ≤ 9999) → (z_O X 2 m_M_comes [(2, 0), (0, g0 0 28), (0, g0 0 29)] N σ g0 (fun r1 g1 => Q 1 g1))) ∧ (¬ ((g0 0 29) ≤ 9999) → Q 0 g0)))) : z_O X 3 m_M_goes [(2, 0), (0, a1)] N σ g Q := by
  refine z_Oenter mi_M_goes rfl (fun _ => ?_)
  show z_U X 3 m_M_goes 0 [(0, (2, 0)), (1, (0, a1))] [] N σ g Q
  refine z_aload_n (i := 0) (c := 0) 0 d_M_goes_0 rfl rfl rfl ?_
  refine z_aload_n (i := 0) (c := 0) 0 d_M_goes_1 rfl rfl rfl ?_
  refine z_getr (c := 0) (kI := 0) (r2 := 1) d_M_goes_2 fd_M_at fl_M_7 rfl rfl rfl (ks_M_0 hx) (kl_M_0 hx) (kr_M_0_0 hx) ?_
  refine z_iconst (n := 2) d_M_goes_5 (by decide) ?_
  refine z_iald (c := 1) (m := 3296) d_M_goes_6 rfl (ks_M_1 hx) (kl_M_1 hx) rfl (by decide) (by decide) ?_
  refine z_aload_n (i := 0) (c := 0) 0 d_M_goes_7 rfl rfl rfl ?_
  refine z_getr (c := 0) (kI := 0) (r2 := 1) d_M_goes_8 fd_M_at fl_M_7 rfl rfl rfl (ks_M_0 hx) (kl_M_0 hx) (kr_M_0_0 hx) ?_
  refine z_iconst (n := 3) d_M_goes_11 (by decide) ?_
  refine z_iald (c := 1) (m := 3296) d_M_goes_12 rfl (ks_M_1 hx) (kl_M_1 hx) rfl (by decide) (by decide) ?_
  refine z_iload_n (i := 1) 1 d_M_goes_13 rfl rfl ?_
  refine z_cV (c := 0) (as := [(0, g 1 2), (0, g 1 3), (0, a1)]) (d' := 1) (st := []) d_M_goes_14 mi_M_findsChild ml_M_325 mv_M_findsChild se_M_findsChild rfl rfl rfl rfl (ks_M_0 hx) rfl rfl (kl_M_0 hx) rfl rfl (z_Omono h (fun r0 g0 _ h hro => ?_))
  show z_U X 3 m_M_goes 17 [(0, (2, 0)), (1, (0, a1))] [] N σ g0 Q
  refine z_aload_n (i := 0) (c := 0) 0 d_M_goes_17 rfl rfl rfl ?_
  refine z_geti (c := 0) (kI := 29) d_M_goes_18 fd_M_foundBottom fl_M_303 (Or.inl rfl) rfl rfl (ks_M_0 hx) (kl_M_0 hx) ?_
  refine z_sipush (n := 9999) d_M_goes_21 (by decide) (by decide) ?_
  refine z_icmp_le (tgt := 29) d_M_goes_24 (by decide) (fun c1 => ?_) (fun c1 => ?_)
  · have h := h.1 c1
    refine z_aload_n (i := 0) (c := 0) 0 d_M_goes_29 rfl rfl rfl ?_
    refine z_aload_n (i := 0) (c := 0) 0 d_M_goes_30 rfl rfl rfl ?_
    refine z_geti (c := 0) (kI := 28) d_M_goes_31 fd_M_foundTop fl_M_300 (Or.inl rfl) rfl rfl (ks_M_0 hx) (kl_M_0 hx) ?_
    refine z_aload_n (i := 0) (c := 0) 0 d_M_goes_34 rfl rfl rfl ?_
    refine z_geti (c := 0) (kI := 29) d_M_goes_35 fd_M_foundBottom fl_M_303 (Or.inl rfl) rfl rfl (ks_M_0 hx) (kl_M_0 hx) ?_
    refine z_cV (c := 0) (as := [(0, g0 0 28), (0, g0 0 29)]) (d' := 2) (st := []) d_M_goes_38 mi_M_comes ml_M_329 mv_M_comes se_M_comes rfl rfl rfl rfl (ks_M_0 hx) rfl rfl (kl_M_0 hx) rfl rfl (z_Omono h (fun r1 g1 _ h hro => ?_))
    show z_U X 3 m_M_goes 41 [(0, (2, 0)), (1, (0, a1))] [] N σ g1 Q
    refine z_iconst (n := 1) d_M_goes_41 (by decide) ?_
    exact z_zret d_M_goes_42 rfl (by decide) (by decide) (by decide) ⟨rfl, rfl, h⟩
  · have h := h.2 c1
    refine z_iconst (n := 0) d_M_goes_27 (by decide) ?_
    exact z_zret d_M_goes_28 rfl (by decide) (by decide) (by decide) ⟨rfl, rfl, h⟩
theorem d_M_goesUp_0 : decode (z_c m_M_goesUp) 0 = .ok (.aload_n 0, 1) := by decide +kernel
theorem d_M_goesUp_1 : decode (z_c m_M_goesUp) 1 = .ok (.getfield 7, 3) := by decide +kernel
theorem d_M_goesUp_4 : decode (z_c m_M_goesUp) 4 = .ok (.iconst 3, 1) := by decide +kernel
theorem d_M_goesUp_5 : decode (z_c m_M_goesUp) 5 = .ok (.iaload, 1) := by decide +kernel
theorem d_M_goesUp_6 : decode (z_c m_M_goesUp) 6 = .ok (.iconst 2, 1) := by decide +kernel
theorem d_M_goesUp_7 : decode (z_c m_M_goesUp) 7 = .ok (.if_icmp .ne 5, 3) := by decide +kernel
theorem d_M_goesUp_10 : decode (z_c m_M_goesUp) 10 = .ok (.iconst 0, 1) := by decide +kernel
theorem d_M_goesUp_11 : decode (z_c m_M_goesUp) 11 = .ok (.ireturn, 1) := by decide +kernel
theorem d_M_goesUp_12 : decode (z_c m_M_goesUp) 12 = .ok (.aload_n 0, 1) := by decide +kernel
theorem d_M_goesUp_13 : decode (z_c m_M_goesUp) 13 = .ok (.aload_n 0, 1) := by decide +kernel
theorem d_M_goesUp_14 : decode (z_c m_M_goesUp) 14 = .ok (.getfield 7, 3) := by decide +kernel
theorem d_M_goesUp_17 : decode (z_c m_M_goesUp) 17 = .ok (.iconst 2, 1) := by decide +kernel
theorem d_M_goesUp_18 : decode (z_c m_M_goesUp) 18 = .ok (.iaload, 1) := by decide +kernel
theorem d_M_goesUp_19 : decode (z_c m_M_goesUp) 19 = .ok (.aload_n 0, 1) := by decide +kernel
theorem d_M_goesUp_20 : decode (z_c m_M_goesUp) 20 = .ok (.getfield 7, 3) := by decide +kernel
theorem d_M_goesUp_23 : decode (z_c m_M_goesUp) 23 = .ok (.iconst 3, 1) := by decide +kernel
theorem d_M_goesUp_24 : decode (z_c m_M_goesUp) 24 = .ok (.iaload, 1) := by decide +kernel
theorem d_M_goesUp_25 : decode (z_c m_M_goesUp) 25 = .ok (.invokevirtual 306, 3) := by decide +kernel
theorem d_M_goesUp_28 : decode (z_c m_M_goesUp) 28 = .ok (.aload_n 0, 1) := by decide +kernel
theorem d_M_goesUp_29 : decode (z_c m_M_goesUp) 29 = .ok (.aload_n 0, 1) := by decide +kernel
theorem d_M_goesUp_30 : decode (z_c m_M_goesUp) 30 = .ok (.getfield 300, 3) := by decide +kernel
theorem d_M_goesUp_33 : decode (z_c m_M_goesUp) 33 = .ok (.aload_n 0, 1) := by decide +kernel
theorem d_M_goesUp_34 : decode (z_c m_M_goesUp) 34 = .ok (.getfield 303, 3) := by decide +kernel
theorem d_M_goesUp_37 : decode (z_c m_M_goesUp) 37 = .ok (.invokevirtual 329, 3) := by decide +kernel
theorem d_M_goesUp_40 : decode (z_c m_M_goesUp) 40 = .ok (.iconst 1, 1) := by decide +kernel
theorem d_M_goesUp_41 : decode (z_c m_M_goesUp) 41 = .ok (.ireturn, 1) := by decide +kernel
set_option maxRecDepth 8000 in
theorem b_M_goesUp_0 {X : z_X} {N : Nat} {σ g : z_G} {Q : z_P} (hx : z_lay X N σ 0 z_SM z_RM) (h : (((g 1 3) = 2) → Q 0 g) ∧ (¬ ((g 1 3) = 2) → (z_O X 2 m_M_findsParent [(2, 0), (0, g 1 2), (0, g 1 3)] N σ g (fun r0 g0 => (z_O X 2 m_M_comes [(2, 0), (0, g0 0 28), (0, g0 0 29)] N σ g0 (fun r1 g1 => Q 1 g1)))))) : z_O X 3 m_M_goesUp [(2, 0)] N σ g Q := by
  refine z_Oenter mi_M_goesUp rfl (fun _ => ?_)
  show z_U X 3 m_M_goesUp 0 [(0, (2, 0))] [] N σ g Q
  refine z_aload_n (i := 0) (c := 0) 0 d_M_goesUp_0 rfl rfl rfl ?_
  refine z_getr (c := 0) (kI := 0) (r2 := 1) d_M_goesUp_1 fd_M_at fl_M_7 rfl rfl rfl (ks_M_0 hx) (kl_M_0 hx) (kr_M_0_0 hx) ?_
  refine z_iconst (n := 3) d_M_goesUp_4 (by decide) ?_
  refine z_iald (c := 1) (m := 3296) d_M_goesUp_5 rfl (ks_M_1 hx) (kl_M_1 hx) rfl (by decide) (by decide) ?_
  refine z_iconst (n := 2) d_M_goesUp_6 (by decide) ?_
  refine z_icmp_ne (tgt := 12) d_M_goesUp_7 (by decide) (fun c1 => ?_) (fun c1 => ?_)
  · have h := h.2 c1
    refine z_aload_n (i := 0) (c := 0) 0 d_M_goesUp_12 rfl rfl rfl ?_
    refine z_aload_n (i := 0) (c := 0) 0 d_M_goesUp_13 rfl rfl rfl ?_
    refine z_getr (c := 0) (kI := 0) (r2 := 1) d_M_goesUp_14 fd_M_at fl_M_7 rfl rfl rfl (ks_M_0 hx) (kl_M_0 hx) (kr_M_0_0 hx) ?_
    refine z_iconst (n := 2) d_M_goesUp_17 (by decide) ?_
    refine z_iald (c := 1) (m := 3296) d_M_goesUp_18 rfl (ks_M_1 hx) (kl_M_1 hx) rfl (by decide) (by decide) ?_
    refine z_aload_n (i := 0) (c := 0) 0 d_M_goesUp_19 rfl rfl rfl ?_
    refine z_getr (c := 0) (kI := 0) (r2 := 1) d_M_goesUp_20 fd_M_at fl_M_7 rfl rfl rfl (ks_M_0 hx) (kl_M_0 hx) (kr_M_0_0 hx) ?_
    refine z_iconst (n := 3) d_M_goesUp_23 (by decide) ?_
    refine z_iald (c := 1) (m := 3296) d_M_goesUp_24 rfl (ks_M_1 hx) (kl_M_1 hx) rfl (by decide) (by decide) ?_
    refine z_cV (c := 0) (as := [(0, g 1 2), (0, g 1 3)]) (d' := 2) (st := []) d_M_goesUp_25 mi_M_findsParent ml_M_306 mv_M_findsParent se_M_findsParent rfl rfl rfl rfl (ks_M_0 hx) rfl rfl (kl_M_0 hx) rfl rfl (z_Omono h (fun r0 g0 _ h hro => ?_))
    show z_U X 3 m_M_goesUp 28 [(0, (2, 0))] [] N σ g0 Q
    refine z_aload_n (i := 0) (c := 0) 0 d_M_goesUp_28 rfl rfl rfl ?_
    refine z_aload_n (i := 0) (c := 0) 0 d_M_goesUp_29 rfl rfl rfl ?_
    refine z_geti (c := 0) (kI := 28) d_M_goesUp_30 fd_M_foundTop fl_M_300 (Or.inl rfl) rfl rfl (ks_M_0 hx) (kl_M_0 hx) ?_
    refine z_aload_n (i := 0) (c := 0) 0 d_M_goesUp_33 rfl rfl rfl ?_
    refine z_geti (c := 0) (kI := 29) d_M_goesUp_34 fd_M_foundBottom fl_M_303 (Or.inl rfl) rfl rfl (ks_M_0 hx) (kl_M_0 hx) ?_
    refine z_cV (c := 0) (as := [(0, g0 0 28), (0, g0 0 29)]) (d' := 2) (st := []) d_M_goesUp_37 mi_M_comes ml_M_329 mv_M_comes se_M_comes rfl rfl rfl rfl (ks_M_0 hx) rfl rfl (kl_M_0 hx) rfl rfl (z_Omono h (fun r1 g1 _ h hro => ?_))
    show z_U X 3 m_M_goesUp 40 [(0, (2, 0))] [] N σ g1 Q
    refine z_iconst (n := 1) d_M_goesUp_40 (by decide) ?_
    exact z_zret d_M_goesUp_41 rfl (by decide) (by decide) (by decide) ⟨rfl, rfl, h⟩
  · have h := h.1 c1
    refine z_iconst (n := 0) d_M_goesUp_10 (by decide) ?_
    exact z_zret d_M_goesUp_11 rfl (by decide) (by decide) (by decide) ⟨rfl, rfl, h⟩
theorem d_M_here_0 : decode (z_c m_M_here) 0 = .ok (.aload_n 0, 1) := by decide +kernel
theorem d_M_here_1 : decode (z_c m_M_here) 1 = .ok (.aload_n 0, 1) := by decide +kernel
theorem d_M_here_2 : decode (z_c m_M_here) 2 = .ok (.getfield 7, 3) := by decide +kernel
theorem d_M_here_5 : decode (z_c m_M_here) 5 = .ok (.iconst 2, 1) := by decide +kernel
theorem d_M_here_6 : decode (z_c m_M_here) 6 = .ok (.iaload, 1) := by decide +kernel
theorem d_M_here_7 : decode (z_c m_M_here) 7 = .ok (.i2l, 1) := by decide +kernel
theorem d_M_here_8 : decode (z_c m_M_here) 8 = .ok (.aload_n 0, 1) := by decide +kernel
theorem d_M_here_9 : decode (z_c m_M_here) 9 = .ok (.getfield 7, 3) := by decide +kernel
theorem d_M_here_12 : decode (z_c m_M_here) 12 = .ok (.iconst 3, 1) := by decide +kernel
theorem d_M_here_13 : decode (z_c m_M_here) 13 = .ok (.iaload, 1) := by decide +kernel
theorem d_M_here_14 : decode (z_c m_M_here) 14 = .ok (.i2l, 1) := by decide +kernel
theorem d_M_here_15 : decode (z_c m_M_here) 15 = .ok (.invokevirtual 253, 3) := by decide +kernel
theorem d_M_here_18 : decode (z_c m_M_here) 18 = .ok (.ireturn, 1) := by decide +kernel
set_option maxRecDepth 8000 in
theorem b_M_here_0 {X : z_X} {N : Nat} {σ g : z_G} {Q : z_P} (hx : z_lay X N σ 0 z_SM z_RM) (h : z_O X 2 m_M_tellsBy [(2, 0), (1, g 1 2), (1, g 1 3)] N σ g (fun r0 g0 => (r0 = 0 ∨ r0 = 1) → Q r0 g0)) : z_O X 3 m_M_here [(2, 0)] N σ g Q := by
  refine z_Oenter mi_M_here rfl (fun _ => ?_)
  show z_U X 3 m_M_here 0 [(0, (2, 0))] [] N σ g Q
  refine z_aload_n (i := 0) (c := 0) 0 d_M_here_0 rfl rfl rfl ?_
  refine z_aload_n (i := 0) (c := 0) 0 d_M_here_1 rfl rfl rfl ?_
  refine z_getr (c := 0) (kI := 0) (r2 := 1) d_M_here_2 fd_M_at fl_M_7 rfl rfl rfl (ks_M_0 hx) (kl_M_0 hx) (kr_M_0_0 hx) ?_
  refine z_iconst (n := 2) d_M_here_5 (by decide) ?_
  refine z_iald (c := 1) (m := 3296) d_M_here_6 rfl (ks_M_1 hx) (kl_M_1 hx) rfl (by decide) (by decide) ?_
  refine z_i2l d_M_here_7 ?_
  refine z_aload_n (i := 0) (c := 0) 0 d_M_here_8 rfl rfl rfl ?_
  refine z_getr (c := 0) (kI := 0) (r2 := 1) d_M_here_9 fd_M_at fl_M_7 rfl rfl rfl (ks_M_0 hx) (kl_M_0 hx) (kr_M_0_0 hx) ?_
  refine z_iconst (n := 3) d_M_here_12 (by decide) ?_
  refine z_iald (c := 1) (m := 3296) d_M_here_13 rfl (ks_M_1 hx) (kl_M_1 hx) rfl (by decide) (by decide) ?_
  refine z_i2l d_M_here_14 ?_
  refine z_cV (c := 0) (as := [(1, g 1 2), (1, g 1 3)]) (d' := 2) (st := []) d_M_here_15 mi_M_tellsBy ml_M_253 mv_M_tellsBy se_M_tellsBy rfl rfl rfl rfl (ks_M_0 hx) rfl rfl (kl_M_0 hx) rfl rfl (z_Omono h (fun r0 g0 _ h hro => ?_))
  have h := h (z_b01 hro)
  have hzr0 := z_b01 hro
  show z_U X 3 m_M_here 18 [(0, (2, 0))] [(0, r0)] N σ g0 Q
  exact z_zret d_M_here_18 rfl (by decide) (by decide) hzr0 ⟨rfl, rfl, h⟩
theorem d_M_isLess_0 : decode (z_c m_M_isLess) 0 = .ok (.aload_n 0, 1) := by decide +kernel
theorem d_M_isLess_1 : decode (z_c m_M_isLess) 1 = .ok (.iload_n 1, 1) := by decide +kernel
theorem d_M_isLess_2 : decode (z_c m_M_isLess) 2 = .ok (.invokevirtual 366, 3) := by decide +kernel
theorem d_M_isLess_5 : decode (z_c m_M_isLess) 5 = .ok (.aload_n 0, 1) := by decide +kernel
theorem d_M_isLess_6 : decode (z_c m_M_isLess) 6 = .ok (.iload_n 2, 1) := by decide +kernel
theorem d_M_isLess_7 : decode (z_c m_M_isLess) 7 = .ok (.invokevirtual 369, 3) := by decide +kernel
theorem d_M_isLess_10 : decode (z_c m_M_isLess) 10 = .ok (.imul, 1) := by decide +kernel
theorem d_M_isLess_11 : decode (z_c m_M_isLess) 11 = .ok (.aload_n 0, 1) := by decide +kernel
theorem d_M_isLess_12 : decode (z_c m_M_isLess) 12 = .ok (.iload_n 2, 1) := by decide +kernel
theorem d_M_isLess_13 : decode (z_c m_M_isLess) 13 = .ok (.invokevirtual 366, 3) := by decide +kernel
theorem d_M_isLess_16 : decode (z_c m_M_isLess) 16 = .ok (.aload_n 0, 1) := by decide +kernel
theorem d_M_isLess_17 : decode (z_c m_M_isLess) 17 = .ok (.iload_n 1, 1) := by decide +kernel
theorem d_M_isLess_18 : decode (z_c m_M_isLess) 18 = .ok (.invokevirtual 369, 3) := by decide +kernel
theorem d_M_isLess_21 : decode (z_c m_M_isLess) 21 = .ok (.imul, 1) := by decide +kernel
theorem d_M_isLess_22 : decode (z_c m_M_isLess) 22 = .ok (.if_icmp .ge 7, 3) := by decide +kernel
theorem d_M_isLess_25 : decode (z_c m_M_isLess) 25 = .ok (.iconst 1, 1) := by decide +kernel
theorem d_M_isLess_26 : decode (z_c m_M_isLess) 26 = .ok (.goto 4, 3) := by decide +kernel
theorem d_M_isLess_29 : decode (z_c m_M_isLess) 29 = .ok (.iconst 0, 1) := by decide +kernel
theorem d_M_isLess_30 : decode (z_c m_M_isLess) 30 = .ok (.ireturn, 1) := by decide +kernel
set_option maxRecDepth 8000 in
theorem b_M_isLess_0 {X : z_X} {N : Nat} {σ g : z_G} {Q : z_P} {a1 a2 : Int} (hx : z_lay X N σ 0 z_SM z_RM) (h : (-2147483648 ≤ (3 * a1) ∧ (3 * a1) ≤ 2147483647) ∧ ((-2147483648 ≤ (10 + (3 * a1)) ∧ (10 + (3 * a1)) ≤ 2147483647) ∧ ((0 ≤ (10 + (3 * a1)) ∧ (10 + (3 * a1)) < 3296) ∧ ((-2147483648 ≤ (3 * a2) ∧ (3 * a2) ≤ 2147483647) ∧ ((-2147483648 ≤ (10 + (3 * a2)) ∧ (10 + (3 * a2)) ≤ 2147483647) ∧ ((-2147483648 ≤ ((10 + (3 * a2)) + 1) ∧ ((10 + (3 * a2)) + 1) ≤ 2147483647) ∧ ((0 ≤ ((10 + (3 * a2)) + 1) ∧ ((10 + (3 * a2)) + 1) < 3296) ∧ ((-2147483648 ≤ ((g 1 (10 + (3 * a1))) * (g 1 ((10 + (3 * a2)) + 1))) ∧ ((g 1 (10 + (3 * a1))) * (g 1 ((10 + (3 * a2)) + 1))) ≤ 2147483647) ∧ ((0 ≤ (10 + (3 * a2)) ∧ (10 + (3 * a2)) < 3296) ∧ ((-2147483648 ≤ ((10 + (3 * a1)) + 1) ∧ ((10 + (3 * a1)) + 1) ≤ 2147483647) ∧ ((0 ≤ ((10 + (3 * a1)) + 1) ∧ ((10 + (3 * a1)) + 1) < 3296) ∧ ((-2147483648 ≤ ((g 1 (10 + (3 * a2))) * (g 1 ((10 + (3 * a1)) + 1))) ∧ ((g 1 (10 + (3 * a2))) * (g 1 ((10 + (3 * a1)) + 1))) ≤ 2147483647) ∧ (((((g 1 (10 + (3 * a2))) * (g 1 ((10 + (3 * a1)) + 1))) ≤ ((g 1 (10 + (3 * a1))) * (g 1 ((10 + (3 * a2)) + 1)))) → Q 0 g) ∧ (¬ (((g 1 (10 + (3 * a2))) * (g 1 ((10 + (3 * a1)) + 1))) ≤ ((g 1 (10 + (3 * a1))) * (g 1 ((10 + (3 * a2)) + 1)))) → Q 1 g)))))))))))))) : z_O X 3 m_M_isLess [(2, 0), (0, a1), (0, a2)] N σ g Q := by
  refine z_Oenter mi_M_isLess rfl (fun _ => ?_)
  show z_U X 3 m_M_isLess 0 [(0, (2, 0)), (1, (0, a1)), (2, (0, a2))] [] N σ g Q
  refine z_aload_n (i := 0) (c := 0) 0 d_M_isLess_0 rfl rfl rfl ?_
  refine z_iload_n (i := 1) 1 d_M_isLess_1 rfl rfl ?_
  refine z_cV (c := 0) (as := [(0, a1)]) (d' := 2) (st := []) d_M_isLess_2 mi_M_topOf ml_M_366 mv_M_topOf se_M_topOf rfl rfl rfl rfl (ks_M_0 hx) rfl rfl (kl_M_0 hx) rfl rfl (b_M_topOf_0 hx ?_)
  obtain ⟨c1, h⟩ := h
  refine ⟨c1, ?_⟩
  obtain ⟨c2, h⟩ := h
  refine ⟨c2, ?_⟩
  obtain ⟨c3, h⟩ := h
  refine ⟨c3, ?_⟩
  intro _
  show z_U X 3 m_M_isLess 5 [(0, (2, 0)), (1, (0, a1)), (2, (0, a2))] [(0, g 1 (10 + (3 * a1)))] N σ g Q
  refine z_aload_n (i := 0) (c := 0) 0 d_M_isLess_5 rfl rfl rfl ?_
  refine z_iload_n (i := 2) 2 d_M_isLess_6 rfl rfl ?_
  refine z_cV (c := 0) (as := [(0, a2)]) (d' := 2) (st := [(0, g 1 (10 + (3 * a1)))]) d_M_isLess_7 mi_M_bottomOf ml_M_369 mv_M_bottomOf se_M_bottomOf rfl rfl rfl rfl (ks_M_0 hx) rfl rfl (kl_M_0 hx) rfl rfl (b_M_bottomOf_0 hx ?_)
  obtain ⟨c4, h⟩ := h
  refine ⟨c4, ?_⟩
  obtain ⟨c5, h⟩ := h
  refine ⟨c5, ?_⟩
  obtain ⟨c6, h⟩ := h
  refine ⟨c6, ?_⟩
  obtain ⟨c7, h⟩ := h
  refine ⟨c7, ?_⟩
  intro _
  show z_U X 3 m_M_isLess 10 [(0, (2, 0)), (1, (0, a1)), (2, (0, a2))] [(0, g 1 ((10 + (3 * a2)) + 1)), (0, g 1 (10 + (3 * a1)))] N σ g Q
  obtain ⟨c8, h⟩ := h
  refine z_imul d_M_isLess_10 c8 ?_
  refine z_aload_n (i := 0) (c := 0) 0 d_M_isLess_11 rfl rfl rfl ?_
  refine z_iload_n (i := 2) 2 d_M_isLess_12 rfl rfl ?_
  refine z_cV (c := 0) (as := [(0, a2)]) (d' := 2) (st := [(0, (g 1 (10 + (3 * a1))) * (g 1 ((10 + (3 * a2)) + 1)))]) d_M_isLess_13 mi_M_topOf ml_M_366 mv_M_topOf se_M_topOf rfl rfl rfl rfl (ks_M_0 hx) rfl rfl (kl_M_0 hx) rfl rfl (b_M_topOf_0 hx ?_)
  refine ⟨c4, ?_⟩
  refine ⟨c5, ?_⟩
  obtain ⟨c9, h⟩ := h
  refine ⟨c9, ?_⟩
  intro _
  show z_U X 3 m_M_isLess 16 [(0, (2, 0)), (1, (0, a1)), (2, (0, a2))] [(0, g 1 (10 + (3 * a2))), (0, (g 1 (10 + (3 * a1))) * (g 1 ((10 + (3 * a2)) + 1)))] N σ g Q
  refine z_aload_n (i := 0) (c := 0) 0 d_M_isLess_16 rfl rfl rfl ?_
  refine z_iload_n (i := 1) 1 d_M_isLess_17 rfl rfl ?_
  refine z_cV (c := 0) (as := [(0, a1)]) (d' := 2) (st := [(0, g 1 (10 + (3 * a2))), (0, (g 1 (10 + (3 * a1))) * (g 1 ((10 + (3 * a2)) + 1)))]) d_M_isLess_18 mi_M_bottomOf ml_M_369 mv_M_bottomOf se_M_bottomOf rfl rfl rfl rfl (ks_M_0 hx) rfl rfl (kl_M_0 hx) rfl rfl (b_M_bottomOf_0 hx ?_)
  refine ⟨c1, ?_⟩
  refine ⟨c2, ?_⟩
  obtain ⟨c10, h⟩ := h
  refine ⟨c10, ?_⟩
  obtain ⟨c11, h⟩ := h
  refine ⟨c11, ?_⟩
  intro _
  show z_U X 3 m_M_isLess 21 [(0, (2, 0)), (1, (0, a1)), (2, (0, a2))] [(0, g 1 ((10 + (3 * a1)) + 1)), (0, g 1 (10 + (3 * a2))), (0, (g 1 (10 + (3 * a1))) * (g 1 ((10 + (3 * a2)) + 1)))] N σ g Q
  obtain ⟨c12, h⟩ := h
  refine z_imul d_M_isLess_21 c12 ?_
  refine z_icmp_ge (tgt := 29) d_M_isLess_22 (by decide) (fun c13 => ?_) (fun c13 => ?_)
  · have h := h.1 c13
    refine z_iconst (n := 0) d_M_isLess_29 (by decide) ?_
    exact z_zret d_M_isLess_30 rfl (by decide) (by decide) (by decide) ⟨rfl, rfl, h⟩
  · have h := h.2 c13
    refine z_iconst (n := 1) d_M_isLess_25 (by decide) ?_
    refine z_goto (tgt := 30) d_M_isLess_26 (by decide) ?_
    exact z_zret d_M_isLess_30 rfl (by decide) (by decide) (by decide) ⟨rfl, rfl, h⟩
theorem d_M_laysRow_0 : decode (z_c m_M_laysRow) 0 = .ok (.aload_n 0, 1) := by decide +kernel
theorem d_M_laysRow_1 : decode (z_c m_M_laysRow) 1 = .ok (.aload_n 0, 1) := by decide +kernel
theorem d_M_laysRow_2 : decode (z_c m_M_laysRow) 2 = .ok (.getfield 7, 3) := by decide +kernel
theorem d_M_laysRow_5 : decode (z_c m_M_laysRow) 5 = .ok (.iconst 1, 1) := by decide +kernel
theorem d_M_laysRow_6 : decode (z_c m_M_laysRow) 6 = .ok (.iaload, 1) := by decide +kernel
theorem d_M_laysRow_7 : decode (z_c m_M_laysRow) 7 = .ok (.invokevirtual 247, 3) := by decide +kernel
theorem d_M_laysRow_10 : decode (z_c m_M_laysRow) 10 = .ok (.return_, 1) := by decide +kernel
set_option maxRecDepth 8000 in
theorem b_M_laysRow_0 {X : z_X} {N : Nat} {σ g : z_G} {Q : z_P} (hx : z_lay X N σ 0 z_SM z_RM) (h : z_O X 2 m_M_lays [(2, 0), (0, g 1 1)] N σ g (fun r0 g0 => Q 0 g0)) : z_O X 3 m_M_laysRow [(2, 0)] N σ g Q := by
  refine z_Oenter mi_M_laysRow rfl (fun _ => ?_)
  show z_U X 3 m_M_laysRow 0 [(0, (2, 0))] [] N σ g Q
  refine z_aload_n (i := 0) (c := 0) 0 d_M_laysRow_0 rfl rfl rfl ?_
  refine z_aload_n (i := 0) (c := 0) 0 d_M_laysRow_1 rfl rfl rfl ?_
  refine z_getr (c := 0) (kI := 0) (r2 := 1) d_M_laysRow_2 fd_M_at fl_M_7 rfl rfl rfl (ks_M_0 hx) (kl_M_0 hx) (kr_M_0_0 hx) ?_
  refine z_iconst (n := 1) d_M_laysRow_5 (by decide) ?_
  refine z_iald (c := 1) (m := 3296) d_M_laysRow_6 rfl (ks_M_1 hx) (kl_M_1 hx) rfl (by decide) (by decide) ?_
  refine z_cV (c := 0) (as := [(0, g 1 1)]) (d' := 2) (st := []) d_M_laysRow_7 mi_M_lays ml_M_247 mv_M_lays se_M_lays rfl rfl rfl rfl (ks_M_0 hx) rfl rfl (kl_M_0 hx) rfl rfl (z_Omono h (fun r0 g0 _ h hro => ?_))
  show z_U X 3 m_M_laysRow 10 [(0, (2, 0))] [] N σ g0 Q
  exact z_vret d_M_laysRow_10 rfl (by decide) (by decide) ⟨rfl, rfl, h⟩
theorem d_M_lifts_0 : decode (z_c m_M_lifts) 0 = .ok (.aload_n 0, 1) := by decide +kernel
theorem d_M_lifts_1 : decode (z_c m_M_lifts) 1 = .ok (.iload_n 1, 1) := by decide +kernel
theorem d_M_lifts_2 : decode (z_c m_M_lifts) 2 = .ok (.iload_n 2, 1) := by decide +kernel
theorem d_M_lifts_3 : decode (z_c m_M_lifts) 3 = .ok (.invokevirtual 349, 3) := by decide +kernel
theorem d_M_lifts_6 : decode (z_c m_M_lifts) 6 = .ok (.istore_n 3, 1) := by decide +kernel
theorem d_M_lifts_7 : decode (z_c m_M_lifts) 7 = .ok (.iload_n 3, 1) := by decide +kernel
theorem d_M_lifts_8 : decode (z_c m_M_lifts) 8 = .ok (.iconst (-1), 1) := by decide +kernel
theorem d_M_lifts_9 : decode (z_c m_M_lifts) 9 = .ok (.if_icmp .ne 5, 3) := by decide +kernel
theorem d_M_lifts_12 : decode (z_c m_M_lifts) 12 = .ok (.iconst (-1), 1) := by decide +kernel
theorem d_M_lifts_13 : decode (z_c m_M_lifts) 13 = .ok (.ireturn, 1) := by decide +kernel
theorem d_M_lifts_14 : decode (z_c m_M_lifts) 14 = .ok (.aload_n 0, 1) := by decide +kernel
theorem d_M_lifts_15 : decode (z_c m_M_lifts) 15 = .ok (.iload_n 3, 1) := by decide +kernel
theorem d_M_lifts_16 : decode (z_c m_M_lifts) 16 = .ok (.invokevirtual 352, 3) := by decide +kernel
theorem d_M_lifts_19 : decode (z_c m_M_lifts) 19 = .ok (.istore 4, 2) := by decide +kernel
theorem d_M_lifts_21 : decode (z_c m_M_lifts) 21 = .ok (.aload_n 0, 1) := by decide +kernel
theorem d_M_lifts_22 : decode (z_c m_M_lifts) 22 = .ok (.getfield 7, 3) := by decide +kernel
theorem d_M_lifts_25 : decode (z_c m_M_lifts) 25 = .ok (.iconst 4, 1) := by decide +kernel
theorem d_M_lifts_26 : decode (z_c m_M_lifts) 26 = .ok (.dup2, 1) := by decide +kernel
theorem d_M_lifts_27 : decode (z_c m_M_lifts) 27 = .ok (.iaload, 1) := by decide +kernel
theorem d_M_lifts_28 : decode (z_c m_M_lifts) 28 = .ok (.iconst 1, 1) := by decide +kernel
theorem d_M_lifts_29 : decode (z_c m_M_lifts) 29 = .ok (.isub, 1) := by decide +kernel
theorem d_M_lifts_30 : decode (z_c m_M_lifts) 30 = .ok (.iastore, 1) := by decide +kernel
theorem d_M_lifts_31 : decode (z_c m_M_lifts) 31 = .ok (.iload_n 3, 1) := by decide +kernel
theorem d_M_lifts_32 : decode (z_c m_M_lifts) 32 = .ok (.invokestatic 346, 3) := by decide +kernel
theorem d_M_lifts_35 : decode (z_c m_M_lifts) 35 = .ok (.istore 5, 2) := by decide +kernel
theorem d_M_lifts_37 : decode (z_c m_M_lifts) 37 = .ok (.iload 5, 2) := by decide +kernel
theorem d_M_lifts_39 : decode (z_c m_M_lifts) 39 = .ok (.aload_n 0, 1) := by decide +kernel
theorem d_M_lifts_40 : decode (z_c m_M_lifts) 40 = .ok (.getfield 7, 3) := by decide +kernel
theorem d_M_lifts_43 : decode (z_c m_M_lifts) 43 = .ok (.iconst 4, 1) := by decide +kernel
theorem d_M_lifts_44 : decode (z_c m_M_lifts) 44 = .ok (.iaload, 1) := by decide +kernel
theorem d_M_lifts_45 : decode (z_c m_M_lifts) 45 = .ok (.invokestatic 346, 3) := by decide +kernel
theorem d_M_lifts_48 : decode (z_c m_M_lifts) 48 = .ok (.if_icmp .ge 25, 3) := by decide +kernel
theorem d_M_lifts_51 : decode (z_c m_M_lifts) 51 = .ok (.aload_n 0, 1) := by decide +kernel
theorem d_M_lifts_52 : decode (z_c m_M_lifts) 52 = .ok (.getfield 7, 3) := by decide +kernel
theorem d_M_lifts_55 : decode (z_c m_M_lifts) 55 = .ok (.iload 5, 2) := by decide +kernel
theorem d_M_lifts_57 : decode (z_c m_M_lifts) 57 = .ok (.aload_n 0, 1) := by decide +kernel
theorem d_M_lifts_58 : decode (z_c m_M_lifts) 58 = .ok (.getfield 7, 3) := by decide +kernel
theorem d_M_lifts_61 : decode (z_c m_M_lifts) 61 = .ok (.iload 5, 2) := by decide +kernel
theorem d_M_lifts_63 : decode (z_c m_M_lifts) 63 = .ok (.iconst 3, 1) := by decide +kernel
theorem d_M_lifts_64 : decode (z_c m_M_lifts) 64 = .ok (.iadd, 1) := by decide +kernel
theorem d_M_lifts_65 : decode (z_c m_M_lifts) 65 = .ok (.iaload, 1) := by decide +kernel
theorem d_M_lifts_66 : decode (z_c m_M_lifts) 66 = .ok (.iastore, 1) := by decide +kernel
theorem d_M_lifts_67 : decode (z_c m_M_lifts) 67 = .ok (.iinc 5 1, 3) := by decide +kernel
theorem d_M_lifts_70 : decode (z_c m_M_lifts) 70 = .ok (.goto (-33), 3) := by decide +kernel
theorem d_M_lifts_73 : decode (z_c m_M_lifts) 73 = .ok (.iload 4, 2) := by decide +kernel
theorem d_M_lifts_75 : decode (z_c m_M_lifts) 75 = .ok (.ireturn, 1) := by decide +kernel
abbrev L_M_lifts_37 (X : z_X) (N : Nat) (σ : z_G) (x4 x5 : Int) (g : z_G) (Q : z_P) : Prop := z_U X 3 m_M_lifts 37 [(0, (2, 0)), (4, (0, x4)), (5, (0, x5))] [] N σ g Q
set_option maxRecDepth 8000 in
theorem b_M_lifts_0 {X : z_X} {N : Nat} {σ g : z_G} {Q : z_P} {a1 a2 : Int} (hx : z_lay X N σ 0 z_SM z_RM) (h : z_O X 2 m_M_pinOf [(2, 0), (0, a1), (0, a2)] N σ g (fun r0 g0 => (((r0 = (-1)) → Q (-1) g0) ∧ (¬ (r0 = (-1)) → ((-2147483648 ≤ (3 * r0) ∧ (3 * r0) ≤ 2147483647) ∧ ((-2147483648 ≤ (10 + (3 * r0)) ∧ (10 + (3 * r0)) ≤ 2147483647) ∧ ((-2147483648 ≤ ((10 + (3 * r0)) + 2) ∧ ((10 + (3 * r0)) + 2) ≤ 2147483647) ∧ ((0 ≤ ((10 + (3 * r0)) + 2) ∧ ((10 + (3 * r0)) + 2) < 3296) ∧ ((-2147483648 ≤ ((g0 1 4) - 1) ∧ ((g0 1 4) - 1) ≤ 2147483647) ∧ L_M_lifts_37 X N σ (g0 1 ((10 + (3 * r0)) + 2)) (10 + (3 * r0)) (z_up g0 1 4 ((g0 1 4) - 1)) Q))))))))) : z_O X 3 m_M_lifts [(2, 0), (0, a1), (0, a2)] N σ g Q := by
  refine z_Oenter mi_M_lifts rfl (fun _ => ?_)
  show z_U X 3 m_M_lifts 0 [(0, (2, 0)), (1, (0, a1)), (2, (0, a2))] [] N σ g Q
  refine z_aload_n (i := 0) (c := 0) 0 d_M_lifts_0 rfl rfl rfl ?_
  refine z_iload_n (i := 1) 1 d_M_lifts_1 rfl rfl ?_
  refine z_iload_n (i := 2) 2 d_M_lifts_2 rfl rfl ?_
  refine z_cV (c := 0) (as := [(0, a1), (0, a2)]) (d' := 2) (st := []) d_M_lifts_3 mi_M_pinOf ml_M_349 mv_M_pinOf se_M_pinOf rfl rfl rfl rfl (ks_M_0 hx) rfl rfl (kl_M_0 hx) rfl rfl (z_Omono h (fun r0 g0 _ h hro => ?_))
  show z_U X 3 m_M_lifts 6 [(0, (2, 0)), (1, (0, a1)), (2, (0, a2))] [(0, r0)] N σ g0 Q
  refine z_istore_n (i := 3) (ls' := [(3, (0, r0)), (0, (2, 0)), (1, (0, a1)), (2, (0, a2))]) d_M_lifts_6 rfl rfl rfl ?_
  refine z_iload_n (i := 3) 0 d_M_lifts_7 rfl rfl ?_
  refine z_iconst (n := (-1)) d_M_lifts_8 (by decide) ?_
  refine z_icmp_ne (tgt := 14) d_M_lifts_9 (by decide) (fun c1 => ?_) (fun c1 => ?_)
  · have h := h.2 c1
    refine z_aload_n (i := 0) (c := 0) 1 d_M_lifts_14 rfl rfl rfl ?_
    refine z_iload_n (i := 3) 0 d_M_lifts_15 rfl rfl ?_
    refine z_cV (c := 0) (as := [(0, r0)]) (d' := 2) (st := []) d_M_lifts_16 mi_M_weightOf ml_M_352 mv_M_weightOf se_M_weightOf rfl rfl rfl rfl (ks_M_0 hx) rfl rfl (kl_M_0 hx) rfl rfl (b_M_weightOf_0 hx ?_)
    obtain ⟨c2, h⟩ := h
    refine ⟨c2, ?_⟩
    obtain ⟨c3, h⟩ := h
    refine ⟨c3, ?_⟩
    obtain ⟨c4, h⟩ := h
    refine ⟨c4, ?_⟩
    obtain ⟨c5, h⟩ := h
    refine ⟨c5, ?_⟩
    intro _
    show z_U X 3 m_M_lifts 19 [(3, (0, r0)), (0, (2, 0)), (1, (0, a1)), (2, (0, a2))] [(0, g0 1 ((10 + (3 * r0)) + 2))] N σ g0 Q
    refine z_istore (ls' := [(4, (0, g0 1 ((10 + (3 * r0)) + 2))), (3, (0, r0)), (0, (2, 0)), (1, (0, a1)), (2, (0, a2))]) d_M_lifts_19 rfl rfl ?_
    refine z_aload_n (i := 0) (c := 0) 2 d_M_lifts_21 rfl rfl rfl ?_
    refine z_getr (c := 0) (kI := 0) (r2 := 1) d_M_lifts_22 fd_M_at fl_M_7 rfl rfl rfl (ks_M_0 hx) (kl_M_0 hx) (kr_M_0_0 hx) ?_
    refine z_iconst (n := 4) d_M_lifts_25 (by decide) ?_
    refine z_dup2 d_M_lifts_26 rfl rfl ?_
    refine z_iald (c := 1) (m := 3296) d_M_lifts_27 rfl (ks_M_1 hx) (kl_M_1 hx) rfl (by decide) (by decide) ?_
    refine z_iconst (n := 1) d_M_lifts_28 (by decide) ?_
    obtain ⟨c6, h⟩ := h
    refine z_isub d_M_lifts_29 c6 ?_
    refine z_iast (c := 1) (m := 3296) d_M_lifts_30 rfl (ks_M_1 hx) (kl_M_1 hx) rfl (by decide) (by decide) ?_
    refine z_iload_n (i := 3) 1 d_M_lifts_31 rfl rfl ?_
    refine z_cS (as := [(0, r0)]) (d' := 1) (st := []) d_M_lifts_32 mi_M_rowOf ml_M_346 ms_M_rowOf rfl rfl rfl rfl rfl (b_M_rowOf_0  ?_)
    refine ⟨c2, ?_⟩
    refine ⟨c3, ?_⟩
    intro _
    show z_U X 3 m_M_lifts 35 [(4, (0, g0 1 ((10 + (3 * r0)) + 2))), (3, (0, r0)), (0, (2, 0)), (1, (0, a1)), (2, (0, a2))] [(0, 10 + (3 * r0))] N σ (z_up g0 1 4 ((g0 1 4) - 1)) Q
    refine z_istore (ls' := [(5, (0, 10 + (3 * r0))), (4, (0, g0 1 ((10 + (3 * r0)) + 2))), (3, (0, r0)), (0, (2, 0)), (1, (0, a1)), (2, (0, a2))]) d_M_lifts_35 rfl rfl ?_
    refine z_sub (ls' := [(0, (2, 0)), (4, (0, g0 1 ((10 + (3 * r0)) + 2))), (5, (0, 10 + (3 * r0)))]) [3, 1, 0] rfl ?_
    exact h
  · have h := h.1 c1
    refine z_iconst (n := (-1)) d_M_lifts_12 (by decide) ?_
    exact z_iret d_M_lifts_13 rfl (by decide) (by decide) ⟨rfl, rfl, h⟩
set_option maxRecDepth 8000 in
theorem b_M_lifts_37 {X : z_X} {N : Nat} {σ g : z_G} {Q : z_P} {x4 x5 : Int} (hx : z_lay X N σ 0 z_SM z_RM) (h : (-2147483648 ≤ (3 * (g 1 4)) ∧ (3 * (g 1 4)) ≤ 2147483647) ∧ ((-2147483648 ≤ (10 + (3 * (g 1 4))) ∧ (10 + (3 * (g 1 4))) ≤ 2147483647) ∧ ((((10 + (3 * (g 1 4))) ≤ x5) → Q x4 g) ∧ (¬ ((10 + (3 * (g 1 4))) ≤ x5) → ((-2147483648 ≤ (x5 + 3) ∧ (x5 + 3) ≤ 2147483647) ∧ ((0 ≤ (x5 + 3) ∧ (x5 + 3) < 3296) ∧ ((0 ≤ x5 ∧ x5 < 3296) ∧ ((-2147483648 ≤ (x5 + 1) ∧ (x5 + 1) ≤ 2147483647) ∧ L_M_lifts_37 X N σ x4 (x5 + 1) (z_up g 1 x5 (g 1 (x5 + 3))) Q)))))))) : L_M_lifts_37 X N σ x4 x5 g Q := by
  refine z_iload 2 d_M_lifts_37 rfl ?_
  refine z_aload_n (i := 0) (c := 0) 0 d_M_lifts_39 rfl rfl rfl ?_
  refine z_getr (c := 0) (kI := 0) (r2 := 1) d_M_lifts_40 fd_M_at fl_M_7 rfl rfl rfl (ks_M_0 hx) (kl_M_0 hx) (kr_M_0_0 hx) ?_
  refine z_iconst (n := 4) d_M_lifts_43 (by decide) ?_
  refine z_iald (c := 1) (m := 3296) d_M_lifts_44 rfl (ks_M_1 hx) (kl_M_1 hx) rfl (by decide) (by decide) ?_
  refine z_cS (as := [(0, g 1 4)]) (d' := 1) (st := [(0, x5)]) d_M_lifts_45 mi_M_rowOf ml_M_346 ms_M_rowOf rfl rfl rfl rfl rfl (b_M_rowOf_0  ?_)
  obtain ⟨c1, h⟩ := h
  refine ⟨c1, ?_⟩
  obtain ⟨c2, h⟩ := h
  refine ⟨c2, ?_⟩
  intro _
  show z_U X 3 m_M_lifts 48 [(0, (2, 0)), (4, (0, x4)), (5, (0, x5))] [(0, 10 + (3 * (g 1 4))), (0, x5)] N σ g Q
  refine z_icmp_ge (tgt := 73) d_M_lifts_48 (by decide) (fun c3 => ?_) (fun c3 => ?_)
  · have h := h.1 c3
    refine z_iload 1 d_M_lifts_73 rfl ?_
    exact z_iret d_M_lifts_75 rfl (by decide) (by decide) ⟨rfl, rfl, h⟩
  · have h := h.2 c3
    refine z_aload_n (i := 0) (c := 0) 0 d_M_lifts_51 rfl rfl rfl ?_
    refine z_getr (c := 0) (kI := 0) (r2 := 1) d_M_lifts_52 fd_M_at fl_M_7 rfl rfl rfl (ks_M_0 hx) (kl_M_0 hx) (kr_M_0_0 hx) ?_
    refine z_iload 2 d_M_lifts_55 rfl ?_
    refine z_aload_n (i := 0) (c := 0) 0 d_M_lifts_57 rfl rfl rfl ?_
    refine z_getr (c := 0) (kI := 0) (r2 := 1) d_M_lifts_58 fd_M_at fl_M_7 rfl rfl rfl (ks_M_0 hx) (kl_M_0 hx) (kr_M_0_0 hx) ?_
    refine z_iload 2 d_M_lifts_61 rfl ?_
    refine z_iconst (n := 3) d_M_lifts_63 (by decide) ?_
    obtain ⟨c4, h⟩ := h
    refine z_iadd d_M_lifts_64 c4 ?_
    obtain ⟨c5, h⟩ := h
    refine z_iald (c := 1) (m := 3296) d_M_lifts_65 rfl (ks_M_1 hx) (kl_M_1 hx) rfl (by decide) c5 ?_
    obtain ⟨c6, h⟩ := h
    refine z_iast (c := 1) (m := 3296) d_M_lifts_66 rfl (ks_M_1 hx) (kl_M_1 hx) rfl (by decide) c6 ?_
    obtain ⟨c7, h⟩ := h
    refine z_iinc (n := 1) (ls' := [(5, (0, x5 + 1)), (0, (2, 0)), (4, (0, x4))]) 2 d_M_lifts_67 rfl c7 rfl rfl ?_
    refine z_goto (tgt := 37) d_M_lifts_70 (by decide) ?_
    refine z_sub (ls' := [(0, (2, 0)), (4, (0, x4)), (5, (0, x5 + 1))]) [1, 2, 0] rfl ?_
    exact h
theorem d_M_moveOf_0 : decode (z_c m_M_moveOf) 0 = .ok (.aload_n 0, 1) := by decide +kernel
theorem d_M_moveOf_1 : decode (z_c m_M_moveOf) 1 = .ok (.iload_n 1, 1) := by decide +kernel
theorem d_M_moveOf_2 : decode (z_c m_M_moveOf) 2 = .ok (.iload_n 2, 1) := by decide +kernel
theorem d_M_moveOf_3 : decode (z_c m_M_moveOf) 3 = .ok (.iload_n 3, 1) := by decide +kernel
theorem d_M_moveOf_4 : decode (z_c m_M_moveOf) 4 = .ok (.iconst 1, 1) := by decide +kernel
theorem d_M_moveOf_5 : decode (z_c m_M_moveOf) 5 = .ok (.invokevirtual 383, 3) := by decide +kernel
theorem d_M_moveOf_8 : decode (z_c m_M_moveOf) 8 = .ok (.istore 4, 2) := by decide +kernel
theorem d_M_moveOf_10 : decode (z_c m_M_moveOf) 10 = .ok (.iload 4, 2) := by decide +kernel
theorem d_M_moveOf_12 : decode (z_c m_M_moveOf) 12 = .ok (.ifCond .le 10, 3) := by decide +kernel
theorem d_M_moveOf_15 : decode (z_c m_M_moveOf) 15 = .ok (.aload_n 0, 1) := by decide +kernel
theorem d_M_moveOf_16 : decode (z_c m_M_moveOf) 16 = .ok (.iload 4, 2) := by decide +kernel
theorem d_M_moveOf_18 : decode (z_c m_M_moveOf) 18 = .ok (.invokevirtual 87, 3) := by decide +kernel
theorem d_M_moveOf_21 : decode (z_c m_M_moveOf) 21 = .ok (.ireturn, 1) := by decide +kernel
theorem d_M_moveOf_22 : decode (z_c m_M_moveOf) 22 = .ok (.aload_n 0, 1) := by decide +kernel
theorem d_M_moveOf_23 : decode (z_c m_M_moveOf) 23 = .ok (.iload_n 1, 1) := by decide +kernel
theorem d_M_moveOf_24 : decode (z_c m_M_moveOf) 24 = .ok (.iload_n 2, 1) := by decide +kernel
theorem d_M_moveOf_25 : decode (z_c m_M_moveOf) 25 = .ok (.iload_n 3, 1) := by decide +kernel
theorem d_M_moveOf_26 : decode (z_c m_M_moveOf) 26 = .ok (.invokevirtual 387, 3) := by decide +kernel
theorem d_M_moveOf_29 : decode (z_c m_M_moveOf) 29 = .ok (.aload_n 0, 1) := by decide +kernel
theorem d_M_moveOf_30 : decode (z_c m_M_moveOf) 30 = .ok (.aload_n 0, 1) := by decide +kernel
theorem d_M_moveOf_31 : decode (z_c m_M_moveOf) 31 = .ok (.getfield 59, 3) := by decide +kernel
theorem d_M_moveOf_34 : decode (z_c m_M_moveOf) 34 = .ok (.iconst 1, 1) := by decide +kernel
theorem d_M_moveOf_35 : decode (z_c m_M_moveOf) 35 = .ok (.iaload, 1) := by decide +kernel
theorem d_M_moveOf_36 : decode (z_c m_M_moveOf) 36 = .ok (.aload_n 0, 1) := by decide +kernel
theorem d_M_moveOf_37 : decode (z_c m_M_moveOf) 37 = .ok (.getfield 59, 3) := by decide +kernel
theorem d_M_moveOf_40 : decode (z_c m_M_moveOf) 40 = .ok (.iconst 0, 1) := by decide +kernel
theorem d_M_moveOf_41 : decode (z_c m_M_moveOf) 41 = .ok (.iaload, 1) := by decide +kernel
theorem d_M_moveOf_42 : decode (z_c m_M_moveOf) 42 = .ok (.if_icmp .le 7, 3) := by decide +kernel
theorem d_M_moveOf_45 : decode (z_c m_M_moveOf) 45 = .ok (.iconst 1, 1) := by decide +kernel
theorem d_M_moveOf_46 : decode (z_c m_M_moveOf) 46 = .ok (.goto 4, 3) := by decide +kernel
theorem d_M_moveOf_49 : decode (z_c m_M_moveOf) 49 = .ok (.iconst 0, 1) := by decide +kernel
theorem d_M_moveOf_50 : decode (z_c m_M_moveOf) 50 = .ok (.invokevirtual 91, 3) := by decide +kernel
theorem d_M_moveOf_53 : decode (z_c m_M_moveOf) 53 = .ok (.ireturn, 1) := by decide +kernel
set_option maxRecDepth 8000 in
theorem b_M_moveOf_0 {X : z_X} {N : Nat} {σ g : z_G} {Q : z_P} {a1 a2 a3 : Int} (hx : z_lay X N σ 0 z_SM z_RM) (h : z_O X 2 m_M_wrongGame [(2, 0), (0, a1), (0, a2), (0, a3), (0, 1)] N σ g (fun r0 g0 => (((r0 ≤ 0) → (z_O X 2 m_M_plays [(2, 0), (0, a1), (0, a2), (0, a3)] N σ g0 (fun r1 g1 => ((((g1 13 1) ≤ (g1 13 0)) → Q 0 (z_up g1 0 1 0)) ∧ (¬ ((g1 13 1) ≤ (g1 13 0)) → Q 1 (z_up g1 0 1 0)))))) ∧ (¬ (r0 ≤ 0) → Q (-1) (z_up g0 0 1 r0))))) : z_O X 3 m_M_moveOf [(2, 0), (0, a1), (0, a2), (0, a3)] N σ g Q := by
  refine z_Oenter mi_M_moveOf rfl (fun _ => ?_)
  show z_U X 3 m_M_moveOf 0 [(0, (2, 0)), (1, (0, a1)), (2, (0, a2)), (3, (0, a3))] [] N σ g Q
  refine z_aload_n (i := 0) (c := 0) 0 d_M_moveOf_0 rfl rfl rfl ?_
  refine z_iload_n (i := 1) 1 d_M_moveOf_1 rfl rfl ?_
  refine z_iload_n (i := 2) 2 d_M_moveOf_2 rfl rfl ?_
  refine z_iload_n (i := 3) 3 d_M_moveOf_3 rfl rfl ?_
  refine z_iconst (n := 1) d_M_moveOf_4 (by decide) ?_
  refine z_cV (c := 0) (as := [(0, a1), (0, a2), (0, a3), (0, 1)]) (d' := 2) (st := []) d_M_moveOf_5 mi_M_wrongGame ml_M_383 mv_M_wrongGame se_M_wrongGame rfl rfl rfl rfl (ks_M_0 hx) rfl rfl (kl_M_0 hx) rfl rfl (z_Omono h (fun r0 g0 _ h hro => ?_))
  show z_U X 3 m_M_moveOf 8 [(0, (2, 0)), (1, (0, a1)), (2, (0, a2)), (3, (0, a3))] [(0, r0)] N σ g0 Q
  refine z_istore (ls' := [(4, (0, r0)), (0, (2, 0)), (1, (0, a1)), (2, (0, a2)), (3, (0, a3))]) d_M_moveOf_8 rfl rfl ?_
  refine z_iload 0 d_M_moveOf_10 rfl ?_
  refine z_if_le (tgt := 22) d_M_moveOf_12 (by decide) (fun c1 => ?_) (fun c1 => ?_)
  · have h := h.1 c1
    refine z_aload_n (i := 0) (c := 0) 1 d_M_moveOf_22 rfl rfl rfl ?_
    refine z_iload_n (i := 1) 2 d_M_moveOf_23 rfl rfl ?_
    refine z_iload_n (i := 2) 3 d_M_moveOf_24 rfl rfl ?_
    refine z_iload_n (i := 3) 4 d_M_moveOf_25 rfl rfl ?_
    refine z_cV (c := 0) (as := [(0, a1), (0, a2), (0, a3)]) (d' := 2) (st := []) d_M_moveOf_26 mi_M_plays ml_M_387 mv_M_plays se_M_plays rfl rfl rfl rfl (ks_M_0 hx) rfl rfl (kl_M_0 hx) rfl rfl (z_Omono h (fun r1 g1 _ h hro => ?_))
    show z_U X 3 m_M_moveOf 29 [(4, (0, r0)), (0, (2, 0)), (1, (0, a1)), (2, (0, a2)), (3, (0, a3))] [] N σ g1 Q
    refine z_aload_n (i := 0) (c := 0) 1 d_M_moveOf_29 rfl rfl rfl ?_
    refine z_aload_n (i := 0) (c := 0) 1 d_M_moveOf_30 rfl rfl rfl ?_
    refine z_getr (c := 0) (kI := 33) (r2 := 13) d_M_moveOf_31 fd_M_endBy fl_M_59 rfl rfl rfl (ks_M_0 hx) (kl_M_0 hx) (kr_M_0_33 hx) ?_
    refine z_iconst (n := 1) d_M_moveOf_34 (by decide) ?_
    refine z_iald (c := 13) (m := 1024) d_M_moveOf_35 rfl (ks_M_13 hx) (kl_M_13 hx) rfl (by decide) (by decide) ?_
    refine z_aload_n (i := 0) (c := 0) 1 d_M_moveOf_36 rfl rfl rfl ?_
    refine z_getr (c := 0) (kI := 33) (r2 := 13) d_M_moveOf_37 fd_M_endBy fl_M_59 rfl rfl rfl (ks_M_0 hx) (kl_M_0 hx) (kr_M_0_33 hx) ?_
    refine z_iconst (n := 0) d_M_moveOf_40 (by decide) ?_
    refine z_iald (c := 13) (m := 1024) d_M_moveOf_41 rfl (ks_M_13 hx) (kl_M_13 hx) rfl (by decide) (by decide) ?_
    refine z_icmp_le (tgt := 49) d_M_moveOf_42 (by decide) (fun c2 => ?_) (fun c2 => ?_)
    · have h := h.1 c2
      refine z_iconst (n := 0) d_M_moveOf_49 (by decide) ?_
      refine z_cV (c := 0) (as := [(0, 0)]) (d' := 1) (st := []) d_M_moveOf_50 mi_M_gives ml_M_91 mv_M_gives se_M_gives rfl rfl rfl rfl (ks_M_0 hx) rfl rfl (kl_M_0 hx) rfl rfl (b_M_gives_0 hx ?_)
      intro _
      show z_U X 3 m_M_moveOf 53 [(4, (0, r0)), (0, (2, 0)), (1, (0, a1)), (2, (0, a2)), (3, (0, a3))] [(0, 0)] N σ (z_up g1 0 1 0) Q
      exact z_iret d_M_moveOf_53 rfl (by decide) (by decide) ⟨rfl, rfl, h⟩
    · have h := h.2 c2
      refine z_iconst (n := 1) d_M_moveOf_45 (by decide) ?_
      refine z_goto (tgt := 50) d_M_moveOf_46 (by decide) ?_
      refine z_cV (c := 0) (as := [(0, 1)]) (d' := 1) (st := []) d_M_moveOf_50 mi_M_gives ml_M_91 mv_M_gives se_M_gives rfl rfl rfl rfl (ks_M_0 hx) rfl rfl (kl_M_0 hx) rfl rfl (b_M_gives_0 hx ?_)
      intro _
      show z_U X 3 m_M_moveOf 53 [(4, (0, r0)), (0, (2, 0)), (1, (0, a1)), (2, (0, a2)), (3, (0, a3))] [(0, 1)] N σ (z_up g1 0 1 0) Q
      exact z_iret d_M_moveOf_53 rfl (by decide) (by decide) ⟨rfl, rfl, h⟩
  · have h := h.2 c1
    refine z_aload_n (i := 0) (c := 0) 1 d_M_moveOf_15 rfl rfl rfl ?_
    refine z_iload 0 d_M_moveOf_16 rfl ?_
    refine z_cV (c := 0) (as := [(0, r0)]) (d' := 1) (st := []) d_M_moveOf_18 mi_M_refuse ml_M_87 mv_M_refuse se_M_refuse rfl rfl rfl rfl (ks_M_0 hx) rfl rfl (kl_M_0 hx) rfl rfl (b_M_refuse_0 hx ?_)
    intro _
    show z_U X 3 m_M_moveOf 21 [(4, (0, r0)), (0, (2, 0)), (1, (0, a1)), (2, (0, a2)), (3, (0, a3))] [(0, (-1))] N σ (z_up g0 0 1 r0) Q
    exact z_iret d_M_moveOf_21 rfl (by decide) (by decide) ⟨rfl, rfl, h⟩
theorem d_M_number_0 : decode (z_c m_M_number) 0 = .ok (.aload_n 0, 1) := by decide +kernel
theorem d_M_number_1 : decode (z_c m_M_number) 1 = .ok (.getfield 132, 3) := by decide +kernel
theorem d_M_number_4 : decode (z_c m_M_number) 4 = .ok (.iconst 3, 1) := by decide +kernel
theorem d_M_number_5 : decode (z_c m_M_number) 5 = .ok (.if_icmp .eq 9, 3) := by decide +kernel
theorem d_M_number_8 : decode (z_c m_M_number) 8 = .ok (.aload_n 0, 1) := by decide +kernel
theorem d_M_number_9 : decode (z_c m_M_number) 9 = .ok (.iconst 2, 1) := by decide +kernel
theorem d_M_number_10 : decode (z_c m_M_number) 10 = .ok (.invokevirtual 166, 3) := by decide +kernel
theorem d_M_number_13 : decode (z_c m_M_number) 13 = .ok (.ireturn, 1) := by decide +kernel
theorem d_M_number_14 : decode (z_c m_M_number) 14 = .ok (.aload_n 0, 1) := by decide +kernel
theorem d_M_number_15 : decode (z_c m_M_number) 15 = .ok (.getfield 129, 3) := by decide +kernel
theorem d_M_number_18 : decode (z_c m_M_number) 18 = .ok (.iload_n 2, 1) := by decide +kernel
theorem d_M_number_19 : decode (z_c m_M_number) 19 = .ok (.if_icmp .lt 11, 3) := by decide +kernel
theorem d_M_number_22 : decode (z_c m_M_number) 22 = .ok (.aload_n 0, 1) := by decide +kernel
theorem d_M_number_23 : decode (z_c m_M_number) 23 = .ok (.getfield 129, 3) := by decide +kernel
theorem d_M_number_26 : decode (z_c m_M_number) 26 = .ok (.iload_n 3, 1) := by decide +kernel
theorem d_M_number_27 : decode (z_c m_M_number) 27 = .ok (.if_icmp .le 9, 3) := by decide +kernel
theorem d_M_number_30 : decode (z_c m_M_number) 30 = .ok (.aload_n 0, 1) := by decide +kernel
theorem d_M_number_31 : decode (z_c m_M_number) 31 = .ok (.iconst 4, 1) := by decide +kernel
theorem d_M_number_32 : decode (z_c m_M_number) 32 = .ok (.invokevirtual 166, 3) := by decide +kernel
theorem d_M_number_35 : decode (z_c m_M_number) 35 = .ok (.ireturn, 1) := by decide +kernel
theorem d_M_number_36 : decode (z_c m_M_number) 36 = .ok (.aload_n 0, 1) := by decide +kernel
theorem d_M_number_37 : decode (z_c m_M_number) 37 = .ok (.getfield 7, 3) := by decide +kernel
theorem d_M_number_40 : decode (z_c m_M_number) 40 = .ok (.iload_n 1, 1) := by decide +kernel
theorem d_M_number_41 : decode (z_c m_M_number) 41 = .ok (.aload_n 0, 1) := by decide +kernel
theorem d_M_number_42 : decode (z_c m_M_number) 42 = .ok (.getfield 129, 3) := by decide +kernel
theorem d_M_number_45 : decode (z_c m_M_number) 45 = .ok (.iastore, 1) := by decide +kernel
theorem d_M_number_46 : decode (z_c m_M_number) 46 = .ok (.aload_n 0, 1) := by decide +kernel
theorem d_M_number_47 : decode (z_c m_M_number) 47 = .ok (.invokevirtual 160, 3) := by decide +kernel
theorem d_M_number_50 : decode (z_c m_M_number) 50 = .ok (.iconst 1, 1) := by decide +kernel
theorem d_M_number_51 : decode (z_c m_M_number) 51 = .ok (.ireturn, 1) := by decide +kernel
set_option maxRecDepth 8000 in
theorem b_M_number_0 {X : z_X} {N : Nat} {σ g : z_G} {Q : z_P} {a1 a2 a3 : Int} (hx : z_lay X N σ 0 z_SM z_RM) (h : (((g 0 11) = 3) → ((((g 0 14) < a2) → (z_O X 1 m_M_fails [(2, 0), (0, 4)] N σ g (fun r0 g0 => (r0 = 0 ∨ r0 = 1) → Q r0 g0))) ∧ (¬ ((g 0 14) < a2) → ((((g 0 14) ≤ a3) → ((0 ≤ a1 ∧ a1 < 3296) ∧ (z_O X 2 m_M_nextToken [(2, 0)] N σ (z_up g 1 a1 (g 0 14)) (fun r1 g1 => Q 1 g1)))) ∧ (¬ ((g 0 14) ≤ a3) → (z_O X 1 m_M_fails [(2, 0), (0, 4)] N σ g (fun r2 g2 => (r2 = 0 ∨ r2 = 1) → Q r2 g2))))))) ∧ (¬ ((g 0 11) = 3) → (z_O X 1 m_M_fails [(2, 0), (0, 2)] N σ g (fun r3 g3 => (r3 = 0 ∨ r3 = 1) → Q r3 g3)))) : z_O X 3 m_M_number [(2, 0), (0, a1), (0, a2), (0, a3)] N σ g Q := by
  refine z_Oenter mi_M_number rfl (fun _ => ?_)
  show z_U X 3 m_M_number 0 [(0, (2, 0)), (1, (0, a1)), (2, (0, a2)), (3, (0, a3))] [] N σ g Q
  refine z_aload_n (i := 0) (c := 0) 0 d_M_number_0 rfl rfl rfl ?_
  refine z_geti (c := 0) (kI := 11) d_M_number_1 fd_M_token fl_M_132 (Or.inl rfl) rfl rfl (ks_M_0 hx) (kl_M_0 hx) ?_
  refine z_iconst (n := 3) d_M_number_4 (by decide) ?_
  refine z_icmp_eq (tgt := 14) d_M_number_5 (by decide) (fun c1 => ?_) (fun c1 => ?_)
  · have h := h.1 c1
    refine z_aload_n (i := 0) (c := 0) 0 d_M_number_14 rfl rfl rfl ?_
    refine z_geti (c := 0) (kI := 14) d_M_number_15 fd_M_value fl_M_129 (Or.inl rfl) rfl rfl (ks_M_0 hx) (kl_M_0 hx) ?_
    refine z_iload_n (i := 2) 2 d_M_number_18 rfl rfl ?_
    refine z_icmp_lt (tgt := 30) d_M_number_19 (by decide) (fun c2 => ?_) (fun c2 => ?_)
    · have h := h.1 c2
      refine z_aload_n (i := 0) (c := 0) 0 d_M_number_30 rfl rfl rfl ?_
      refine z_iconst (n := 4) d_M_number_31 (by decide) ?_
      refine z_cV (c := 0) (as := [(0, 4)]) (d' := 1) (st := []) d_M_number_32 mi_M_fails ml_M_166 mv_M_fails se_M_fails rfl rfl rfl rfl (ks_M_0 hx) rfl rfl (kl_M_0 hx) rfl rfl (z_Omono h (fun r0 g0 _ h hro => ?_))
      have h := h (z_b01 hro)
      have hzr0 := z_b01 hro
      show z_U X 3 m_M_number 35 [(0, (2, 0)), (1, (0, a1)), (2, (0, a2)), (3, (0, a3))] [(0, r0)] N σ g0 Q
      exact z_zret d_M_number_35 rfl (by decide) (by decide) hzr0 ⟨rfl, rfl, h⟩
    · have h := h.2 c2
      refine z_aload_n (i := 0) (c := 0) 0 d_M_number_22 rfl rfl rfl ?_
      refine z_geti (c := 0) (kI := 14) d_M_number_23 fd_M_value fl_M_129 (Or.inl rfl) rfl rfl (ks_M_0 hx) (kl_M_0 hx) ?_
      refine z_iload_n (i := 3) 3 d_M_number_26 rfl rfl ?_
      refine z_icmp_le (tgt := 36) d_M_number_27 (by decide) (fun c3 => ?_) (fun c3 => ?_)
      · have h := h.1 c3
        refine z_aload_n (i := 0) (c := 0) 0 d_M_number_36 rfl rfl rfl ?_
        refine z_getr (c := 0) (kI := 0) (r2 := 1) d_M_number_37 fd_M_at fl_M_7 rfl rfl rfl (ks_M_0 hx) (kl_M_0 hx) (kr_M_0_0 hx) ?_
        refine z_iload_n (i := 1) 1 d_M_number_40 rfl rfl ?_
        refine z_aload_n (i := 0) (c := 0) 0 d_M_number_41 rfl rfl rfl ?_
        refine z_geti (c := 0) (kI := 14) d_M_number_42 fd_M_value fl_M_129 (Or.inl rfl) rfl rfl (ks_M_0 hx) (kl_M_0 hx) ?_
        obtain ⟨c4, h⟩ := h
        refine z_iast (c := 1) (m := 3296) d_M_number_45 rfl (ks_M_1 hx) (kl_M_1 hx) rfl (by decide) c4 ?_
        refine z_aload_n (i := 0) (c := 0) 0 d_M_number_46 rfl rfl rfl ?_
        refine z_cV (c := 0) (as := []) (d' := 2) (st := []) d_M_number_47 mi_M_nextToken ml_M_160 mv_M_nextToken se_M_nextToken rfl rfl rfl rfl (ks_M_0 hx) rfl rfl (kl_M_0 hx) rfl rfl (z_Omono h (fun r1 g1 _ h hro => ?_))
        show z_U X 3 m_M_number 50 [(0, (2, 0)), (1, (0, a1)), (2, (0, a2)), (3, (0, a3))] [] N σ g1 Q
        refine z_iconst (n := 1) d_M_number_50 (by decide) ?_
        exact z_zret d_M_number_51 rfl (by decide) (by decide) (by decide) ⟨rfl, rfl, h⟩
      · have h := h.2 c3
        refine z_aload_n (i := 0) (c := 0) 0 d_M_number_30 rfl rfl rfl ?_
        refine z_iconst (n := 4) d_M_number_31 (by decide) ?_
        refine z_cV (c := 0) (as := [(0, 4)]) (d' := 1) (st := []) d_M_number_32 mi_M_fails ml_M_166 mv_M_fails se_M_fails rfl rfl rfl rfl (ks_M_0 hx) rfl rfl (kl_M_0 hx) rfl rfl (z_Omono h (fun r2 g2 _ h hro => ?_))
        have h := h (z_b01 hro)
        have hzr2 := z_b01 hro
        show z_U X 3 m_M_number 35 [(0, (2, 0)), (1, (0, a1)), (2, (0, a2)), (3, (0, a3))] [(0, r2)] N σ g2 Q
        exact z_zret d_M_number_35 rfl (by decide) (by decide) hzr2 ⟨rfl, rfl, h⟩
  · have h := h.2 c1
    refine z_aload_n (i := 0) (c := 0) 0 d_M_number_8 rfl rfl rfl ?_
    refine z_iconst (n := 2) d_M_number_9 (by decide) ?_
    refine z_cV (c := 0) (as := [(0, 2)]) (d' := 1) (st := []) d_M_number_10 mi_M_fails ml_M_166 mv_M_fails se_M_fails rfl rfl rfl rfl (ks_M_0 hx) rfl rfl (kl_M_0 hx) rfl rfl (z_Omono h (fun r3 g3 _ h hro => ?_))
    have h := h (z_b01 hro)
    have hzr3 := z_b01 hro
    show z_U X 3 m_M_number 13 [(0, (2, 0)), (1, (0, a1)), (2, (0, a2)), (3, (0, a3))] [(0, r3)] N σ g3 Q
    exact z_zret d_M_number_13 rfl (by decide) (by decide) hzr3 ⟨rfl, rfl, h⟩
theorem d_M_parent_0 : decode (z_c m_M_parent) 0 = .ok (.iload_n 1, 1) := by decide +kernel
theorem d_M_parent_1 : decode (z_c m_M_parent) 1 = .ok (.iload_n 2, 1) := by decide +kernel
theorem d_M_parent_2 : decode (z_c m_M_parent) 2 = .ok (.invokestatic 272, 3) := by decide +kernel
theorem d_M_parent_5 : decode (z_c m_M_parent) 5 = .ok (.ifCond .ne 9, 3) := by decide +kernel
theorem d_M_parent_8 : decode (z_c m_M_parent) 8 = .ok (.aload_n 0, 1) := by decide +kernel
theorem d_M_parent_9 : decode (z_c m_M_parent) 9 = .ok (.iconst 1, 1) := by decide +kernel
theorem d_M_parent_10 : decode (z_c m_M_parent) 10 = .ok (.invokevirtual 94, 3) := by decide +kernel
theorem d_M_parent_13 : decode (z_c m_M_parent) 13 = .ok (.ireturn, 1) := by decide +kernel
theorem d_M_parent_14 : decode (z_c m_M_parent) 14 = .ok (.iload_n 1, 1) := by decide +kernel
theorem d_M_parent_15 : decode (z_c m_M_parent) 15 = .ok (.iload_n 2, 1) := by decide +kernel
theorem d_M_parent_16 : decode (z_c m_M_parent) 16 = .ok (.invokestatic 297, 3) := by decide +kernel
theorem d_M_parent_19 : decode (z_c m_M_parent) 19 = .ok (.ifCond .ne 10, 3) := by decide +kernel
theorem d_M_parent_22 : decode (z_c m_M_parent) 22 = .ok (.aload_n 0, 1) := by decide +kernel
theorem d_M_parent_23 : decode (z_c m_M_parent) 23 = .ok (.bipush 7, 2) := by decide +kernel
theorem d_M_parent_25 : decode (z_c m_M_parent) 25 = .ok (.invokevirtual 94, 3) := by decide +kernel
theorem d_M_parent_28 : decode (z_c m_M_parent) 28 = .ok (.ireturn, 1) := by decide +kernel
theorem d_M_parent_29 : decode (z_c m_M_parent) 29 = .ok (.iconst 2, 1) := by decide +kernel
theorem d_M_parent_30 : decode (z_c m_M_parent) 30 = .ok (.iload_n 1, 1) := by decide +kernel
theorem d_M_parent_31 : decode (z_c m_M_parent) 31 = .ok (.imul, 1) := by decide +kernel
theorem d_M_parent_32 : decode (z_c m_M_parent) 32 = .ok (.iload_n 2, 1) := by decide +kernel
theorem d_M_parent_33 : decode (z_c m_M_parent) 33 = .ok (.if_icmp .ne 10, 3) := by decide +kernel
theorem d_M_parent_36 : decode (z_c m_M_parent) 36 = .ok (.aload_n 0, 1) := by decide +kernel
theorem d_M_parent_37 : decode (z_c m_M_parent) 37 = .ok (.bipush 6, 2) := by decide +kernel
theorem d_M_parent_39 : decode (z_c m_M_parent) 39 = .ok (.invokevirtual 94, 3) := by decide +kernel
theorem d_M_parent_42 : decode (z_c m_M_parent) 42 = .ok (.ireturn, 1) := by decide +kernel
theorem d_M_parent_43 : decode (z_c m_M_parent) 43 = .ok (.aload_n 0, 1) := by decide +kernel
theorem d_M_parent_44 : decode (z_c m_M_parent) 44 = .ok (.iload_n 1, 1) := by decide +kernel
theorem d_M_parent_45 : decode (z_c m_M_parent) 45 = .ok (.iload_n 2, 1) := by decide +kernel
theorem d_M_parent_46 : decode (z_c m_M_parent) 46 = .ok (.invokevirtual 306, 3) := by decide +kernel
theorem d_M_parent_49 : decode (z_c m_M_parent) 49 = .ok (.aload_n 0, 1) := by decide +kernel
theorem d_M_parent_50 : decode (z_c m_M_parent) 50 = .ok (.aload_n 0, 1) := by decide +kernel
theorem d_M_parent_51 : decode (z_c m_M_parent) 51 = .ok (.getfield 300, 3) := by decide +kernel
theorem d_M_parent_54 : decode (z_c m_M_parent) 54 = .ok (.i2l, 1) := by decide +kernel
theorem d_M_parent_55 : decode (z_c m_M_parent) 55 = .ok (.aload_n 0, 1) := by decide +kernel
theorem d_M_parent_56 : decode (z_c m_M_parent) 56 = .ok (.getfield 303, 3) := by decide +kernel
theorem d_M_parent_59 : decode (z_c m_M_parent) 59 = .ok (.i2l, 1) := by decide +kernel
theorem d_M_parent_60 : decode (z_c m_M_parent) 60 = .ok (.invokevirtual 253, 3) := by decide +kernel
theorem d_M_parent_63 : decode (z_c m_M_parent) 63 = .ok (.ireturn, 1) := by decide +kernel
set_option maxRecDepth 8000 in
theorem b_M_parent_0 {X : z_X} {N : Nat} {σ g : z_G} {Q : z_P} {a1 a2 : Int} (hx : z_lay X N σ 0 z_SM z_RM) (h : ((a2 < 1) → Q 0 (z_up g 0 1 1)) ∧ (¬ (a2 < 1) → (((9999 < a2) → Q 0 (z_up g 0 1 1)) ∧ (¬ (9999 < a2) → (((a1 < 0) → Q 0 (z_up g 0 1 1)) ∧ (¬ (a1 < 0) → (((a2 < a1) → Q 0 (z_up g 0 1 1)) ∧ (¬ (a2 < a1) → (((a1 ≤ 0) → Q 0 (z_up g 0 1 7)) ∧ (¬ (a1 ≤ 0) → (((a2 ≤ a1) → Q 0 (z_up g 0 1 7)) ∧ (¬ (a2 ≤ a1) → ((-2147483648 ≤ (2 * a1) ∧ (2 * a1) ≤ 2147483647) ∧ ((((2 * a1) = a2) → Q 0 (z_up g 0 1 6)) ∧ (¬ ((2 * a1) = a2) → (z_O X 2 m_M_findsParent [(2, 0), (0, a1), (0, a2)] N σ g (fun r0 g0 => (z_O X 2 m_M_tellsBy [(2, 0), (1, g0 0 28), (1, g0 0 29)] N σ g0 (fun r1 g1 => (r1 = 0 ∨ r1 = 1) → Q r1 g1))))))))))))))))))) : z_O X 3 m_M_parent [(2, 0), (0, a1), (0, a2)] N σ g Q := by
  refine z_Oenter mi_M_parent rfl (fun _ => ?_)
  show z_U X 3 m_M_parent 0 [(0, (2, 0)), (1, (0, a1)), (2, (0, a2))] [] N σ g Q
  refine z_iload_n (i := 1) 1 d_M_parent_0 rfl rfl ?_
  refine z_iload_n (i := 2) 2 d_M_parent_1 rfl rfl ?_
  refine z_cS (as := [(0, a1), (0, a2)]) (d' := 1) (st := []) d_M_parent_2 mi_M_isValue ml_M_272 ms_M_isValue rfl rfl rfl rfl rfl (b_M_isValue_0  ?_)
  refine ⟨fun c1 => ?_, fun c1 => ?_⟩
  · have h := h.1 c1
    intro _
    show z_U X 3 m_M_parent 5 [(0, (2, 0)), (1, (0, a1)), (2, (0, a2))] [(0, 0)] N σ g Q
    refine z_if_ne (tgt := 14) d_M_parent_5 (by decide) (fun c => absurd (by decide) c) (fun _ => ?_)
    refine z_aload_n (i := 0) (c := 0) 0 d_M_parent_8 rfl rfl rfl ?_
    refine z_iconst (n := 1) d_M_parent_9 (by decide) ?_
    refine z_cV (c := 0) (as := [(0, 1)]) (d' := 1) (st := []) d_M_parent_10 mi_M_is ml_M_94 mv_M_is se_M_is rfl rfl rfl rfl (ks_M_0 hx) rfl rfl (kl_M_0 hx) rfl rfl (b_M_is_0 hx ?_)
    refine ⟨fun c => absurd c (by decide), fun _ => ?_⟩
    intro _
    show z_U X 3 m_M_parent 13 [(0, (2, 0)), (1, (0, a1)), (2, (0, a2))] [(0, 0)] N σ (z_up g 0 1 1) Q
    exact z_zret d_M_parent_13 rfl (by decide) (by decide) (by decide) ⟨rfl, rfl, h⟩
  · have h := h.2 c1
    refine ⟨fun c2 => ?_, fun c2 => ?_⟩
    · have h := h.1 c2
      intro _
      show z_U X 3 m_M_parent 5 [(0, (2, 0)), (1, (0, a1)), (2, (0, a2))] [(0, 0)] N σ g Q
      refine z_if_ne (tgt := 14) d_M_parent_5 (by decide) (fun c => absurd (by decide) c) (fun _ => ?_)
      refine z_aload_n (i := 0) (c := 0) 0 d_M_parent_8 rfl rfl rfl ?_
      refine z_iconst (n := 1) d_M_parent_9 (by decide) ?_
      refine z_cV (c := 0) (as := [(0, 1)]) (d' := 1) (st := []) d_M_parent_10 mi_M_is ml_M_94 mv_M_is se_M_is rfl rfl rfl rfl (ks_M_0 hx) rfl rfl (kl_M_0 hx) rfl rfl (b_M_is_0 hx ?_)
      refine ⟨fun c => absurd c (by decide), fun _ => ?_⟩
      intro _
      show z_U X 3 m_M_parent 13 [(0, (2, 0)), (1, (0, a1)), (2, (0, a2))] [(0, 0)] N σ (z_up g 0 1 1) Q
      exact z_zret d_M_parent_13 rfl (by decide) (by decide) (by decide) ⟨rfl, rfl, h⟩
    · have h := h.2 c2
      refine ⟨fun c3 => ?_, fun c3 => ?_⟩
      · have h := h.1 c3
        intro _
        show z_U X 3 m_M_parent 5 [(0, (2, 0)), (1, (0, a1)), (2, (0, a2))] [(0, 0)] N σ g Q
        refine z_if_ne (tgt := 14) d_M_parent_5 (by decide) (fun c => absurd (by decide) c) (fun _ => ?_)
        refine z_aload_n (i := 0) (c := 0) 0 d_M_parent_8 rfl rfl rfl ?_
        refine z_iconst (n := 1) d_M_parent_9 (by decide) ?_
        refine z_cV (c := 0) (as := [(0, 1)]) (d' := 1) (st := []) d_M_parent_10 mi_M_is ml_M_94 mv_M_is se_M_is rfl rfl rfl rfl (ks_M_0 hx) rfl rfl (kl_M_0 hx) rfl rfl (b_M_is_0 hx ?_)
        refine ⟨fun c => absurd c (by decide), fun _ => ?_⟩
        intro _
        show z_U X 3 m_M_parent 13 [(0, (2, 0)), (1, (0, a1)), (2, (0, a2))] [(0, 0)] N σ (z_up g 0 1 1) Q
        exact z_zret d_M_parent_13 rfl (by decide) (by decide) (by decide) ⟨rfl, rfl, h⟩
      · have h := h.2 c3
        refine ⟨fun c4 => ?_, fun c4 => ?_⟩
        · have h := h.1 c4
          intro _
          show z_U X 3 m_M_parent 5 [(0, (2, 0)), (1, (0, a1)), (2, (0, a2))] [(0, 0)] N σ g Q
          refine z_if_ne (tgt := 14) d_M_parent_5 (by decide) (fun c => absurd (by decide) c) (fun _ => ?_)
          refine z_aload_n (i := 0) (c := 0) 0 d_M_parent_8 rfl rfl rfl ?_
          refine z_iconst (n := 1) d_M_parent_9 (by decide) ?_
          refine z_cV (c := 0) (as := [(0, 1)]) (d' := 1) (st := []) d_M_parent_10 mi_M_is ml_M_94 mv_M_is se_M_is rfl rfl rfl rfl (ks_M_0 hx) rfl rfl (kl_M_0 hx) rfl rfl (b_M_is_0 hx ?_)
          refine ⟨fun c => absurd c (by decide), fun _ => ?_⟩
          intro _
          show z_U X 3 m_M_parent 13 [(0, (2, 0)), (1, (0, a1)), (2, (0, a2))] [(0, 0)] N σ (z_up g 0 1 1) Q
          exact z_zret d_M_parent_13 rfl (by decide) (by decide) (by decide) ⟨rfl, rfl, h⟩
        · have h := h.2 c4
          intro _
          show z_U X 3 m_M_parent 5 [(0, (2, 0)), (1, (0, a1)), (2, (0, a2))] [(0, 1)] N σ g Q
          refine z_if_ne (tgt := 14) d_M_parent_5 (by decide) (fun _ => ?_) (fun c => absurd c (by decide))
          refine z_iload_n (i := 1) 1 d_M_parent_14 rfl rfl ?_
          refine z_iload_n (i := 2) 2 d_M_parent_15 rfl rfl ?_
          refine z_cS (as := [(0, a1), (0, a2)]) (d' := 1) (st := []) d_M_parent_16 mi_M_isOfTree ml_M_297 ms_M_isOfTree rfl rfl rfl rfl rfl (b_M_isOfTree_0  ?_)
          refine ⟨fun c5 => ?_, fun c5 => ?_⟩
          · have h := h.1 c5
            intro _
            show z_U X 3 m_M_parent 19 [(0, (2, 0)), (1, (0, a1)), (2, (0, a2))] [(0, 0)] N σ g Q
            refine z_if_ne (tgt := 29) d_M_parent_19 (by decide) (fun c => absurd (by decide) c) (fun _ => ?_)
            refine z_aload_n (i := 0) (c := 0) 0 d_M_parent_22 rfl rfl rfl ?_
            refine z_bipush (n := 7) d_M_parent_23 (by decide) (by decide) ?_
            refine z_cV (c := 0) (as := [(0, 7)]) (d' := 1) (st := []) d_M_parent_25 mi_M_is ml_M_94 mv_M_is se_M_is rfl rfl rfl rfl (ks_M_0 hx) rfl rfl (kl_M_0 hx) rfl rfl (b_M_is_0 hx ?_)
            refine ⟨fun c => absurd c (by decide), fun _ => ?_⟩
            intro _
            show z_U X 3 m_M_parent 28 [(0, (2, 0)), (1, (0, a1)), (2, (0, a2))] [(0, 0)] N σ (z_up g 0 1 7) Q
            exact z_zret d_M_parent_28 rfl (by decide) (by decide) (by decide) ⟨rfl, rfl, h⟩
          · have h := h.2 c5
            refine ⟨fun c6 => ?_, fun c6 => ?_⟩
            · have h := h.1 c6
              intro _
              show z_U X 3 m_M_parent 19 [(0, (2, 0)), (1, (0, a1)), (2, (0, a2))] [(0, 0)] N σ g Q
              refine z_if_ne (tgt := 29) d_M_parent_19 (by decide) (fun c => absurd (by decide) c) (fun _ => ?_)
              refine z_aload_n (i := 0) (c := 0) 0 d_M_parent_22 rfl rfl rfl ?_
              refine z_bipush (n := 7) d_M_parent_23 (by decide) (by decide) ?_
              refine z_cV (c := 0) (as := [(0, 7)]) (d' := 1) (st := []) d_M_parent_25 mi_M_is ml_M_94 mv_M_is se_M_is rfl rfl rfl rfl (ks_M_0 hx) rfl rfl (kl_M_0 hx) rfl rfl (b_M_is_0 hx ?_)
              refine ⟨fun c => absurd c (by decide), fun _ => ?_⟩
              intro _
              show z_U X 3 m_M_parent 28 [(0, (2, 0)), (1, (0, a1)), (2, (0, a2))] [(0, 0)] N σ (z_up g 0 1 7) Q
              exact z_zret d_M_parent_28 rfl (by decide) (by decide) (by decide) ⟨rfl, rfl, h⟩
            · have h := h.2 c6
              intro _
              show z_U X 3 m_M_parent 19 [(0, (2, 0)), (1, (0, a1)), (2, (0, a2))] [(0, 1)] N σ g Q
              refine z_if_ne (tgt := 29) d_M_parent_19 (by decide) (fun _ => ?_) (fun c => absurd c (by decide))
              refine z_iconst (n := 2) d_M_parent_29 (by decide) ?_
              refine z_iload_n (i := 1) 1 d_M_parent_30 rfl rfl ?_
              obtain ⟨c7, h⟩ := h
              refine z_imul d_M_parent_31 c7 ?_
              refine z_iload_n (i := 2) 2 d_M_parent_32 rfl rfl ?_
              refine z_icmp_ne (tgt := 43) d_M_parent_33 (by decide) (fun c8 => ?_) (fun c8 => ?_)
              · have h := h.2 c8
                refine z_aload_n (i := 0) (c := 0) 0 d_M_parent_43 rfl rfl rfl ?_
                refine z_iload_n (i := 1) 1 d_M_parent_44 rfl rfl ?_
                refine z_iload_n (i := 2) 2 d_M_parent_45 rfl rfl ?_
                refine z_cV (c := 0) (as := [(0, a1), (0, a2)]) (d' := 2) (st := []) d_M_parent_46 mi_M_findsParent ml_M_306 mv_M_findsParent se_M_findsParent rfl rfl rfl rfl (ks_M_0 hx) rfl rfl (kl_M_0 hx) rfl rfl (z_Omono h (fun r0 g0 _ h hro => ?_))
                show z_U X 3 m_M_parent 49 [(0, (2, 0)), (1, (0, a1)), (2, (0, a2))] [] N σ g0 Q
                refine z_aload_n (i := 0) (c := 0) 0 d_M_parent_49 rfl rfl rfl ?_
                refine z_aload_n (i := 0) (c := 0) 0 d_M_parent_50 rfl rfl rfl ?_
                refine z_geti (c := 0) (kI := 28) d_M_parent_51 fd_M_foundTop fl_M_300 (Or.inl rfl) rfl rfl (ks_M_0 hx) (kl_M_0 hx) ?_
                refine z_i2l d_M_parent_54 ?_
                refine z_aload_n (i := 0) (c := 0) 0 d_M_parent_55 rfl rfl rfl ?_
                refine z_geti (c := 0) (kI := 29) d_M_parent_56 fd_M_foundBottom fl_M_303 (Or.inl rfl) rfl rfl (ks_M_0 hx) (kl_M_0 hx) ?_
                refine z_i2l d_M_parent_59 ?_
                refine z_cV (c := 0) (as := [(1, g0 0 28), (1, g0 0 29)]) (d' := 2) (st := []) d_M_parent_60 mi_M_tellsBy ml_M_253 mv_M_tellsBy se_M_tellsBy rfl rfl rfl rfl (ks_M_0 hx) rfl rfl (kl_M_0 hx) rfl rfl (z_Omono h (fun r1 g1 _ h hro => ?_))
                have h := h (z_b01 hro)
                have hzr1 := z_b01 hro
                show z_U X 3 m_M_parent 63 [(0, (2, 0)), (1, (0, a1)), (2, (0, a2))] [(0, r1)] N σ g1 Q
                exact z_zret d_M_parent_63 rfl (by decide) (by decide) hzr1 ⟨rfl, rfl, h⟩
              · have h := h.1 c8
                refine z_aload_n (i := 0) (c := 0) 0 d_M_parent_36 rfl rfl rfl ?_
                refine z_bipush (n := 6) d_M_parent_37 (by decide) (by decide) ?_
                refine z_cV (c := 0) (as := [(0, 6)]) (d' := 1) (st := []) d_M_parent_39 mi_M_is ml_M_94 mv_M_is se_M_is rfl rfl rfl rfl (ks_M_0 hx) rfl rfl (kl_M_0 hx) rfl rfl (b_M_is_0 hx ?_)
                refine ⟨fun c => absurd c (by decide), fun _ => ?_⟩
                intro _
                show z_U X 3 m_M_parent 42 [(0, (2, 0)), (1, (0, a1)), (2, (0, a2))] [(0, 0)] N σ (z_up g 0 1 6) Q
                exact z_zret d_M_parent_42 rfl (by decide) (by decide) (by decide) ⟨rfl, rfl, h⟩
theorem d_M_pins_0 : decode (z_c m_M_pins) 0 = .ok (.aload_n 0, 1) := by decide +kernel
theorem d_M_pins_1 : decode (z_c m_M_pins) 1 = .ok (.iload_n 1, 1) := by decide +kernel
theorem d_M_pins_2 : decode (z_c m_M_pins) 2 = .ok (.iload_n 2, 1) := by decide +kernel
theorem d_M_pins_3 : decode (z_c m_M_pins) 3 = .ok (.invokevirtual 349, 3) := by decide +kernel
theorem d_M_pins_6 : decode (z_c m_M_pins) 6 = .ok (.istore 4, 2) := by decide +kernel
theorem d_M_pins_8 : decode (z_c m_M_pins) 8 = .ok (.iload 4, 2) := by decide +kernel
theorem d_M_pins_10 : decode (z_c m_M_pins) 10 = .ok (.iconst (-1), 1) := by decide +kernel
theorem d_M_pins_11 : decode (z_c m_M_pins) 11 = .ok (.if_icmp .ne 16, 3) := by decide +kernel
theorem d_M_pins_14 : decode (z_c m_M_pins) 14 = .ok (.aload_n 0, 1) := by decide +kernel
theorem d_M_pins_15 : decode (z_c m_M_pins) 15 = .ok (.getfield 7, 3) := by decide +kernel
theorem d_M_pins_18 : decode (z_c m_M_pins) 18 = .ok (.iconst 4, 1) := by decide +kernel
theorem d_M_pins_19 : decode (z_c m_M_pins) 19 = .ok (.iaload, 1) := by decide +kernel
theorem d_M_pins_20 : decode (z_c m_M_pins) 20 = .ok (.bipush 12, 2) := by decide +kernel
theorem d_M_pins_22 : decode (z_c m_M_pins) 22 = .ok (.if_icmp .ne 5, 3) := by decide +kernel
theorem d_M_pins_25 : decode (z_c m_M_pins) 25 = .ok (.iconst 4, 1) := by decide +kernel
theorem d_M_pins_26 : decode (z_c m_M_pins) 26 = .ok (.ireturn, 1) := by decide +kernel
theorem d_M_pins_27 : decode (z_c m_M_pins) 27 = .ok (.iload 4, 2) := by decide +kernel
theorem d_M_pins_29 : decode (z_c m_M_pins) 29 = .ok (.iconst (-1), 1) := by decide +kernel
theorem d_M_pins_30 : decode (z_c m_M_pins) 30 = .ok (.if_icmp .eq 20, 3) := by decide +kernel
theorem d_M_pins_33 : decode (z_c m_M_pins) 33 = .ok (.aload_n 0, 1) := by decide +kernel
theorem d_M_pins_34 : decode (z_c m_M_pins) 34 = .ok (.iload 4, 2) := by decide +kernel
theorem d_M_pins_36 : decode (z_c m_M_pins) 36 = .ok (.invokevirtual 352, 3) := by decide +kernel
theorem d_M_pins_39 : decode (z_c m_M_pins) 39 = .ok (.iload_n 3, 1) := by decide +kernel
theorem d_M_pins_40 : decode (z_c m_M_pins) 40 = .ok (.iadd, 1) := by decide +kernel
theorem d_M_pins_41 : decode (z_c m_M_pins) 41 = .ok (.sipush 999, 3) := by decide +kernel
theorem d_M_pins_44 : decode (z_c m_M_pins) 44 = .ok (.if_icmp .le 6, 3) := by decide +kernel
theorem d_M_pins_47 : decode (z_c m_M_pins) 47 = .ok (.bipush 7, 2) := by decide +kernel
theorem d_M_pins_49 : decode (z_c m_M_pins) 49 = .ok (.ireturn, 1) := by decide +kernel
theorem d_M_pins_50 : decode (z_c m_M_pins) 50 = .ok (.iload_n 1, 1) := by decide +kernel
theorem d_M_pins_51 : decode (z_c m_M_pins) 51 = .ok (.iload_n 2, 1) := by decide +kernel
theorem d_M_pins_52 : decode (z_c m_M_pins) 52 = .ok (.invokestatic 182, 3) := by decide +kernel
theorem d_M_pins_55 : decode (z_c m_M_pins) 55 = .ok (.istore 5, 2) := by decide +kernel
theorem d_M_pins_57 : decode (z_c m_M_pins) 57 = .ok (.iload 4, 2) := by decide +kernel
theorem d_M_pins_59 : decode (z_c m_M_pins) 59 = .ok (.iconst (-1), 1) := by decide +kernel
theorem d_M_pins_60 : decode (z_c m_M_pins) 60 = .ok (.if_icmp .ne 64, 3) := by decide +kernel
theorem d_M_pins_63 : decode (z_c m_M_pins) 63 = .ok (.aload_n 0, 1) := by decide +kernel
theorem d_M_pins_64 : decode (z_c m_M_pins) 64 = .ok (.getfield 7, 3) := by decide +kernel
theorem d_M_pins_67 : decode (z_c m_M_pins) 67 = .ok (.iconst 4, 1) := by decide +kernel
theorem d_M_pins_68 : decode (z_c m_M_pins) 68 = .ok (.iaload, 1) := by decide +kernel
theorem d_M_pins_69 : decode (z_c m_M_pins) 69 = .ok (.istore 4, 2) := by decide +kernel
theorem d_M_pins_71 : decode (z_c m_M_pins) 71 = .ok (.aload_n 0, 1) := by decide +kernel
theorem d_M_pins_72 : decode (z_c m_M_pins) 72 = .ok (.getfield 7, 3) := by decide +kernel
theorem d_M_pins_75 : decode (z_c m_M_pins) 75 = .ok (.iload 4, 2) := by decide +kernel
theorem d_M_pins_77 : decode (z_c m_M_pins) 77 = .ok (.invokestatic 346, 3) := by decide +kernel
theorem d_M_pins_80 : decode (z_c m_M_pins) 80 = .ok (.iload_n 1, 1) := by decide +kernel
theorem d_M_pins_81 : decode (z_c m_M_pins) 81 = .ok (.iload 5, 2) := by decide +kernel
theorem d_M_pins_83 : decode (z_c m_M_pins) 83 = .ok (.idiv, 1) := by decide +kernel
theorem d_M_pins_84 : decode (z_c m_M_pins) 84 = .ok (.iastore, 1) := by decide +kernel
theorem d_M_pins_85 : decode (z_c m_M_pins) 85 = .ok (.aload_n 0, 1) := by decide +kernel
theorem d_M_pins_86 : decode (z_c m_M_pins) 86 = .ok (.getfield 7, 3) := by decide +kernel
theorem d_M_pins_89 : decode (z_c m_M_pins) 89 = .ok (.iload 4, 2) := by decide +kernel
theorem d_M_pins_91 : decode (z_c m_M_pins) 91 = .ok (.invokestatic 346, 3) := by decide +kernel
theorem d_M_pins_94 : decode (z_c m_M_pins) 94 = .ok (.iconst 1, 1) := by decide +kernel
theorem d_M_pins_95 : decode (z_c m_M_pins) 95 = .ok (.iadd, 1) := by decide +kernel
theorem d_M_pins_96 : decode (z_c m_M_pins) 96 = .ok (.iload_n 2, 1) := by decide +kernel
theorem d_M_pins_97 : decode (z_c m_M_pins) 97 = .ok (.iload 5, 2) := by decide +kernel
theorem d_M_pins_99 : decode (z_c m_M_pins) 99 = .ok (.idiv, 1) := by decide +kernel
theorem d_M_pins_100 : decode (z_c m_M_pins) 100 = .ok (.iastore, 1) := by decide +kernel
theorem d_M_pins_101 : decode (z_c m_M_pins) 101 = .ok (.aload_n 0, 1) := by decide +kernel
theorem d_M_pins_102 : decode (z_c m_M_pins) 102 = .ok (.getfield 7, 3) := by decide +kernel
theorem d_M_pins_105 : decode (z_c m_M_pins) 105 = .ok (.iload 4, 2) := by decide +kernel
theorem d_M_pins_107 : decode (z_c m_M_pins) 107 = .ok (.invokestatic 346, 3) := by decide +kernel
theorem d_M_pins_110 : decode (z_c m_M_pins) 110 = .ok (.iconst 2, 1) := by decide +kernel
theorem d_M_pins_111 : decode (z_c m_M_pins) 111 = .ok (.iadd, 1) := by decide +kernel
theorem d_M_pins_112 : decode (z_c m_M_pins) 112 = .ok (.iconst 0, 1) := by decide +kernel
theorem d_M_pins_113 : decode (z_c m_M_pins) 113 = .ok (.iastore, 1) := by decide +kernel
theorem d_M_pins_114 : decode (z_c m_M_pins) 114 = .ok (.aload_n 0, 1) := by decide +kernel
theorem d_M_pins_115 : decode (z_c m_M_pins) 115 = .ok (.getfield 7, 3) := by decide +kernel
theorem d_M_pins_118 : decode (z_c m_M_pins) 118 = .ok (.iconst 4, 1) := by decide +kernel
theorem d_M_pins_119 : decode (z_c m_M_pins) 119 = .ok (.dup2, 1) := by decide +kernel
theorem d_M_pins_120 : decode (z_c m_M_pins) 120 = .ok (.iaload, 1) := by decide +kernel
theorem d_M_pins_121 : decode (z_c m_M_pins) 121 = .ok (.iconst 1, 1) := by decide +kernel
theorem d_M_pins_122 : decode (z_c m_M_pins) 122 = .ok (.iadd, 1) := by decide +kernel
theorem d_M_pins_123 : decode (z_c m_M_pins) 123 = .ok (.iastore, 1) := by decide +kernel
theorem d_M_pins_124 : decode (z_c m_M_pins) 124 = .ok (.aload_n 0, 1) := by decide +kernel
theorem d_M_pins_125 : decode (z_c m_M_pins) 125 = .ok (.getfield 7, 3) := by decide +kernel
theorem d_M_pins_128 : decode (z_c m_M_pins) 128 = .ok (.iload 4, 2) := by decide +kernel
theorem d_M_pins_130 : decode (z_c m_M_pins) 130 = .ok (.invokestatic 346, 3) := by decide +kernel
theorem d_M_pins_133 : decode (z_c m_M_pins) 133 = .ok (.iconst 2, 1) := by decide +kernel
theorem d_M_pins_134 : decode (z_c m_M_pins) 134 = .ok (.iadd, 1) := by decide +kernel
theorem d_M_pins_135 : decode (z_c m_M_pins) 135 = .ok (.dup2, 1) := by decide +kernel
theorem d_M_pins_136 : decode (z_c m_M_pins) 136 = .ok (.iaload, 1) := by decide +kernel
theorem d_M_pins_137 : decode (z_c m_M_pins) 137 = .ok (.iload_n 3, 1) := by decide +kernel
theorem d_M_pins_138 : decode (z_c m_M_pins) 138 = .ok (.iadd, 1) := by decide +kernel
theorem d_M_pins_139 : decode (z_c m_M_pins) 139 = .ok (.iastore, 1) := by decide +kernel
theorem d_M_pins_140 : decode (z_c m_M_pins) 140 = .ok (.aload_n 0, 1) := by decide +kernel
theorem d_M_pins_141 : decode (z_c m_M_pins) 141 = .ok (.aload_n 0, 1) := by decide +kernel
theorem d_M_pins_142 : decode (z_c m_M_pins) 142 = .ok (.iload 4, 2) := by decide +kernel
theorem d_M_pins_144 : decode (z_c m_M_pins) 144 = .ok (.invokevirtual 352, 3) := by decide +kernel
theorem d_M_pins_147 : decode (z_c m_M_pins) 147 = .ok (.putfield 300, 3) := by decide +kernel
theorem d_M_pins_150 : decode (z_c m_M_pins) 150 = .ok (.iconst 0, 1) := by decide +kernel
theorem d_M_pins_151 : decode (z_c m_M_pins) 151 = .ok (.ireturn, 1) := by decide +kernel
set_option maxRecDepth 8000 in
theorem b_M_pins_0 {X : z_X} {N : Nat} {σ g : z_G} {Q : z_P} {a1 a2 a3 : Int} (hx : z_lay X N σ 0 z_SM z_RM) (h : z_O X 2 m_M_pinOf [(2, 0), (0, a1), (0, a2)] N σ g (fun r0 g0 => (((r0 = (-1)) → ((((g0 1 4) = 12) → Q 4 g0) ∧ (¬ ((g0 1 4) = 12) → (z_O X 1 m_M_common [(0, a1), (0, a2)] N σ g0 (fun r2 g2 => ((-2147483648 ≤ (3 * (g2 1 4)) ∧ (3 * (g2 1 4)) ≤ 2147483647) ∧ ((-2147483648 ≤ (10 + (3 * (g2 1 4))) ∧ (10 + (3 * (g2 1 4))) ≤ 2147483647) ∧ ((0 < r2) ∧ ((0 ≤ (10 + (3 * (g2 1 4))) ∧ (10 + (3 * (g2 1 4))) < 3296) ∧ ((-2147483648 ≤ ((10 + (3 * (g2 1 4))) + 1) ∧ ((10 + (3 * (g2 1 4))) + 1) ≤ 2147483647) ∧ ((0 ≤ ((10 + (3 * (g2 1 4))) + 1) ∧ ((10 + (3 * (g2 1 4))) + 1) < 3296) ∧ ((-2147483648 ≤ ((10 + (3 * (g2 1 4))) + 2) ∧ ((10 + (3 * (g2 1 4))) + 2) ≤ 2147483647) ∧ ((0 ≤ ((10 + (3 * (g2 1 4))) + 2) ∧ ((10 + (3 * (g2 1 4))) + 2) < 3296) ∧ ((-2147483648 ≤ (((z_up (z_up (z_up g2 1 (10 + (3 * (g2 1 4))) (Int.tdiv a1 r2)) 1 ((10 + (3 * (g2 1 4))) + 1) (Int.tdiv a2 r2)) 1 ((10 + (3 * (g2 1 4))) + 2) 0) 1 4) + 1) ∧ (((z_up (z_up (z_up g2 1 (10 + (3 * (g2 1 4))) (Int.tdiv a1 r2)) 1 ((10 + (3 * (g2 1 4))) + 1) (Int.tdiv a2 r2)) 1 ((10 + (3 * (g2 1 4))) + 2) 0) 1 4) + 1) ≤ 2147483647) ∧ ((-2147483648 ≤ (((z_up (z_up (z_up (z_up g2 1 (10 + (3 * (g2 1 4))) (Int.tdiv a1 r2)) 1 ((10 + (3 * (g2 1 4))) + 1) (Int.tdiv a2 r2)) 1 ((10 + (3 * (g2 1 4))) + 2) 0) 1 4 (((z_up (z_up (z_up g2 1 (10 + (3 * (g2 1 4))) (Int.tdiv a1 r2)) 1 ((10 + (3 * (g2 1 4))) + 1) (Int.tdiv a2 r2)) 1 ((10 + (3 * (g2 1 4))) + 2) 0) 1 4) + 1)) 1 ((10 + (3 * (g2 1 4))) + 2)) + a3) ∧ (((z_up (z_up (z_up (z_up g2 1 (10 + (3 * (g2 1 4))) (Int.tdiv a1 r2)) 1 ((10 + (3 * (g2 1 4))) + 1) (Int.tdiv a2 r2)) 1 ((10 + (3 * (g2 1 4))) + 2) 0) 1 4 (((z_up (z_up (z_up g2 1 (10 + (3 * (g2 1 4))) (Int.tdiv a1 r2)) 1 ((10 + (3 * (g2 1 4))) + 1) (Int.tdiv a2 r2)) 1 ((10 + (3 * (g2 1 4))) + 2) 0) 1 4) + 1)) 1 ((10 + (3 * (g2 1 4))) + 2)) + a3) ≤ 2147483647) ∧ Q 0 (z_up (z_up (z_up (z_up (z_up (z_up g2 1 (10 + (3 * (g2 1 4))) (Int.tdiv a1 r2)) 1 ((10 + (3 * (g2 1 4))) + 1) (Int.tdiv a2 r2)) 1 ((10 + (3 * (g2 1 4))) + 2) 0) 1 4 (((z_up (z_up (z_up g2 1 (10 + (3 * (g2 1 4))) (Int.tdiv a1 r2)) 1 ((10 + (3 * (g2 1 4))) + 1) (Int.tdiv a2 r2)) 1 ((10 + (3 * (g2 1 4))) + 2) 0) 1 4) + 1)) 1 ((10 + (3 * (g2 1 4))) + 2) (((z_up (z_up (z_up (z_up g2 1 (10 + (3 * (g2 1 4))) (Int.tdiv a1 r2)) 1 ((10 + (3 * (g2 1 4))) + 1) (Int.tdiv a2 r2)) 1 ((10 + (3 * (g2 1 4))) + 2) 0) 1 4 (((z_up (z_up (z_up g2 1 (10 + (3 * (g2 1 4))) (Int.tdiv a1 r2)) 1 ((10 + (3 * (g2 1 4))) + 1) (Int.tdiv a2 r2)) 1 ((10 + (3 * (g2 1 4))) + 2) 0) 1 4) + 1)) 1 ((10 + (3 * (g2 1 4))) + 2)) + a3)) 0 28 ((z_up (z_up (z_up (z_up (z_up g2 1 (10 + (3 * (g2 1 4))) (Int.tdiv a1 r2)) 1 ((10 + (3 * (g2 1 4))) + 1) (Int.tdiv a2 r2)) 1 ((10 + (3 * (g2 1 4))) + 2) 0) 1 4 (((z_up (z_up (z_up g2 1 (10 + (3 * (g2 1 4))) (Int.tdiv a1 r2)) 1 ((10 + (3 * (g2 1 4))) + 1) (Int.tdiv a2 r2)) 1 ((10 + (3 * (g2 1 4))) + 2) 0) 1 4) + 1)) 1 ((10 + (3 * (g2 1 4))) + 2) (((z_up (z_up (z_up (z_up g2 1 (10 + (3 * (g2 1 4))) (Int.tdiv a1 r2)) 1 ((10 + (3 * (g2 1 4))) + 1) (Int.tdiv a2 r2)) 1 ((10 + (3 * (g2 1 4))) + 2) 0) 1 4 (((z_up (z_up (z_up g2 1 (10 + (3 * (g2 1 4))) (Int.tdiv a1 r2)) 1 ((10 + (3 * (g2 1 4))) + 1) (Int.tdiv a2 r2)) 1 ((10 + (3 * (g2 1 4))) + 2) 0) 1 4) + 1)) 1 ((10 + (3 * (g2 1 4))) + 2)) + a3)) 1 ((10 + (3 * (g2 1 4))) + 2)))))))))))))))))) ∧ (¬ (r0 = (-1)) → ((-2147483648 ≤ (3 * r0) ∧ (3 * r0) ≤ 2147483647) ∧ ((-2147483648 ≤ (10 + (3 * r0)) ∧ (10 + (3 * r0)) ≤ 2147483647) ∧ ((-2147483648 ≤ ((10 + (3 * r0)) + 2) ∧ ((10 + (3 * r0)) + 2) ≤ 2147483647) ∧ ((0 ≤ ((10 + (3 * r0)) + 2) ∧ ((10 + (3 * r0)) + 2) < 3296) ∧ ((-2147483648 ≤ ((g0 1 ((10 + (3 * r0)) + 2)) + a3) ∧ ((g0 1 ((10 + (3 * r0)) + 2)) + a3) ≤ 2147483647) ∧ (((((g0 1 ((10 + (3 * r0)) + 2)) + a3) ≤ 999) → (z_O X 1 m_M_common [(0, a1), (0, a2)] N σ g0 (fun r1 g1 => ((-2147483648 ≤ ((g1 1 ((10 + (3 * r0)) + 2)) + a3) ∧ ((g1 1 ((10 + (3 * r0)) + 2)) + a3) ≤ 2147483647) ∧ Q 0 (z_up (z_up g1 1 ((10 + (3 * r0)) + 2) ((g1 1 ((10 + (3 * r0)) + 2)) + a3)) 0 28 ((z_up g1 1 ((10 + (3 * r0)) + 2) ((g1 1 ((10 + (3 * r0)) + 2)) + a3)) 1 ((10 + (3 * r0)) + 2))))))) ∧ (¬ (((g0 1 ((10 + (3 * r0)) + 2)) + a3) ≤ 999) → Q 7 g0))))))))))) : z_O X 3 m_M_pins [(2, 0), (0, a1), (0, a2), (0, a3)] N σ g Q := by
  refine z_Oenter mi_M_pins rfl (fun _ => ?_)
  show z_U X 3 m_M_pins 0 [(0, (2, 0)), (1, (0, a1)), (2, (0, a2)), (3, (0, a3))] [] N σ g Q
  refine z_aload_n (i := 0) (c := 0) 0 d_M_pins_0 rfl rfl rfl ?_
  refine z_iload_n (i := 1) 1 d_M_pins_1 rfl rfl ?_
  refine z_iload_n (i := 2) 2 d_M_pins_2 rfl rfl ?_
  refine z_cV (c := 0) (as := [(0, a1), (0, a2)]) (d' := 2) (st := []) d_M_pins_3 mi_M_pinOf ml_M_349 mv_M_pinOf se_M_pinOf rfl rfl rfl rfl (ks_M_0 hx) rfl rfl (kl_M_0 hx) rfl rfl (z_Omono h (fun r0 g0 _ h hro => ?_))
  show z_U X 3 m_M_pins 6 [(0, (2, 0)), (1, (0, a1)), (2, (0, a2)), (3, (0, a3))] [(0, r0)] N σ g0 Q
  refine z_istore (ls' := [(4, (0, r0)), (0, (2, 0)), (1, (0, a1)), (2, (0, a2)), (3, (0, a3))]) d_M_pins_6 rfl rfl ?_
  refine z_iload 0 d_M_pins_8 rfl ?_
  refine z_iconst (n := (-1)) d_M_pins_10 (by decide) ?_
  refine z_icmp_ne (tgt := 27) d_M_pins_11 (by decide) (fun c1 => ?_) (fun c1 => ?_)
  · have h := h.2 c1
    refine z_iload 0 d_M_pins_27 rfl ?_
    refine z_iconst (n := (-1)) d_M_pins_29 (by decide) ?_
    refine z_icmp_eq (tgt := 50) d_M_pins_30 (by decide) (fun c => absurd c c1) (fun _ => ?_)
    refine z_aload_n (i := 0) (c := 0) 1 d_M_pins_33 rfl rfl rfl ?_
    refine z_iload 0 d_M_pins_34 rfl ?_
    refine z_cV (c := 0) (as := [(0, r0)]) (d' := 2) (st := []) d_M_pins_36 mi_M_weightOf ml_M_352 mv_M_weightOf se_M_weightOf rfl rfl rfl rfl (ks_M_0 hx) rfl rfl (kl_M_0 hx) rfl rfl (b_M_weightOf_0 hx ?_)
    obtain ⟨c2, h⟩ := h
    refine ⟨c2, ?_⟩
    obtain ⟨c3, h⟩ := h
    refine ⟨c3, ?_⟩
    obtain ⟨c4, h⟩ := h
    refine ⟨c4, ?_⟩
    obtain ⟨c5, h⟩ := h
    refine ⟨c5, ?_⟩
    intro _
    show z_U X 3 m_M_pins 39 [(4, (0, r0)), (0, (2, 0)), (1, (0, a1)), (2, (0, a2)), (3, (0, a3))] [(0, g0 1 ((10 + (3 * r0)) + 2))] N σ g0 Q
    refine z_iload_n (i := 3) 4 d_M_pins_39 rfl rfl ?_
    obtain ⟨c6, h⟩ := h
    refine z_iadd d_M_pins_40 c6 ?_
    refine z_sipush (n := 999) d_M_pins_41 (by decide) (by decide) ?_
    refine z_icmp_le (tgt := 50) d_M_pins_44 (by decide) (fun c7 => ?_) (fun c7 => ?_)
    · have h := h.1 c7
      refine z_iload_n (i := 1) 2 d_M_pins_50 rfl rfl ?_
      refine z_iload_n (i := 2) 3 d_M_pins_51 rfl rfl ?_
      refine z_cS (as := [(0, a1), (0, a2)]) (d' := 1) (st := []) d_M_pins_52 mi_M_common ml_M_182 ms_M_common rfl rfl rfl rfl rfl (z_Omono h (fun r1 g1 _ h hro => ?_))
      show z_U X 3 m_M_pins 55 [(4, (0, r0)), (0, (2, 0)), (1, (0, a1)), (2, (0, a2)), (3, (0, a3))] [(0, r1)] N σ g1 Q
      refine z_istore (ls' := [(5, (0, r1)), (4, (0, r0)), (0, (2, 0)), (1, (0, a1)), (2, (0, a2)), (3, (0, a3))]) d_M_pins_55 rfl rfl ?_
      refine z_iload 1 d_M_pins_57 rfl ?_
      refine z_iconst (n := (-1)) d_M_pins_59 (by decide) ?_
      refine z_icmp_ne (tgt := 124) d_M_pins_60 (by decide) (fun _ => ?_) (fun c => absurd c c1)
      refine z_aload_n (i := 0) (c := 0) 2 d_M_pins_124 rfl rfl rfl ?_
      refine z_getr (c := 0) (kI := 0) (r2 := 1) d_M_pins_125 fd_M_at fl_M_7 rfl rfl rfl (ks_M_0 hx) (kl_M_0 hx) (kr_M_0_0 hx) ?_
      refine z_iload 1 d_M_pins_128 rfl ?_
      refine z_cS (as := [(0, r0)]) (d' := 1) (st := [(2, 1)]) d_M_pins_130 mi_M_rowOf ml_M_346 ms_M_rowOf rfl rfl rfl rfl rfl (b_M_rowOf_0  ?_)
      refine ⟨c2, ?_⟩
      refine ⟨c3, ?_⟩
      intro _
      show z_U X 3 m_M_pins 133 [(5, (0, r1)), (4, (0, r0)), (0, (2, 0)), (1, (0, a1)), (2, (0, a2)), (3, (0, a3))] [(0, 10 + (3 * r0)), (2, 1)] N σ g1 Q
      refine z_iconst (n := 2) d_M_pins_133 (by decide) ?_
      refine z_iadd d_M_pins_134 c4 ?_
      refine z_dup2 d_M_pins_135 rfl rfl ?_
      refine z_iald (c := 1) (m := 3296) d_M_pins_136 rfl (ks_M_1 hx) (kl_M_1 hx) rfl (by decide) c5 ?_
      refine z_iload_n (i := 3) 5 d_M_pins_137 rfl rfl ?_
      obtain ⟨c8, h⟩ := h
      refine z_iadd d_M_pins_138 c8 ?_
      refine z_iast (c := 1) (m := 3296) d_M_pins_139 rfl (ks_M_1 hx) (kl_M_1 hx) rfl (by decide) c5 ?_
      refine z_aload_n (i := 0) (c := 0) 2 d_M_pins_140 rfl rfl rfl ?_
      refine z_aload_n (i := 0) (c := 0) 2 d_M_pins_141 rfl rfl rfl ?_
      refine z_iload 1 d_M_pins_142 rfl ?_
      refine z_cV (c := 0) (as := [(0, r0)]) (d' := 2) (st := [(2, 0)]) d_M_pins_144 mi_M_weightOf ml_M_352 mv_M_weightOf se_M_weightOf rfl rfl rfl rfl (ks_M_0 hx) rfl rfl (kl_M_0 hx) rfl rfl (b_M_weightOf_0 hx ?_)
      refine ⟨c2, ?_⟩
      refine ⟨c3, ?_⟩
      refine ⟨c4, ?_⟩
      refine ⟨c5, ?_⟩
      intro _
      show z_U X 3 m_M_pins 147 [(5, (0, r1)), (4, (0, r0)), (0, (2, 0)), (1, (0, a1)), (2, (0, a2)), (3, (0, a3))] [(0, (z_up g1 1 ((10 + (3 * r0)) + 2) ((g1 1 ((10 + (3 * r0)) + 2)) + a3)) 1 ((10 + (3 * r0)) + 2)), (2, 0)] N σ (z_up g1 1 ((10 + (3 * r0)) + 2) ((g1 1 ((10 + (3 * r0)) + 2)) + a3)) Q
      refine z_puti (c := 0) (kI := 28) d_M_pins_147 fd_M_foundTop fl_M_300 pf_M_foundTop rfl rfl rfl rfl (ks_M_0 hx) (kl_M_0 hx) ?_
      refine z_iconst (n := 0) d_M_pins_150 (by decide) ?_
      exact z_iret d_M_pins_151 rfl (by decide) (by decide) ⟨rfl, rfl, h⟩
    · have h := h.2 c7
      refine z_bipush (n := 7) d_M_pins_47 (by decide) (by decide) ?_
      exact z_iret d_M_pins_49 rfl (by decide) (by decide) ⟨rfl, rfl, h⟩
  · have h := h.1 c1
    refine z_aload_n (i := 0) (c := 0) 1 d_M_pins_14 rfl rfl rfl ?_
    refine z_getr (c := 0) (kI := 0) (r2 := 1) d_M_pins_15 fd_M_at fl_M_7 rfl rfl rfl (ks_M_0 hx) (kl_M_0 hx) (kr_M_0_0 hx) ?_
    refine z_iconst (n := 4) d_M_pins_18 (by decide) ?_
    refine z_iald (c := 1) (m := 3296) d_M_pins_19 rfl (ks_M_1 hx) (kl_M_1 hx) rfl (by decide) (by decide) ?_
    refine z_bipush (n := 12) d_M_pins_20 (by decide) (by decide) ?_
    refine z_icmp_ne (tgt := 27) d_M_pins_22 (by decide) (fun c9 => ?_) (fun c9 => ?_)
    · have h := h.2 c9
      refine z_iload 0 d_M_pins_27 rfl ?_
      refine z_iconst (n := (-1)) d_M_pins_29 (by decide) ?_
      refine z_icmp_eq (tgt := 50) d_M_pins_30 (by decide) (fun _ => ?_) (fun c => absurd c1 c)
      refine z_iload_n (i := 1) 2 d_M_pins_50 rfl rfl ?_
      refine z_iload_n (i := 2) 3 d_M_pins_51 rfl rfl ?_
      refine z_cS (as := [(0, a1), (0, a2)]) (d' := 1) (st := []) d_M_pins_52 mi_M_common ml_M_182 ms_M_common rfl rfl rfl rfl rfl (z_Omono h (fun r2 g2 _ h hro => ?_))
      show z_U X 3 m_M_pins 55 [(4, (0, r0)), (0, (2, 0)), (1, (0, a1)), (2, (0, a2)), (3, (0, a3))] [(0, r2)] N σ g2 Q
      refine z_istore (ls' := [(5, (0, r2)), (4, (0, r0)), (0, (2, 0)), (1, (0, a1)), (2, (0, a2)), (3, (0, a3))]) d_M_pins_55 rfl rfl ?_
      refine z_iload 1 d_M_pins_57 rfl ?_
      refine z_iconst (n := (-1)) d_M_pins_59 (by decide) ?_
      refine z_icmp_ne (tgt := 124) d_M_pins_60 (by decide) (fun c => absurd c1 c) (fun _ => ?_)
      refine z_aload_n (i := 0) (c := 0) 2 d_M_pins_63 rfl rfl rfl ?_
      refine z_getr (c := 0) (kI := 0) (r2 := 1) d_M_pins_64 fd_M_at fl_M_7 rfl rfl rfl (ks_M_0 hx) (kl_M_0 hx) (kr_M_0_0 hx) ?_
      refine z_iconst (n := 4) d_M_pins_67 (by decide) ?_
      refine z_iald (c := 1) (m := 3296) d_M_pins_68 rfl (ks_M_1 hx) (kl_M_1 hx) rfl (by decide) (by decide) ?_
      refine z_istore (ls' := [(4, (0, g2 1 4)), (5, (0, r2)), (0, (2, 0)), (1, (0, a1)), (2, (0, a2)), (3, (0, a3))]) d_M_pins_69 rfl rfl ?_
      refine z_aload_n (i := 0) (c := 0) 2 d_M_pins_71 rfl rfl rfl ?_
      refine z_getr (c := 0) (kI := 0) (r2 := 1) d_M_pins_72 fd_M_at fl_M_7 rfl rfl rfl (ks_M_0 hx) (kl_M_0 hx) (kr_M_0_0 hx) ?_
      refine z_iload 0 d_M_pins_75 rfl ?_
      refine z_cS (as := [(0, g2 1 4)]) (d' := 1) (st := [(2, 1)]) d_M_pins_77 mi_M_rowOf ml_M_346 ms_M_rowOf rfl rfl rfl rfl rfl (b_M_rowOf_0  ?_)
      obtain ⟨c10, h⟩ := h
      refine ⟨c10, ?_⟩
      obtain ⟨c11, h⟩ := h
      refine ⟨c11, ?_⟩
      intro _
      show z_U X 3 m_M_pins 80 [(4, (0, g2 1 4)), (5, (0, r2)), (0, (2, 0)), (1, (0, a1)), (2, (0, a2)), (3, (0, a3))] [(0, 10 + (3 * (g2 1 4))), (2, 1)] N σ g2 Q
      refine z_iload_n (i := 1) 3 d_M_pins_80 rfl rfl ?_
      refine z_iload 1 d_M_pins_81 rfl ?_
      obtain ⟨c12, h⟩ := h
      refine z_idiv d_M_pins_83 c12 ?_
      obtain ⟨c13, h⟩ := h
      refine z_iast (c := 1) (m := 3296) d_M_pins_84 rfl (ks_M_1 hx) (kl_M_1 hx) rfl (by decide) c13 ?_
      refine z_aload_n (i := 0) (c := 0) 2 d_M_pins_85 rfl rfl rfl ?_
      refine z_getr (c := 0) (kI := 0) (r2 := 1) d_M_pins_86 fd_M_at fl_M_7 rfl rfl rfl (ks_M_0 hx) (kl_M_0 hx) (kr_M_0_0 hx) ?_
      refine z_iload 0 d_M_pins_89 rfl ?_
      refine z_cS (as := [(0, g2 1 4)]) (d' := 1) (st := [(2, 1)]) d_M_pins_91 mi_M_rowOf ml_M_346 ms_M_rowOf rfl rfl rfl rfl rfl (b_M_rowOf_0  ?_)
      refine ⟨c10, ?_⟩
      refine ⟨c11, ?_⟩
      intro _
      show z_U X 3 m_M_pins 94 [(4, (0, g2 1 4)), (5, (0, r2)), (0, (2, 0)), (1, (0, a1)), (2, (0, a2)), (3, (0, a3))] [(0, 10 + (3 * (g2 1 4))), (2, 1)] N σ (z_up g2 1 (10 + (3 * (g2 1 4))) (Int.tdiv a1 r2)) Q
      refine z_iconst (n := 1) d_M_pins_94 (by decide) ?_
      obtain ⟨c14, h⟩ := h
      refine z_iadd d_M_pins_95 c14 ?_
      refine z_iload_n (i := 2) 4 d_M_pins_96 rfl rfl ?_
      refine z_iload 1 d_M_pins_97 rfl ?_
      refine z_idiv d_M_pins_99 c12 ?_
      obtain ⟨c15, h⟩ := h
      refine z_iast (c := 1) (m := 3296) d_M_pins_100 rfl (ks_M_1 hx) (kl_M_1 hx) rfl (by decide) c15 ?_
      refine z_aload_n (i := 0) (c := 0) 2 d_M_pins_101 rfl rfl rfl ?_
      refine z_getr (c := 0) (kI := 0) (r2 := 1) d_M_pins_102 fd_M_at fl_M_7 rfl rfl rfl (ks_M_0 hx) (kl_M_0 hx) (kr_M_0_0 hx) ?_
      refine z_iload 0 d_M_pins_105 rfl ?_
      refine z_cS (as := [(0, g2 1 4)]) (d' := 1) (st := [(2, 1)]) d_M_pins_107 mi_M_rowOf ml_M_346 ms_M_rowOf rfl rfl rfl rfl rfl (b_M_rowOf_0  ?_)
      refine ⟨c10, ?_⟩
      refine ⟨c11, ?_⟩
      intro _
      show z_U X 3 m_M_pins 110 [(4, (0, g2 1 4)), (5, (0, r2)), (0, (2, 0)), (1, (0, a1)), (2, (0, a2)), (3, (0, a3))] [(0, 10 + (3 * (g2 1 4))), (2, 1)] N σ (z_up (z_up g2 1 (10 + (3 * (g2 1 4))) (Int.tdiv a1 r2)) 1 ((10 + (3 * (g2 1 4))) + 1) (Int.tdiv a2 r2)) Q
      refine z_iconst (n := 2) d_M_pins_110 (by decide) ?_
      obtain ⟨c16, h⟩ := h
      refine z_iadd d_M_pins_111 c16 ?_
      refine z_iconst (n := 0) d_M_pins_112 (by decide) ?_
      obtain ⟨c17, h⟩ := h
      refine z_iast (c := 1) (m := 3296) d_M_pins_113 rfl (ks_M_1 hx) (kl_M_1 hx) rfl (by decide) c17 ?_
      refine z_aload_n (i := 0) (c := 0) 2 d_M_pins_114 rfl rfl rfl ?_
      refine z_getr (c := 0) (kI := 0) (r2 := 1) d_M_pins_115 fd_M_at fl_M_7 rfl rfl rfl (ks_M_0 hx) (kl_M_0 hx) (kr_M_0_0 hx) ?_
      refine z_iconst (n := 4) d_M_pins_118 (by decide) ?_
      refine z_dup2 d_M_pins_119 rfl rfl ?_
      refine z_iald (c := 1) (m := 3296) d_M_pins_120 rfl (ks_M_1 hx) (kl_M_1 hx) rfl (by decide) (by decide) ?_
      refine z_iconst (n := 1) d_M_pins_121 (by decide) ?_
      obtain ⟨c18, h⟩ := h
      refine z_iadd d_M_pins_122 c18 ?_
      refine z_iast (c := 1) (m := 3296) d_M_pins_123 rfl (ks_M_1 hx) (kl_M_1 hx) rfl (by decide) (by decide) ?_
      refine z_aload_n (i := 0) (c := 0) 2 d_M_pins_124 rfl rfl rfl ?_
      refine z_getr (c := 0) (kI := 0) (r2 := 1) d_M_pins_125 fd_M_at fl_M_7 rfl rfl rfl (ks_M_0 hx) (kl_M_0 hx) (kr_M_0_0 hx) ?_
      refine z_iload 0 d_M_pins_128 rfl ?_
      refine z_cS (as := [(0, g2 1 4)]) (d' := 1) (st := [(2, 1)]) d_M_pins_130 mi_M_rowOf ml_M_346 ms_M_rowOf rfl rfl rfl rfl rfl (b_M_rowOf_0  ?_)
      refine ⟨c10, ?_⟩
      refine ⟨c11, ?_⟩
      intro _
      show z_U X 3 m_M_pins 133 [(4, (0, g2 1 4)), (5, (0, r2)), (0, (2, 0)), (1, (0, a1)), (2, (0, a2)), (3, (0, a3))] [(0, 10 + (3 * (g2 1 4))), (2, 1)] N σ (z_up (z_up (z_up (z_up g2 1 (10 + (3 * (g2 1 4))) (Int.tdiv a1 r2)) 1 ((10 + (3 * (g2 1 4))) + 1) (Int.tdiv a2 r2)) 1 ((10 + (3 * (g2 1 4))) + 2) 0) 1 4 (((z_up (z_up (z_up g2 1 (10 + (3 * (g2 1 4))) (Int.tdiv a1 r2)) 1 ((10 + (3 * (g2 1 4))) + 1) (Int.tdiv a2 r2)) 1 ((10 + (3 * (g2 1 4))) + 2) 0) 1 4) + 1)) Q
      refine z_iconst (n := 2) d_M_pins_133 (by decide) ?_
      refine z_iadd d_M_pins_134 c16 ?_
      refine z_dup2 d_M_pins_135 rfl rfl ?_
      refine z_iald (c := 1) (m := 3296) d_M_pins_136 rfl (ks_M_1 hx) (kl_M_1 hx) rfl (by decide) c17 ?_
      refine z_iload_n (i := 3) 5 d_M_pins_137 rfl rfl ?_
      obtain ⟨c19, h⟩ := h
      refine z_iadd d_M_pins_138 c19 ?_
      refine z_iast (c := 1) (m := 3296) d_M_pins_139 rfl (ks_M_1 hx) (kl_M_1 hx) rfl (by decide) c17 ?_
      refine z_aload_n (i := 0) (c := 0) 2 d_M_pins_140 rfl rfl rfl ?_
      refine z_aload_n (i := 0) (c := 0) 2 d_M_pins_141 rfl rfl rfl ?_
      refine z_iload 0 d_M_pins_142 rfl ?_
      refine z_cV (c := 0) (as := [(0, g2 1 4)]) (d' := 2) (st := [(2, 0)]) d_M_pins_144 mi_M_weightOf ml_M_352 mv_M_weightOf se_M_weightOf rfl rfl rfl rfl (ks_M_0 hx) rfl rfl (kl_M_0 hx) rfl rfl (b_M_weightOf_0 hx ?_)
      refine ⟨c10, ?_⟩
      refine ⟨c11, ?_⟩
      refine ⟨c16, ?_⟩
      refine ⟨c17, ?_⟩
      intro _
      show z_U X 3 m_M_pins 147 [(4, (0, g2 1 4)), (5, (0, r2)), (0, (2, 0)), (1, (0, a1)), (2, (0, a2)), (3, (0, a3))] [(0, (z_up (z_up (z_up (z_up (z_up g2 1 (10 + (3 * (g2 1 4))) (Int.tdiv a1 r2)) 1 ((10 + (3 * (g2 1 4))) + 1) (Int.tdiv a2 r2)) 1 ((10 + (3 * (g2 1 4))) + 2) 0) 1 4 (((z_up (z_up (z_up g2 1 (10 + (3 * (g2 1 4))) (Int.tdiv a1 r2)) 1 ((10 + (3 * (g2 1 4))) + 1) (Int.tdiv a2 r2)) 1 ((10 + (3 * (g2 1 4))) + 2) 0) 1 4) + 1)) 1 ((10 + (3 * (g2 1 4))) + 2) (((z_up (z_up (z_up (z_up g2 1 (10 + (3 * (g2 1 4))) (Int.tdiv a1 r2)) 1 ((10 + (3 * (g2 1 4))) + 1) (Int.tdiv a2 r2)) 1 ((10 + (3 * (g2 1 4))) + 2) 0) 1 4 (((z_up (z_up (z_up g2 1 (10 + (3 * (g2 1 4))) (Int.tdiv a1 r2)) 1 ((10 + (3 * (g2 1 4))) + 1) (Int.tdiv a2 r2)) 1 ((10 + (3 * (g2 1 4))) + 2) 0) 1 4) + 1)) 1 ((10 + (3 * (g2 1 4))) + 2)) + a3)) 1 ((10 + (3 * (g2 1 4))) + 2)), (2, 0)] N σ (z_up (z_up (z_up (z_up (z_up g2 1 (10 + (3 * (g2 1 4))) (Int.tdiv a1 r2)) 1 ((10 + (3 * (g2 1 4))) + 1) (Int.tdiv a2 r2)) 1 ((10 + (3 * (g2 1 4))) + 2) 0) 1 4 (((z_up (z_up (z_up g2 1 (10 + (3 * (g2 1 4))) (Int.tdiv a1 r2)) 1 ((10 + (3 * (g2 1 4))) + 1) (Int.tdiv a2 r2)) 1 ((10 + (3 * (g2 1 4))) + 2) 0) 1 4) + 1)) 1 ((10 + (3 * (g2 1 4))) + 2) (((z_up (z_up (z_up (z_up g2 1 (10 + (3 * (g2 1 4))) (Int.tdiv a1 r2)) 1 ((10 + (3 * (g2 1 4))) + 1) (Int.tdiv a2 r2)) 1 ((10 + (3 * (g2 1 4))) + 2) 0) 1 4 (((z_up (z_up (z_up g2 1 (10 + (3 * (g2 1 4))) (Int.tdiv a1 r2)) 1 ((10 + (3 * (g2 1 4))) + 1) (Int.tdiv a2 r2)) 1 ((10 + (3 * (g2 1 4))) + 2) 0) 1 4) + 1)) 1 ((10 + (3 * (g2 1 4))) + 2)) + a3)) Q
      refine z_puti (c := 0) (kI := 28) d_M_pins_147 fd_M_foundTop fl_M_300 pf_M_foundTop rfl rfl rfl rfl (ks_M_0 hx) (kl_M_0 hx) ?_
      refine z_iconst (n := 0) d_M_pins_150 (by decide) ?_
      exact z_iret d_M_pins_151 rfl (by decide) (by decide) ⟨rfl, rfl, h⟩
    · have h := h.1 c9
      refine z_iconst (n := 4) d_M_pins_25 (by decide) ?_
      exact z_iret d_M_pins_26 rfl (by decide) (by decide) ⟨rfl, rfl, h⟩
theorem d_M_pinsOfRow_0 : decode (z_c m_M_pinsOfRow) 0 = .ok (.iconst 0, 1) := by decide +kernel
theorem d_M_pinsOfRow_1 : decode (z_c m_M_pinsOfRow) 1 = .ok (.istore_n 1, 1) := by decide +kernel
theorem d_M_pinsOfRow_2 : decode (z_c m_M_pinsOfRow) 2 = .ok (.iconst 0, 1) := by decide +kernel
theorem d_M_pinsOfRow_3 : decode (z_c m_M_pinsOfRow) 3 = .ok (.istore_n 2, 1) := by decide +kernel
theorem d_M_pinsOfRow_4 : decode (z_c m_M_pinsOfRow) 4 = .ok (.iload_n 2, 1) := by decide +kernel
theorem d_M_pinsOfRow_5 : decode (z_c m_M_pinsOfRow) 5 = .ok (.aload_n 0, 1) := by decide +kernel
theorem d_M_pinsOfRow_6 : decode (z_c m_M_pinsOfRow) 6 = .ok (.getfield 7, 3) := by decide +kernel
theorem d_M_pinsOfRow_9 : decode (z_c m_M_pinsOfRow) 9 = .ok (.iconst 4, 1) := by decide +kernel
theorem d_M_pinsOfRow_10 : decode (z_c m_M_pinsOfRow) 10 = .ok (.iaload, 1) := by decide +kernel
theorem d_M_pinsOfRow_11 : decode (z_c m_M_pinsOfRow) 11 = .ok (.if_icmp .ge 31, 3) := by decide +kernel
theorem d_M_pinsOfRow_14 : decode (z_c m_M_pinsOfRow) 14 = .ok (.iload_n 1, 1) := by decide +kernel
theorem d_M_pinsOfRow_15 : decode (z_c m_M_pinsOfRow) 15 = .ok (.aload_n 0, 1) := by decide +kernel
theorem d_M_pinsOfRow_16 : decode (z_c m_M_pinsOfRow) 16 = .ok (.iload_n 2, 1) := by decide +kernel
theorem d_M_pinsOfRow_17 : decode (z_c m_M_pinsOfRow) 17 = .ok (.invokevirtual 369, 3) := by decide +kernel
theorem d_M_pinsOfRow_20 : decode (z_c m_M_pinsOfRow) 20 = .ok (.aload_n 0, 1) := by decide +kernel
theorem d_M_pinsOfRow_21 : decode (z_c m_M_pinsOfRow) 21 = .ok (.getfield 7, 3) := by decide +kernel
theorem d_M_pinsOfRow_24 : decode (z_c m_M_pinsOfRow) 24 = .ok (.iconst 1, 1) := by decide +kernel
theorem d_M_pinsOfRow_25 : decode (z_c m_M_pinsOfRow) 25 = .ok (.iaload, 1) := by decide +kernel
theorem d_M_pinsOfRow_26 : decode (z_c m_M_pinsOfRow) 26 = .ok (.if_icmp .gt 7, 3) := by decide +kernel
theorem d_M_pinsOfRow_29 : decode (z_c m_M_pinsOfRow) 29 = .ok (.iconst 1, 1) := by decide +kernel
theorem d_M_pinsOfRow_30 : decode (z_c m_M_pinsOfRow) 30 = .ok (.goto 4, 3) := by decide +kernel
theorem d_M_pinsOfRow_33 : decode (z_c m_M_pinsOfRow) 33 = .ok (.iconst 0, 1) := by decide +kernel
theorem d_M_pinsOfRow_34 : decode (z_c m_M_pinsOfRow) 34 = .ok (.iadd, 1) := by decide +kernel
theorem d_M_pinsOfRow_35 : decode (z_c m_M_pinsOfRow) 35 = .ok (.istore_n 1, 1) := by decide +kernel
theorem d_M_pinsOfRow_36 : decode (z_c m_M_pinsOfRow) 36 = .ok (.iinc 2 1, 3) := by decide +kernel
theorem d_M_pinsOfRow_39 : decode (z_c m_M_pinsOfRow) 39 = .ok (.goto (-35), 3) := by decide +kernel
theorem d_M_pinsOfRow_42 : decode (z_c m_M_pinsOfRow) 42 = .ok (.aload_n 0, 1) := by decide +kernel
theorem d_M_pinsOfRow_43 : decode (z_c m_M_pinsOfRow) 43 = .ok (.iload_n 1, 1) := by decide +kernel
theorem d_M_pinsOfRow_44 : decode (z_c m_M_pinsOfRow) 44 = .ok (.invokevirtual 91, 3) := by decide +kernel
theorem d_M_pinsOfRow_47 : decode (z_c m_M_pinsOfRow) 47 = .ok (.ireturn, 1) := by decide +kernel
abbrev L_M_pinsOfRow_4 (X : z_X) (N : Nat) (σ : z_G) (x1 x2 : Int) (g : z_G) (Q : z_P) : Prop := z_U X 3 m_M_pinsOfRow 4 [(0, (2, 0)), (1, (0, x1)), (2, (0, x2))] [] N σ g Q
set_option maxRecDepth 8000 in
theorem b_M_pinsOfRow_0 {X : z_X} {N : Nat} {σ g : z_G} {Q : z_P} (hx : z_lay X N σ 0 z_SM z_RM) (h : L_M_pinsOfRow_4 X N σ 0 0 g Q) : z_O X 3 m_M_pinsOfRow [(2, 0)] N σ g Q := by
  refine z_Oenter mi_M_pinsOfRow rfl (fun _ => ?_)
  show z_U X 3 m_M_pinsOfRow 0 [(0, (2, 0))] [] N σ g Q
  refine z_iconst (n := 0) d_M_pinsOfRow_0 (by decide) ?_
  refine z_istore_n (i := 1) (ls' := [(1, (0, 0)), (0, (2, 0))]) d_M_pinsOfRow_1 rfl rfl rfl ?_
  refine z_iconst (n := 0) d_M_pinsOfRow_2 (by decide) ?_
  refine z_istore_n (i := 2) (ls' := [(2, (0, 0)), (1, (0, 0)), (0, (2, 0))]) d_M_pinsOfRow_3 rfl rfl rfl ?_
  refine z_sub (ls' := [(0, (2, 0)), (1, (0, 0)), (2, (0, 0))]) [2, 1, 0] rfl ?_
  exact h
set_option maxRecDepth 8000 in
theorem b_M_pinsOfRow_4 {X : z_X} {N : Nat} {σ g : z_G} {Q : z_P} {x1 x2 : Int} (hx : z_lay X N σ 0 z_SM z_RM) (h : (((g 1 4) ≤ x2) → Q x1 (z_up g 0 1 0)) ∧ (¬ ((g 1 4) ≤ x2) → ((-2147483648 ≤ (3 * x2) ∧ (3 * x2) ≤ 2147483647) ∧ ((-2147483648 ≤ (10 + (3 * x2)) ∧ (10 + (3 * x2)) ≤ 2147483647) ∧ ((-2147483648 ≤ ((10 + (3 * x2)) + 1) ∧ ((10 + (3 * x2)) + 1) ≤ 2147483647) ∧ ((0 ≤ ((10 + (3 * x2)) + 1) ∧ ((10 + (3 * x2)) + 1) < 3296) ∧ ((((g 1 1) < (g 1 ((10 + (3 * x2)) + 1))) → ((-2147483648 ≤ (x1 + 0) ∧ (x1 + 0) ≤ 2147483647) ∧ ((-2147483648 ≤ (x2 + 1) ∧ (x2 + 1) ≤ 2147483647) ∧ L_M_pinsOfRow_4 X N σ (x1 + 0) (x2 + 1) g Q))) ∧ (¬ ((g 1 1) < (g 1 ((10 + (3 * x2)) + 1))) → ((-2147483648 ≤ (x1 + 1) ∧ (x1 + 1) ≤ 2147483647) ∧ ((-2147483648 ≤ (x2 + 1) ∧ (x2 + 1) ≤ 2147483647) ∧ L_M_pinsOfRow_4 X N σ (x1 + 1) (x2 + 1) g Q)))))))))) : L_M_pinsOfRow_4 X N σ x1 x2 g Q := by
  refine z_iload_n (i := 2) 2 d_M_pinsOfRow_4 rfl rfl ?_
  refine z_aload_n (i := 0) (c := 0) 0 d_M_pinsOfRow_5 rfl rfl rfl ?_
  refine z_getr (c := 0) (kI := 0) (r2 := 1) d_M_pinsOfRow_6 fd_M_at fl_M_7 rfl rfl rfl (ks_M_0 hx) (kl_M_0 hx) (kr_M_0_0 hx) ?_
  refine z_iconst (n := 4) d_M_pinsOfRow_9 (by decide) ?_
  refine z_iald (c := 1) (m := 3296) d_M_pinsOfRow_10 rfl (ks_M_1 hx) (kl_M_1 hx) rfl (by decide) (by decide) ?_
  refine z_icmp_ge (tgt := 42) d_M_pinsOfRow_11 (by decide) (fun c1 => ?_) (fun c1 => ?_)
  · have h := h.1 c1
    refine z_aload_n (i := 0) (c := 0) 0 d_M_pinsOfRow_42 rfl rfl rfl ?_
    refine z_iload_n (i := 1) 1 d_M_pinsOfRow_43 rfl rfl ?_
    refine z_cV (c := 0) (as := [(0, x1)]) (d' := 1) (st := []) d_M_pinsOfRow_44 mi_M_gives ml_M_91 mv_M_gives se_M_gives rfl rfl rfl rfl (ks_M_0 hx) rfl rfl (kl_M_0 hx) rfl rfl (b_M_gives_0 hx ?_)
    intro _
    show z_U X 3 m_M_pinsOfRow 47 [(0, (2, 0)), (1, (0, x1)), (2, (0, x2))] [(0, x1)] N σ (z_up g 0 1 0) Q
    exact z_iret d_M_pinsOfRow_47 rfl (by decide) (by decide) ⟨rfl, rfl, h⟩
  · have h := h.2 c1
    refine z_iload_n (i := 1) 1 d_M_pinsOfRow_14 rfl rfl ?_
    refine z_aload_n (i := 0) (c := 0) 0 d_M_pinsOfRow_15 rfl rfl rfl ?_
    refine z_iload_n (i := 2) 2 d_M_pinsOfRow_16 rfl rfl ?_
    refine z_cV (c := 0) (as := [(0, x2)]) (d' := 2) (st := [(0, x1)]) d_M_pinsOfRow_17 mi_M_bottomOf ml_M_369 mv_M_bottomOf se_M_bottomOf rfl rfl rfl rfl (ks_M_0 hx) rfl rfl (kl_M_0 hx) rfl rfl (b_M_bottomOf_0 hx ?_)
    obtain ⟨c2, h⟩ := h
    refine ⟨c2, ?_⟩
    obtain ⟨c3, h⟩ := h
    refine ⟨c3, ?_⟩
    obtain ⟨c4, h⟩ := h
    refine ⟨c4, ?_⟩
    obtain ⟨c5, h⟩ := h
    refine ⟨c5, ?_⟩
    intro _
    show z_U X 3 m_M_pinsOfRow 20 [(0, (2, 0)), (1, (0, x1)), (2, (0, x2))] [(0, g 1 ((10 + (3 * x2)) + 1)), (0, x1)] N σ g Q
    refine z_aload_n (i := 0) (c := 0) 0 d_M_pinsOfRow_20 rfl rfl rfl ?_
    refine z_getr (c := 0) (kI := 0) (r2 := 1) d_M_pinsOfRow_21 fd_M_at fl_M_7 rfl rfl rfl (ks_M_0 hx) (kl_M_0 hx) (kr_M_0_0 hx) ?_
    refine z_iconst (n := 1) d_M_pinsOfRow_24 (by decide) ?_
    refine z_iald (c := 1) (m := 3296) d_M_pinsOfRow_25 rfl (ks_M_1 hx) (kl_M_1 hx) rfl (by decide) (by decide) ?_
    refine z_icmp_gt (tgt := 33) d_M_pinsOfRow_26 (by decide) (fun c6 => ?_) (fun c6 => ?_)
    · have h := h.1 c6
      refine z_iconst (n := 0) d_M_pinsOfRow_33 (by decide) ?_
      obtain ⟨c7, h⟩ := h
      refine z_iadd d_M_pinsOfRow_34 c7 ?_
      refine z_istore_n (i := 1) (ls' := [(1, (0, x1 + 0)), (0, (2, 0)), (2, (0, x2))]) d_M_pinsOfRow_35 rfl rfl rfl ?_
      obtain ⟨c8, h⟩ := h
      refine z_iinc (n := 1) (ls' := [(2, (0, x2 + 1)), (1, (0, x1 + 0)), (0, (2, 0))]) 2 d_M_pinsOfRow_36 rfl c8 rfl rfl ?_
      refine z_goto (tgt := 4) d_M_pinsOfRow_39 (by decide) ?_
      refine z_sub (ls' := [(0, (2, 0)), (1, (0, x1 + 0)), (2, (0, x2 + 1))]) [2, 1, 0] rfl ?_
      exact h
    · have h := h.2 c6
      refine z_iconst (n := 1) d_M_pinsOfRow_29 (by decide) ?_
      refine z_goto (tgt := 34) d_M_pinsOfRow_30 (by decide) ?_
      obtain ⟨c9, h⟩ := h
      refine z_iadd d_M_pinsOfRow_34 c9 ?_
      refine z_istore_n (i := 1) (ls' := [(1, (0, x1 + 1)), (0, (2, 0)), (2, (0, x2))]) d_M_pinsOfRow_35 rfl rfl rfl ?_
      obtain ⟨c10, h⟩ := h
      refine z_iinc (n := 1) (ls' := [(2, (0, x2 + 1)), (1, (0, x1 + 1)), (0, (2, 0))]) 2 d_M_pinsOfRow_36 rfl c10 rfl rfl ?_
      refine z_goto (tgt := 4) d_M_pinsOfRow_39 (by decide) ?_
      refine z_sub (ls' := [(0, (2, 0)), (1, (0, x1 + 1)), (2, (0, x2 + 1))]) [2, 1, 0] rfl ?_
      exact h
theorem d_M_read_0 : decode (z_c m_M_read) 0 = .ok (.aload_n 0, 1) := by decide +kernel
theorem d_M_read_1 : decode (z_c m_M_read) 1 = .ok (.aload_n 0, 1) := by decide +kernel
theorem d_M_read_2 : decode (z_c m_M_read) 2 = .ok (.iload_n 1, 1) := by decide +kernel
theorem d_M_read_3 : decode (z_c m_M_read) 3 = .ok (.iload_n 2, 1) := by decide +kernel
theorem d_M_read_4 : decode (z_c m_M_read) 4 = .ok (.invokevirtual 101, 3) := by decide +kernel
theorem d_M_read_7 : decode (z_c m_M_read) 7 = .ok (.putfield 81, 3) := by decide +kernel
theorem d_M_read_10 : decode (z_c m_M_read) 10 = .ok (.aload_n 0, 1) := by decide +kernel
theorem d_M_read_11 : decode (z_c m_M_read) 11 = .ok (.getfield 81, 3) := by decide +kernel
theorem d_M_read_14 : decode (z_c m_M_read) 14 = .ok (.ifCond .le 9, 3) := by decide +kernel
theorem d_M_read_17 : decode (z_c m_M_read) 17 = .ok (.ldc2_w 109, 3) := by decide +kernel
theorem d_M_read_20 : decode (z_c m_M_read) 20 = .ok (.goto 14, 3) := by decide +kernel
theorem d_M_read_23 : decode (z_c m_M_read) 23 = .ok (.aload_n 0, 1) := by decide +kernel
theorem d_M_read_24 : decode (z_c m_M_read) 24 = .ok (.getfield 23, 3) := by decide +kernel
theorem d_M_read_27 : decode (z_c m_M_read) 27 = .ok (.bipush 60, 2) := by decide +kernel
theorem d_M_read_29 : decode (z_c m_M_read) 29 = .ok (.iload_n 1, 1) := by decide +kernel
theorem d_M_read_30 : decode (z_c m_M_read) 30 = .ok (.imul, 1) := by decide +kernel
theorem d_M_read_31 : decode (z_c m_M_read) 31 = .ok (.iload_n 2, 1) := by decide +kernel
theorem d_M_read_32 : decode (z_c m_M_read) 32 = .ok (.iadd, 1) := by decide +kernel
theorem d_M_read_33 : decode (z_c m_M_read) 33 = .ok (.laload, 1) := by decide +kernel
theorem d_M_read_34 : decode (z_c m_M_read) 34 = .ok (.lreturn, 1) := by decide +kernel
set_option maxRecDepth 8000 in
theorem b_M_read_0 {X : z_X} {N : Nat} {σ g : z_G} {Q : z_P} {a1 a2 : Int} (hx : z_lay X N σ 0 z_SM z_RM) (h : ((a1 < 0) → Q (-1) (z_up g 0 1 1)) ∧ (¬ (a1 < 0) → (((4 ≤ a1) → Q (-1) (z_up g 0 1 1)) ∧ (¬ (4 ≤ a1) → ((0 ≤ a1 ∧ a1 < 4) ∧ ((((g 3 a1) = (-1)) → Q (-1) (z_up g 0 1 2)) ∧ (¬ ((g 3 a1) = (-1)) → (((a2 < 0) → Q (-1) (z_up g 0 1 3)) ∧ (¬ (a2 < 0) → (((a2 < (g 3 a1)) → ((-2147483648 ≤ (60 * a1) ∧ (60 * a1) ≤ 2147483647) ∧ ((-2147483648 ≤ ((60 * a1) + a2) ∧ ((60 * a1) + a2) ≤ 2147483647) ∧ ((0 ≤ ((60 * a1) + a2) ∧ ((60 * a1) + a2) < 240) ∧ Q (g 4 ((60 * a1) + a2)) (z_up g 0 1 0))))) ∧ (¬ (a2 < (g 3 a1)) → Q (-1) (z_up g 0 1 3)))))))))))) : z_O X 3 m_M_read [(2, 0), (0, a1), (0, a2)] N σ g Q := by
  refine z_Oenter mi_M_read rfl (fun _ => ?_)
  show z_U X 3 m_M_read 0 [(0, (2, 0)), (1, (0, a1)), (2, (0, a2))] [] N σ g Q
  refine z_aload_n (i := 0) (c := 0) 0 d_M_read_0 rfl rfl rfl ?_
  refine z_aload_n (i := 0) (c := 0) 0 d_M_read_1 rfl rfl rfl ?_
  refine z_iload_n (i := 1) 1 d_M_read_2 rfl rfl ?_
  refine z_iload_n (i := 2) 2 d_M_read_3 rfl rfl ?_
  refine z_cV (c := 0) (as := [(0, a1), (0, a2)]) (d' := 2) (st := [(2, 0)]) d_M_read_4 mi_M_wrongPlace ml_M_101 mv_M_wrongPlace se_M_wrongPlace rfl rfl rfl rfl (ks_M_0 hx) rfl rfl (kl_M_0 hx) rfl rfl (b_M_wrongPlace_0 hx ?_)
  refine ⟨fun c1 => ?_, fun c1 => ?_⟩
  · have h := h.1 c1
    intro _
    show z_U X 3 m_M_read 7 [(0, (2, 0)), (1, (0, a1)), (2, (0, a2))] [(0, 1), (2, 0)] N σ g Q
    refine z_puti (c := 0) (kI := 1) d_M_read_7 fd_M_status fl_M_81 pf_M_status rfl rfl rfl rfl (ks_M_0 hx) (kl_M_0 hx) ?_
    refine z_aload_n (i := 0) (c := 0) 0 d_M_read_10 rfl rfl rfl ?_
    refine z_geti (c := 0) (kI := 1) d_M_read_11 fd_M_status fl_M_81 (Or.inl rfl) rfl rfl (ks_M_0 hx) (kl_M_0 hx) ?_
    refine z_ti (b := 1) (by simp [z_up]) ?_
    refine z_if_le (tgt := 23) d_M_read_14 (by decide) (fun c => absurd c (by decide)) (fun _ => ?_)
    refine z_ldc2 (v := (-1)) d_M_read_17 kc_M_109 (by decide) ?_
    refine z_goto (tgt := 34) d_M_read_20 (by decide) ?_
    exact z_lret d_M_read_34 rfl (by decide) (by decide) ⟨rfl, rfl, h⟩
  · have h := h.2 c1
    refine ⟨fun c2 => ?_, fun c2 => ?_⟩
    · have h := h.1 c2
      intro _
      show z_U X 3 m_M_read 7 [(0, (2, 0)), (1, (0, a1)), (2, (0, a2))] [(0, 1), (2, 0)] N σ g Q
      refine z_puti (c := 0) (kI := 1) d_M_read_7 fd_M_status fl_M_81 pf_M_status rfl rfl rfl rfl (ks_M_0 hx) (kl_M_0 hx) ?_
      refine z_aload_n (i := 0) (c := 0) 0 d_M_read_10 rfl rfl rfl ?_
      refine z_geti (c := 0) (kI := 1) d_M_read_11 fd_M_status fl_M_81 (Or.inl rfl) rfl rfl (ks_M_0 hx) (kl_M_0 hx) ?_
      refine z_ti (b := 1) (by simp [z_up]) ?_
      refine z_if_le (tgt := 23) d_M_read_14 (by decide) (fun c => absurd c (by decide)) (fun _ => ?_)
      refine z_ldc2 (v := (-1)) d_M_read_17 kc_M_109 (by decide) ?_
      refine z_goto (tgt := 34) d_M_read_20 (by decide) ?_
      exact z_lret d_M_read_34 rfl (by decide) (by decide) ⟨rfl, rfl, h⟩
    · have h := h.2 c2
      obtain ⟨c3, h⟩ := h
      refine ⟨c3, ?_⟩
      refine ⟨fun c4 => ?_, fun c4 => ?_⟩
      · have h := h.1 c4
        intro _
        show z_U X 3 m_M_read 7 [(0, (2, 0)), (1, (0, a1)), (2, (0, a2))] [(0, 2), (2, 0)] N σ g Q
        refine z_puti (c := 0) (kI := 1) d_M_read_7 fd_M_status fl_M_81 pf_M_status rfl rfl rfl rfl (ks_M_0 hx) (kl_M_0 hx) ?_
        refine z_aload_n (i := 0) (c := 0) 0 d_M_read_10 rfl rfl rfl ?_
        refine z_geti (c := 0) (kI := 1) d_M_read_11 fd_M_status fl_M_81 (Or.inl rfl) rfl rfl (ks_M_0 hx) (kl_M_0 hx) ?_
        refine z_ti (b := 2) (by simp [z_up]) ?_
        refine z_if_le (tgt := 23) d_M_read_14 (by decide) (fun c => absurd c (by decide)) (fun _ => ?_)
        refine z_ldc2 (v := (-1)) d_M_read_17 kc_M_109 (by decide) ?_
        refine z_goto (tgt := 34) d_M_read_20 (by decide) ?_
        exact z_lret d_M_read_34 rfl (by decide) (by decide) ⟨rfl, rfl, h⟩
      · have h := h.2 c4
        refine ⟨fun c5 => ?_, fun c5 => ?_⟩
        · have h := h.1 c5
          intro _
          show z_U X 3 m_M_read 7 [(0, (2, 0)), (1, (0, a1)), (2, (0, a2))] [(0, 3), (2, 0)] N σ g Q
          refine z_puti (c := 0) (kI := 1) d_M_read_7 fd_M_status fl_M_81 pf_M_status rfl rfl rfl rfl (ks_M_0 hx) (kl_M_0 hx) ?_
          refine z_aload_n (i := 0) (c := 0) 0 d_M_read_10 rfl rfl rfl ?_
          refine z_geti (c := 0) (kI := 1) d_M_read_11 fd_M_status fl_M_81 (Or.inl rfl) rfl rfl (ks_M_0 hx) (kl_M_0 hx) ?_
          refine z_ti (b := 3) (by simp [z_up]) ?_
          refine z_if_le (tgt := 23) d_M_read_14 (by decide) (fun c => absurd c (by decide)) (fun _ => ?_)
          refine z_ldc2 (v := (-1)) d_M_read_17 kc_M_109 (by decide) ?_
          refine z_goto (tgt := 34) d_M_read_20 (by decide) ?_
          exact z_lret d_M_read_34 rfl (by decide) (by decide) ⟨rfl, rfl, h⟩
        · have h := h.2 c5
          refine ⟨fun c6 => ?_, fun c6 => ?_⟩
          · have h := h.1 c6
            intro _
            show z_U X 3 m_M_read 7 [(0, (2, 0)), (1, (0, a1)), (2, (0, a2))] [(0, 0), (2, 0)] N σ g Q
            refine z_puti (c := 0) (kI := 1) d_M_read_7 fd_M_status fl_M_81 pf_M_status rfl rfl rfl rfl (ks_M_0 hx) (kl_M_0 hx) ?_
            refine z_aload_n (i := 0) (c := 0) 0 d_M_read_10 rfl rfl rfl ?_
            refine z_geti (c := 0) (kI := 1) d_M_read_11 fd_M_status fl_M_81 (Or.inl rfl) rfl rfl (ks_M_0 hx) (kl_M_0 hx) ?_
            refine z_ti (b := 0) (by simp [z_up]) ?_
            refine z_if_le (tgt := 23) d_M_read_14 (by decide) (fun _ => ?_) (fun c => absurd (by decide) c)
            refine z_aload_n (i := 0) (c := 0) 0 d_M_read_23 rfl rfl rfl ?_
            refine z_getr (c := 0) (kI := 6) (r2 := 4) d_M_read_24 fd_M_trays fl_M_23 rfl rfl rfl (ks_M_0 hx) (kl_M_0 hx) (kr_M_0_6 hx) ?_
            refine z_bipush (n := 60) d_M_read_27 (by decide) (by decide) ?_
            refine z_iload_n (i := 1) 1 d_M_read_29 rfl rfl ?_
            obtain ⟨c7, h⟩ := h
            refine z_imul d_M_read_30 c7 ?_
            refine z_iload_n (i := 2) 2 d_M_read_31 rfl rfl ?_
            obtain ⟨c8, h⟩ := h
            refine z_iadd d_M_read_32 c8 ?_
            obtain ⟨c9, h⟩ := h
            refine z_lald (c := 4) (m := 240) d_M_read_33 rfl (ks_M_4 hx) (kl_M_4 hx) rfl (by decide) c9 ?_
            refine z_ti (b := g 4 ((60 * a1) + a2)) (by simp [z_up]) ?_
            exact z_lret d_M_read_34 rfl (by decide) (by decide) ⟨rfl, rfl, h⟩
          · have h := h.2 c6
            intro _
            show z_U X 3 m_M_read 7 [(0, (2, 0)), (1, (0, a1)), (2, (0, a2))] [(0, 3), (2, 0)] N σ g Q
            refine z_puti (c := 0) (kI := 1) d_M_read_7 fd_M_status fl_M_81 pf_M_status rfl rfl rfl rfl (ks_M_0 hx) (kl_M_0 hx) ?_
            refine z_aload_n (i := 0) (c := 0) 0 d_M_read_10 rfl rfl rfl ?_
            refine z_geti (c := 0) (kI := 1) d_M_read_11 fd_M_status fl_M_81 (Or.inl rfl) rfl rfl (ks_M_0 hx) (kl_M_0 hx) ?_
            refine z_ti (b := 3) (by simp [z_up]) ?_
            refine z_if_le (tgt := 23) d_M_read_14 (by decide) (fun c => absurd c (by decide)) (fun _ => ?_)
            refine z_ldc2 (v := (-1)) d_M_read_17 kc_M_109 (by decide) ?_
            refine z_goto (tgt := 34) d_M_read_20 (by decide) ?_
            exact z_lret d_M_read_34 rfl (by decide) (by decide) ⟨rfl, rfl, h⟩
theorem d_M_simplest_0 : decode (z_c m_M_simplest) 0 = .ok (.iload_n 1, 1) := by decide +kernel
theorem d_M_simplest_1 : decode (z_c m_M_simplest) 1 = .ok (.iload_n 2, 1) := by decide +kernel
theorem d_M_simplest_2 : decode (z_c m_M_simplest) 2 = .ok (.invokestatic 272, 3) := by decide +kernel
theorem d_M_simplest_5 : decode (z_c m_M_simplest) 5 = .ok (.ifCond .eq 12, 3) := by decide +kernel
theorem d_M_simplest_8 : decode (z_c m_M_simplest) 8 = .ok (.iload_n 3, 1) := by decide +kernel
theorem d_M_simplest_9 : decode (z_c m_M_simplest) 9 = .ok (.iload 4, 2) := by decide +kernel
theorem d_M_simplest_11 : decode (z_c m_M_simplest) 11 = .ok (.invokestatic 272, 3) := by decide +kernel
theorem d_M_simplest_14 : decode (z_c m_M_simplest) 14 = .ok (.ifCond .ne 9, 3) := by decide +kernel
theorem d_M_simplest_17 : decode (z_c m_M_simplest) 17 = .ok (.aload_n 0, 1) := by decide +kernel
theorem d_M_simplest_18 : decode (z_c m_M_simplest) 18 = .ok (.iconst 1, 1) := by decide +kernel
theorem d_M_simplest_19 : decode (z_c m_M_simplest) 19 = .ok (.invokevirtual 94, 3) := by decide +kernel
theorem d_M_simplest_22 : decode (z_c m_M_simplest) 22 = .ok (.ireturn, 1) := by decide +kernel
theorem d_M_simplest_23 : decode (z_c m_M_simplest) 23 = .ok (.iload_n 1, 1) := by decide +kernel
theorem d_M_simplest_24 : decode (z_c m_M_simplest) 24 = .ok (.iload 4, 2) := by decide +kernel
theorem d_M_simplest_26 : decode (z_c m_M_simplest) 26 = .ok (.imul, 1) := by decide +kernel
theorem d_M_simplest_27 : decode (z_c m_M_simplest) 27 = .ok (.iload_n 3, 1) := by decide +kernel
theorem d_M_simplest_28 : decode (z_c m_M_simplest) 28 = .ok (.iload_n 2, 1) := by decide +kernel
theorem d_M_simplest_29 : decode (z_c m_M_simplest) 29 = .ok (.imul, 1) := by decide +kernel
theorem d_M_simplest_30 : decode (z_c m_M_simplest) 30 = .ok (.isub, 1) := by decide +kernel
theorem d_M_simplest_31 : decode (z_c m_M_simplest) 31 = .ok (.istore 5, 2) := by decide +kernel
theorem d_M_simplest_33 : decode (z_c m_M_simplest) 33 = .ok (.iload 5, 2) := by decide +kernel
theorem d_M_simplest_35 : decode (z_c m_M_simplest) 35 = .ok (.ifCond .ne 10, 3) := by decide +kernel
theorem d_M_simplest_38 : decode (z_c m_M_simplest) 38 = .ok (.aload_n 0, 1) := by decide +kernel
theorem d_M_simplest_39 : decode (z_c m_M_simplest) 39 = .ok (.bipush 7, 2) := by decide +kernel
theorem d_M_simplest_41 : decode (z_c m_M_simplest) 41 = .ok (.invokevirtual 94, 3) := by decide +kernel
theorem d_M_simplest_44 : decode (z_c m_M_simplest) 44 = .ok (.ireturn, 1) := by decide +kernel
theorem d_M_simplest_45 : decode (z_c m_M_simplest) 45 = .ok (.iload 5, 2) := by decide +kernel
theorem d_M_simplest_47 : decode (z_c m_M_simplest) 47 = .ok (.ifCond .ge 7, 3) := by decide +kernel
theorem d_M_simplest_50 : decode (z_c m_M_simplest) 50 = .ok (.iload_n 1, 1) := by decide +kernel
theorem d_M_simplest_51 : decode (z_c m_M_simplest) 51 = .ok (.goto 4, 3) := by decide +kernel
theorem d_M_simplest_54 : decode (z_c m_M_simplest) 54 = .ok (.iload_n 3, 1) := by decide +kernel
theorem d_M_simplest_55 : decode (z_c m_M_simplest) 55 = .ok (.istore 6, 2) := by decide +kernel
theorem d_M_simplest_57 : decode (z_c m_M_simplest) 57 = .ok (.iload 5, 2) := by decide +kernel
theorem d_M_simplest_59 : decode (z_c m_M_simplest) 59 = .ok (.ifCond .ge 7, 3) := by decide +kernel
theorem d_M_simplest_62 : decode (z_c m_M_simplest) 62 = .ok (.iload_n 2, 1) := by decide +kernel
theorem d_M_simplest_63 : decode (z_c m_M_simplest) 63 = .ok (.goto 5, 3) := by decide +kernel
theorem d_M_simplest_66 : decode (z_c m_M_simplest) 66 = .ok (.iload 4, 2) := by decide +kernel
theorem d_M_simplest_68 : decode (z_c m_M_simplest) 68 = .ok (.istore 7, 2) := by decide +kernel
theorem d_M_simplest_70 : decode (z_c m_M_simplest) 70 = .ok (.iload 5, 2) := by decide +kernel
theorem d_M_simplest_72 : decode (z_c m_M_simplest) 72 = .ok (.ifCond .ge 7, 3) := by decide +kernel
theorem d_M_simplest_75 : decode (z_c m_M_simplest) 75 = .ok (.iload_n 3, 1) := by decide +kernel
theorem d_M_simplest_76 : decode (z_c m_M_simplest) 76 = .ok (.goto 4, 3) := by decide +kernel
theorem d_M_simplest_79 : decode (z_c m_M_simplest) 79 = .ok (.iload_n 1, 1) := by decide +kernel
theorem d_M_simplest_80 : decode (z_c m_M_simplest) 80 = .ok (.istore 8, 2) := by decide +kernel
theorem d_M_simplest_82 : decode (z_c m_M_simplest) 82 = .ok (.iload 5, 2) := by decide +kernel
theorem d_M_simplest_84 : decode (z_c m_M_simplest) 84 = .ok (.ifCond .ge 8, 3) := by decide +kernel
theorem d_M_simplest_87 : decode (z_c m_M_simplest) 87 = .ok (.iload 4, 2) := by decide +kernel
theorem d_M_simplest_89 : decode (z_c m_M_simplest) 89 = .ok (.goto 4, 3) := by decide +kernel
theorem d_M_simplest_92 : decode (z_c m_M_simplest) 92 = .ok (.iload_n 2, 1) := by decide +kernel
theorem d_M_simplest_93 : decode (z_c m_M_simplest) 93 = .ok (.istore 9, 2) := by decide +kernel
theorem d_M_simplest_95 : decode (z_c m_M_simplest) 95 = .ok (.iconst 1, 1) := by decide +kernel
theorem d_M_simplest_96 : decode (z_c m_M_simplest) 96 = .ok (.istore 10, 2) := by decide +kernel
theorem d_M_simplest_98 : decode (z_c m_M_simplest) 98 = .ok (.iload 6, 2) := by decide +kernel
theorem d_M_simplest_100 : decode (z_c m_M_simplest) 100 = .ok (.iload 7, 2) := by decide +kernel
theorem d_M_simplest_102 : decode (z_c m_M_simplest) 102 = .ok (.idiv, 1) := by decide +kernel
theorem d_M_simplest_103 : decode (z_c m_M_simplest) 103 = .ok (.iconst 1, 1) := by decide +kernel
theorem d_M_simplest_104 : decode (z_c m_M_simplest) 104 = .ok (.iadd, 1) := by decide +kernel
theorem d_M_simplest_105 : decode (z_c m_M_simplest) 105 = .ok (.istore 11, 2) := by decide +kernel
theorem d_M_simplest_107 : decode (z_c m_M_simplest) 107 = .ok (.iload 11, 2) := by decide +kernel
theorem d_M_simplest_109 : decode (z_c m_M_simplest) 109 = .ok (.iload 9, 2) := by decide +kernel
theorem d_M_simplest_111 : decode (z_c m_M_simplest) 111 = .ok (.imul, 1) := by decide +kernel
theorem d_M_simplest_112 : decode (z_c m_M_simplest) 112 = .ok (.iload 8, 2) := by decide +kernel
theorem d_M_simplest_114 : decode (z_c m_M_simplest) 114 = .ok (.iload 10, 2) := by decide +kernel
theorem d_M_simplest_116 : decode (z_c m_M_simplest) 116 = .ok (.imul, 1) := by decide +kernel
theorem d_M_simplest_117 : decode (z_c m_M_simplest) 117 = .ok (.if_icmp .lt 21, 3) := by decide +kernel
theorem d_M_simplest_120 : decode (z_c m_M_simplest) 120 = .ok (.iinc 10 1, 3) := by decide +kernel
theorem d_M_simplest_123 : decode (z_c m_M_simplest) 123 = .ok (.iload 6, 2) := by decide +kernel
theorem d_M_simplest_125 : decode (z_c m_M_simplest) 125 = .ok (.iload 10, 2) := by decide +kernel
theorem d_M_simplest_127 : decode (z_c m_M_simplest) 127 = .ok (.imul, 1) := by decide +kernel
theorem d_M_simplest_128 : decode (z_c m_M_simplest) 128 = .ok (.iload 7, 2) := by decide +kernel
theorem d_M_simplest_130 : decode (z_c m_M_simplest) 130 = .ok (.idiv, 1) := by decide +kernel
theorem d_M_simplest_131 : decode (z_c m_M_simplest) 131 = .ok (.iconst 1, 1) := by decide +kernel
theorem d_M_simplest_132 : decode (z_c m_M_simplest) 132 = .ok (.iadd, 1) := by decide +kernel
theorem d_M_simplest_133 : decode (z_c m_M_simplest) 133 = .ok (.istore 11, 2) := by decide +kernel
theorem d_M_simplest_135 : decode (z_c m_M_simplest) 135 = .ok (.goto (-28), 3) := by decide +kernel
theorem d_M_simplest_138 : decode (z_c m_M_simplest) 138 = .ok (.aload_n 0, 1) := by decide +kernel
theorem d_M_simplest_139 : decode (z_c m_M_simplest) 139 = .ok (.iload 11, 2) := by decide +kernel
theorem d_M_simplest_141 : decode (z_c m_M_simplest) 141 = .ok (.i2l, 1) := by decide +kernel
theorem d_M_simplest_142 : decode (z_c m_M_simplest) 142 = .ok (.iload 10, 2) := by decide +kernel
theorem d_M_simplest_144 : decode (z_c m_M_simplest) 144 = .ok (.i2l, 1) := by decide +kernel
theorem d_M_simplest_145 : decode (z_c m_M_simplest) 145 = .ok (.invokevirtual 253, 3) := by decide +kernel
theorem d_M_simplest_148 : decode (z_c m_M_simplest) 148 = .ok (.ireturn, 1) := by decide +kernel
abbrev L_M_simplest_107 (X : z_X) (N : Nat) (σ : z_G) (x6 x7 x8 x9 x10 x11 : Int) (g : z_G) (Q : z_P) : Prop := z_U X 3 m_M_simplest 107 [(0, (2, 0)), (6, (0, x6)), (7, (0, x7)), (8, (0, x8)), (9, (0, x9)), (10, (0, x10)), (11, (0, x11))] [] N σ g Q
set_option maxRecDepth 8000 in
theorem b_M_simplest_0 {X : z_X} {N : Nat} {σ g : z_G} {Q : z_P} {a1 a2 a3 a4 : Int} (hx : z_lay X N σ 0 z_SM z_RM) (h : ((a2 < 1) → Q 0 (z_up g 0 1 1)) ∧ (¬ (a2 < 1) → (((9999 < a2) → Q 0 (z_up g 0 1 1)) ∧ (¬ (9999 < a2) → (((a1 < 0) → Q 0 (z_up g 0 1 1)) ∧ (¬ (a1 < 0) → (((a2 < a1) → Q 0 (z_up g 0 1 1)) ∧ (¬ (a2 < a1) → (((a4 < 1) → Q 0 (z_up g 0 1 1)) ∧ (¬ (a4 < 1) → (((9999 < a4) → Q 0 (z_up g 0 1 1)) ∧ (¬ (9999 < a4) → (((a3 < 0) → Q 0 (z_up g 0 1 1)) ∧ (¬ (a3 < 0) → (((a4 < a3) → Q 0 (z_up g 0 1 1)) ∧ (¬ (a4 < a3) → ((-2147483648 ≤ (a1 * a4) ∧ (a1 * a4) ≤ 2147483647) ∧ ((-2147483648 ≤ (a3 * a2) ∧ (a3 * a2) ≤ 2147483647) ∧ ((-2147483648 ≤ ((a1 * a4) - (a3 * a2)) ∧ ((a1 * a4) - (a3 * a2)) ≤ 2147483647) ∧ (((((a1 * a4) - (a3 * a2)) = 0) → Q 0 (z_up g 0 1 7)) ∧ (¬ (((a1 * a4) - (a3 * a2)) = 0) → (((0 ≤ ((a1 * a4) - (a3 * a2))) → ((0 < a4) ∧ ((-2147483648 ≤ ((Int.tdiv a3 a4) + 1) ∧ ((Int.tdiv a3 a4) + 1) ≤ 2147483647) ∧ L_M_simplest_107 X N σ a3 a4 a1 a2 1 ((Int.tdiv a3 a4) + 1) g Q))) ∧ (¬ (0 ≤ ((a1 * a4) - (a3 * a2))) → ((0 < a2) ∧ ((-2147483648 ≤ ((Int.tdiv a1 a2) + 1) ∧ ((Int.tdiv a1 a2) + 1) ≤ 2147483647) ∧ L_M_simplest_107 X N σ a1 a2 a3 a4 1 ((Int.tdiv a1 a2) + 1) g Q))))))))))))))))))))))))) : z_O X 3 m_M_simplest [(2, 0), (0, a1), (0, a2), (0, a3), (0, a4)] N σ g Q := by
  refine z_Oenter mi_M_simplest rfl (fun _ => ?_)
  show z_U X 3 m_M_simplest 0 [(0, (2, 0)), (1, (0, a1)), (2, (0, a2)), (3, (0, a3)), (4, (0, a4))] [] N σ g Q
  refine z_iload_n (i := 1) 1 d_M_simplest_0 rfl rfl ?_
  refine z_iload_n (i := 2) 2 d_M_simplest_1 rfl rfl ?_
  refine z_cS (as := [(0, a1), (0, a2)]) (d' := 1) (st := []) d_M_simplest_2 mi_M_isValue ml_M_272 ms_M_isValue rfl rfl rfl rfl rfl (b_M_isValue_0  ?_)
  refine ⟨fun c1 => ?_, fun c1 => ?_⟩
  · have h := h.1 c1
    intro _
    show z_U X 3 m_M_simplest 5 [(0, (2, 0)), (1, (0, a1)), (2, (0, a2)), (3, (0, a3)), (4, (0, a4))] [(0, 0)] N σ g Q
    refine z_if_eq (tgt := 17) d_M_simplest_5 (by decide) (fun _ => ?_) (fun c => absurd (by decide) c)
    refine z_aload_n (i := 0) (c := 0) 0 d_M_simplest_17 rfl rfl rfl ?_
    refine z_iconst (n := 1) d_M_simplest_18 (by decide) ?_
    refine z_cV (c := 0) (as := [(0, 1)]) (d' := 1) (st := []) d_M_simplest_19 mi_M_is ml_M_94 mv_M_is se_M_is rfl rfl rfl rfl (ks_M_0 hx) rfl rfl (kl_M_0 hx) rfl rfl (b_M_is_0 hx ?_)
    refine ⟨fun c => absurd c (by decide), fun _ => ?_⟩
    intro _
    show z_U X 3 m_M_simplest 22 [(0, (2, 0)), (1, (0, a1)), (2, (0, a2)), (3, (0, a3)), (4, (0, a4))] [(0, 0)] N σ (z_up g 0 1 1) Q
    exact z_zret d_M_simplest_22 rfl (by decide) (by decide) (by decide) ⟨rfl, rfl, h⟩
  · have h := h.2 c1
    refine ⟨fun c2 => ?_, fun c2 => ?_⟩
    · have h := h.1 c2
      intro _
      show z_U X 3 m_M_simplest 5 [(0, (2, 0)), (1, (0, a1)), (2, (0, a2)), (3, (0, a3)), (4, (0, a4))] [(0, 0)] N σ g Q
      refine z_if_eq (tgt := 17) d_M_simplest_5 (by decide) (fun _ => ?_) (fun c => absurd (by decide) c)
      refine z_aload_n (i := 0) (c := 0) 0 d_M_simplest_17 rfl rfl rfl ?_
      refine z_iconst (n := 1) d_M_simplest_18 (by decide) ?_
      refine z_cV (c := 0) (as := [(0, 1)]) (d' := 1) (st := []) d_M_simplest_19 mi_M_is ml_M_94 mv_M_is se_M_is rfl rfl rfl rfl (ks_M_0 hx) rfl rfl (kl_M_0 hx) rfl rfl (b_M_is_0 hx ?_)
      refine ⟨fun c => absurd c (by decide), fun _ => ?_⟩
      intro _
      show z_U X 3 m_M_simplest 22 [(0, (2, 0)), (1, (0, a1)), (2, (0, a2)), (3, (0, a3)), (4, (0, a4))] [(0, 0)] N σ (z_up g 0 1 1) Q
      exact z_zret d_M_simplest_22 rfl (by decide) (by decide) (by decide) ⟨rfl, rfl, h⟩
    · have h := h.2 c2
      refine ⟨fun c3 => ?_, fun c3 => ?_⟩
      · have h := h.1 c3
        intro _
        show z_U X 3 m_M_simplest 5 [(0, (2, 0)), (1, (0, a1)), (2, (0, a2)), (3, (0, a3)), (4, (0, a4))] [(0, 0)] N σ g Q
        refine z_if_eq (tgt := 17) d_M_simplest_5 (by decide) (fun _ => ?_) (fun c => absurd (by decide) c)
        refine z_aload_n (i := 0) (c := 0) 0 d_M_simplest_17 rfl rfl rfl ?_
        refine z_iconst (n := 1) d_M_simplest_18 (by decide) ?_
        refine z_cV (c := 0) (as := [(0, 1)]) (d' := 1) (st := []) d_M_simplest_19 mi_M_is ml_M_94 mv_M_is se_M_is rfl rfl rfl rfl (ks_M_0 hx) rfl rfl (kl_M_0 hx) rfl rfl (b_M_is_0 hx ?_)
        refine ⟨fun c => absurd c (by decide), fun _ => ?_⟩
        intro _
        show z_U X 3 m_M_simplest 22 [(0, (2, 0)), (1, (0, a1)), (2, (0, a2)), (3, (0, a3)), (4, (0, a4))] [(0, 0)] N σ (z_up g 0 1 1) Q
        exact z_zret d_M_simplest_22 rfl (by decide) (by decide) (by decide) ⟨rfl, rfl, h⟩
      · have h := h.2 c3
        refine ⟨fun c4 => ?_, fun c4 => ?_⟩
        · have h := h.1 c4
          intro _
          show z_U X 3 m_M_simplest 5 [(0, (2, 0)), (1, (0, a1)), (2, (0, a2)), (3, (0, a3)), (4, (0, a4))] [(0, 0)] N σ g Q
          refine z_if_eq (tgt := 17) d_M_simplest_5 (by decide) (fun _ => ?_) (fun c => absurd (by decide) c)
          refine z_aload_n (i := 0) (c := 0) 0 d_M_simplest_17 rfl rfl rfl ?_
          refine z_iconst (n := 1) d_M_simplest_18 (by decide) ?_
          refine z_cV (c := 0) (as := [(0, 1)]) (d' := 1) (st := []) d_M_simplest_19 mi_M_is ml_M_94 mv_M_is se_M_is rfl rfl rfl rfl (ks_M_0 hx) rfl rfl (kl_M_0 hx) rfl rfl (b_M_is_0 hx ?_)
          refine ⟨fun c => absurd c (by decide), fun _ => ?_⟩
          intro _
          show z_U X 3 m_M_simplest 22 [(0, (2, 0)), (1, (0, a1)), (2, (0, a2)), (3, (0, a3)), (4, (0, a4))] [(0, 0)] N σ (z_up g 0 1 1) Q
          exact z_zret d_M_simplest_22 rfl (by decide) (by decide) (by decide) ⟨rfl, rfl, h⟩
        · have h := h.2 c4
          intro _
          show z_U X 3 m_M_simplest 5 [(0, (2, 0)), (1, (0, a1)), (2, (0, a2)), (3, (0, a3)), (4, (0, a4))] [(0, 1)] N σ g Q
          refine z_if_eq (tgt := 17) d_M_simplest_5 (by decide) (fun c => absurd c (by decide)) (fun _ => ?_)
          refine z_iload_n (i := 3) 3 d_M_simplest_8 rfl rfl ?_
          refine z_iload 4 d_M_simplest_9 rfl ?_
          refine z_cS (as := [(0, a3), (0, a4)]) (d' := 1) (st := []) d_M_simplest_11 mi_M_isValue ml_M_272 ms_M_isValue rfl rfl rfl rfl rfl (b_M_isValue_0  ?_)
          refine ⟨fun c5 => ?_, fun c5 => ?_⟩
          · have h := h.1 c5
            intro _
            show z_U X 3 m_M_simplest 14 [(0, (2, 0)), (1, (0, a1)), (2, (0, a2)), (3, (0, a3)), (4, (0, a4))] [(0, 0)] N σ g Q
            refine z_if_ne (tgt := 23) d_M_simplest_14 (by decide) (fun c => absurd (by decide) c) (fun _ => ?_)
            refine z_aload_n (i := 0) (c := 0) 0 d_M_simplest_17 rfl rfl rfl ?_
            refine z_iconst (n := 1) d_M_simplest_18 (by decide) ?_
            refine z_cV (c := 0) (as := [(0, 1)]) (d' := 1) (st := []) d_M_simplest_19 mi_M_is ml_M_94 mv_M_is se_M_is rfl rfl rfl rfl (ks_M_0 hx) rfl rfl (kl_M_0 hx) rfl rfl (b_M_is_0 hx ?_)
            refine ⟨fun c => absurd c (by decide), fun _ => ?_⟩
            intro _
            show z_U X 3 m_M_simplest 22 [(0, (2, 0)), (1, (0, a1)), (2, (0, a2)), (3, (0, a3)), (4, (0, a4))] [(0, 0)] N σ (z_up g 0 1 1) Q
            exact z_zret d_M_simplest_22 rfl (by decide) (by decide) (by decide) ⟨rfl, rfl, h⟩
          · have h := h.2 c5
            refine ⟨fun c6 => ?_, fun c6 => ?_⟩
            · have h := h.1 c6
              intro _
              show z_U X 3 m_M_simplest 14 [(0, (2, 0)), (1, (0, a1)), (2, (0, a2)), (3, (0, a3)), (4, (0, a4))] [(0, 0)] N σ g Q
              refine z_if_ne (tgt := 23) d_M_simplest_14 (by decide) (fun c => absurd (by decide) c) (fun _ => ?_)
              refine z_aload_n (i := 0) (c := 0) 0 d_M_simplest_17 rfl rfl rfl ?_
              refine z_iconst (n := 1) d_M_simplest_18 (by decide) ?_
              refine z_cV (c := 0) (as := [(0, 1)]) (d' := 1) (st := []) d_M_simplest_19 mi_M_is ml_M_94 mv_M_is se_M_is rfl rfl rfl rfl (ks_M_0 hx) rfl rfl (kl_M_0 hx) rfl rfl (b_M_is_0 hx ?_)
              refine ⟨fun c => absurd c (by decide), fun _ => ?_⟩
              intro _
              show z_U X 3 m_M_simplest 22 [(0, (2, 0)), (1, (0, a1)), (2, (0, a2)), (3, (0, a3)), (4, (0, a4))] [(0, 0)] N σ (z_up g 0 1 1) Q
              exact z_zret d_M_simplest_22 rfl (by decide) (by decide) (by decide) ⟨rfl, rfl, h⟩
            · have h := h.2 c6
              refine ⟨fun c7 => ?_, fun c7 => ?_⟩
              · have h := h.1 c7
                intro _
                show z_U X 3 m_M_simplest 14 [(0, (2, 0)), (1, (0, a1)), (2, (0, a2)), (3, (0, a3)), (4, (0, a4))] [(0, 0)] N σ g Q
                refine z_if_ne (tgt := 23) d_M_simplest_14 (by decide) (fun c => absurd (by decide) c) (fun _ => ?_)
                refine z_aload_n (i := 0) (c := 0) 0 d_M_simplest_17 rfl rfl rfl ?_
                refine z_iconst (n := 1) d_M_simplest_18 (by decide) ?_
                refine z_cV (c := 0) (as := [(0, 1)]) (d' := 1) (st := []) d_M_simplest_19 mi_M_is ml_M_94 mv_M_is se_M_is rfl rfl rfl rfl (ks_M_0 hx) rfl rfl (kl_M_0 hx) rfl rfl (b_M_is_0 hx ?_)
                refine ⟨fun c => absurd c (by decide), fun _ => ?_⟩
                intro _
                show z_U X 3 m_M_simplest 22 [(0, (2, 0)), (1, (0, a1)), (2, (0, a2)), (3, (0, a3)), (4, (0, a4))] [(0, 0)] N σ (z_up g 0 1 1) Q
                exact z_zret d_M_simplest_22 rfl (by decide) (by decide) (by decide) ⟨rfl, rfl, h⟩
              · have h := h.2 c7
                refine ⟨fun c8 => ?_, fun c8 => ?_⟩
                · have h := h.1 c8
                  intro _
                  show z_U X 3 m_M_simplest 14 [(0, (2, 0)), (1, (0, a1)), (2, (0, a2)), (3, (0, a3)), (4, (0, a4))] [(0, 0)] N σ g Q
                  refine z_if_ne (tgt := 23) d_M_simplest_14 (by decide) (fun c => absurd (by decide) c) (fun _ => ?_)
                  refine z_aload_n (i := 0) (c := 0) 0 d_M_simplest_17 rfl rfl rfl ?_
                  refine z_iconst (n := 1) d_M_simplest_18 (by decide) ?_
                  refine z_cV (c := 0) (as := [(0, 1)]) (d' := 1) (st := []) d_M_simplest_19 mi_M_is ml_M_94 mv_M_is se_M_is rfl rfl rfl rfl (ks_M_0 hx) rfl rfl (kl_M_0 hx) rfl rfl (b_M_is_0 hx ?_)
                  refine ⟨fun c => absurd c (by decide), fun _ => ?_⟩
                  intro _
                  show z_U X 3 m_M_simplest 22 [(0, (2, 0)), (1, (0, a1)), (2, (0, a2)), (3, (0, a3)), (4, (0, a4))] [(0, 0)] N σ (z_up g 0 1 1) Q
                  exact z_zret d_M_simplest_22 rfl (by decide) (by decide) (by decide) ⟨rfl, rfl, h⟩
                · have h := h.2 c8
                  intro _
                  show z_U X 3 m_M_simplest 14 [(0, (2, 0)), (1, (0, a1)), (2, (0, a2)), (3, (0, a3)), (4, (0, a4))] [(0, 1)] N σ g Q
                  refine z_if_ne (tgt := 23) d_M_simplest_14 (by decide) (fun _ => ?_) (fun c => absurd c (by decide))
                  refine z_iload_n (i := 1) 1 d_M_simplest_23 rfl rfl ?_
                  refine z_iload 4 d_M_simplest_24 rfl ?_
                  obtain ⟨c9, h⟩ := h
                  refine z_imul d_M_simplest_26 c9 ?_
                  refine z_iload_n (i := 3) 3 d_M_simplest_27 rfl rfl ?_
                  refine z_iload_n (i := 2) 2 d_M_simplest_28 rfl rfl ?_
                  obtain ⟨c10, h⟩ := h
                  refine z_imul d_M_simplest_29 c10 ?_
                  obtain ⟨c11, h⟩ := h
                  refine z_isub d_M_simplest_30 c11 ?_
                  refine z_istore (ls' := [(5, (0, (a1 * a4) - (a3 * a2))), (0, (2, 0)), (1, (0, a1)), (2, (0, a2)), (3, (0, a3)), (4, (0, a4))]) d_M_simplest_31 rfl rfl ?_
                  refine z_iload 0 d_M_simplest_33 rfl ?_
                  refine z_if_ne (tgt := 45) d_M_simplest_35 (by decide) (fun c12 => ?_) (fun c12 => ?_)
                  · have h := h.2 c12
                    refine z_iload 0 d_M_simplest_45 rfl ?_
                    refine z_if_ge (tgt := 54) d_M_simplest_47 (by decide) (fun c13 => ?_) (fun c13 => ?_)
                    · have h := h.1 c13
                      refine z_iload_n (i := 3) 4 d_M_simplest_54 rfl rfl ?_
                      refine z_istore (ls' := [(6, (0, a3)), (5, (0, (a1 * a4) - (a3 * a2))), (0, (2, 0)), (1, (0, a1)), (2, (0, a2)), (3, (0, a3)), (4, (0, a4))]) d_M_simplest_55 rfl rfl ?_
                      refine z_iload 1 d_M_simplest_57 rfl ?_
                      refine z_if_ge (tgt := 66) d_M_simplest_59 (by decide) (fun _ => ?_) (fun c => absurd c13 c)
                      refine z_iload 6 d_M_simplest_66 rfl ?_
                      refine z_istore (ls' := [(7, (0, a4)), (6, (0, a3)), (5, (0, (a1 * a4) - (a3 * a2))), (0, (2, 0)), (1, (0, a1)), (2, (0, a2)), (3, (0, a3)), (4, (0, a4))]) d_M_simplest_68 rfl rfl ?_
                      refine z_iload 2 d_M_simplest_70 rfl ?_
                      refine z_if_ge (tgt := 79) d_M_simplest_72 (by decide) (fun _ => ?_) (fun c => absurd c13 c)
                      refine z_iload_n (i := 1) 4 d_M_simplest_79 rfl rfl ?_
                      refine z_istore (ls' := [(8, (0, a1)), (7, (0, a4)), (6, (0, a3)), (5, (0, (a1 * a4) - (a3 * a2))), (0, (2, 0)), (1, (0, a1)), (2, (0, a2)), (3, (0, a3)), (4, (0, a4))]) d_M_simplest_80 rfl rfl ?_
                      refine z_iload 3 d_M_simplest_82 rfl ?_
                      refine z_if_ge (tgt := 92) d_M_simplest_84 (by decide) (fun _ => ?_) (fun c => absurd c13 c)
                      refine z_iload_n (i := 2) 6 d_M_simplest_92 rfl rfl ?_
                      refine z_istore (ls' := [(9, (0, a2)), (8, (0, a1)), (7, (0, a4)), (6, (0, a3)), (5, (0, (a1 * a4) - (a3 * a2))), (0, (2, 0)), (1, (0, a1)), (2, (0, a2)), (3, (0, a3)), (4, (0, a4))]) d_M_simplest_93 rfl rfl ?_
                      refine z_iconst (n := 1) d_M_simplest_95 (by decide) ?_
                      refine z_istore (ls' := [(10, (0, 1)), (9, (0, a2)), (8, (0, a1)), (7, (0, a4)), (6, (0, a3)), (5, (0, (a1 * a4) - (a3 * a2))), (0, (2, 0)), (1, (0, a1)), (2, (0, a2)), (3, (0, a3)), (4, (0, a4))]) d_M_simplest_96 rfl rfl ?_
                      refine z_iload 4 d_M_simplest_98 rfl ?_
                      refine z_iload 3 d_M_simplest_100 rfl ?_
                      obtain ⟨c14, h⟩ := h
                      refine z_idiv d_M_simplest_102 c14 ?_
                      refine z_iconst (n := 1) d_M_simplest_103 (by decide) ?_
                      obtain ⟨c15, h⟩ := h
                      refine z_iadd d_M_simplest_104 c15 ?_
                      refine z_istore (ls' := [(11, (0, (Int.tdiv a3 a4) + 1)), (10, (0, 1)), (9, (0, a2)), (8, (0, a1)), (7, (0, a4)), (6, (0, a3)), (5, (0, (a1 * a4) - (a3 * a2))), (0, (2, 0)), (1, (0, a1)), (2, (0, a2)), (3, (0, a3)), (4, (0, a4))]) d_M_simplest_105 rfl rfl ?_
                      refine z_sub (ls' := [(0, (2, 0)), (6, (0, a3)), (7, (0, a4)), (8, (0, a1)), (9, (0, a2)), (10, (0, 1)), (11, (0, (Int.tdiv a3 a4) + 1))]) [7, 5, 4, 3, 2, 1, 0] rfl ?_
                      exact h
                    · have h := h.2 c13
                      refine z_iload_n (i := 1) 2 d_M_simplest_50 rfl rfl ?_
                      refine z_goto (tgt := 55) d_M_simplest_51 (by decide) ?_
                      refine z_istore (ls' := [(6, (0, a1)), (5, (0, (a1 * a4) - (a3 * a2))), (0, (2, 0)), (1, (0, a1)), (2, (0, a2)), (3, (0, a3)), (4, (0, a4))]) d_M_simplest_55 rfl rfl ?_
                      refine z_iload 1 d_M_simplest_57 rfl ?_
                      refine z_if_ge (tgt := 66) d_M_simplest_59 (by decide) (fun c => absurd c c13) (fun _ => ?_)
                      refine z_iload_n (i := 2) 4 d_M_simplest_62 rfl rfl ?_
                      refine z_goto (tgt := 68) d_M_simplest_63 (by decide) ?_
                      refine z_istore (ls' := [(7, (0, a2)), (6, (0, a1)), (5, (0, (a1 * a4) - (a3 * a2))), (0, (2, 0)), (1, (0, a1)), (2, (0, a2)), (3, (0, a3)), (4, (0, a4))]) d_M_simplest_68 rfl rfl ?_
                      refine z_iload 2 d_M_simplest_70 rfl ?_
                      refine z_if_ge (tgt := 79) d_M_simplest_72 (by decide) (fun c => absurd c c13) (fun _ => ?_)
                      refine z_iload_n (i := 3) 6 d_M_simplest_75 rfl rfl ?_
                      refine z_goto (tgt := 80) d_M_simplest_76 (by decide) ?_
                      refine z_istore (ls' := [(8, (0, a3)), (7, (0, a2)), (6, (0, a1)), (5, (0, (a1 * a4) - (a3 * a2))), (0, (2, 0)), (1, (0, a1)), (2, (0, a2)), (3, (0, a3)), (4, (0, a4))]) d_M_simplest_80 rfl rfl ?_
                      refine z_iload 3 d_M_simplest_82 rfl ?_
                      refine z_if_ge (tgt := 92) d_M_simplest_84 (by decide) (fun c => absurd c c13) (fun _ => ?_)
                      refine z_iload 8 d_M_simplest_87 rfl ?_
                      refine z_goto (tgt := 93) d_M_simplest_89 (by decide) ?_
                      refine z_istore (ls' := [(9, (0, a4)), (8, (0, a3)), (7, (0, a2)), (6, (0, a1)), (5, (0, (a1 * a4) - (a3 * a2))), (0, (2, 0)), (1, (0, a1)), (2, (0, a2)), (3, (0, a3)), (4, (0, a4))]) d_M_simplest_93 rfl rfl ?_
                      refine z_iconst (n := 1) d_M_simplest_95 (by decide) ?_
                      refine z_istore (ls' := [(10, (0, 1)), (9, (0, a4)), (8, (0, a3)), (7, (0, a2)), (6, (0, a1)), (5, (0, (a1 * a4) - (a3 * a2))), (0, (2, 0)), (1, (0, a1)), (2, (0, a2)), (3, (0, a3)), (4, (0, a4))]) d_M_simplest_96 rfl rfl ?_
                      refine z_iload 4 d_M_simplest_98 rfl ?_
                      refine z_iload 3 d_M_simplest_100 rfl ?_
                      obtain ⟨c16, h⟩ := h
                      refine z_idiv d_M_simplest_102 c16 ?_
                      refine z_iconst (n := 1) d_M_simplest_103 (by decide) ?_
                      obtain ⟨c17, h⟩ := h
                      refine z_iadd d_M_simplest_104 c17 ?_
                      refine z_istore (ls' := [(11, (0, (Int.tdiv a1 a2) + 1)), (10, (0, 1)), (9, (0, a4)), (8, (0, a3)), (7, (0, a2)), (6, (0, a1)), (5, (0, (a1 * a4) - (a3 * a2))), (0, (2, 0)), (1, (0, a1)), (2, (0, a2)), (3, (0, a3)), (4, (0, a4))]) d_M_simplest_105 rfl rfl ?_
                      refine z_sub (ls' := [(0, (2, 0)), (6, (0, a1)), (7, (0, a2)), (8, (0, a3)), (9, (0, a4)), (10, (0, 1)), (11, (0, (Int.tdiv a1 a2) + 1))]) [7, 5, 4, 3, 2, 1, 0] rfl ?_
                      exact h
                  · have h := h.1 c12
                    refine z_aload_n (i := 0) (c := 0) 1 d_M_simplest_38 rfl rfl rfl ?_
                    refine z_bipush (n := 7) d_M_simplest_39 (by decide) (by decide) ?_
                    refine z_cV (c := 0) (as := [(0, 7)]) (d' := 1) (st := []) d_M_simplest_41 mi_M_is ml_M_94 mv_M_is se_M_is rfl rfl rfl rfl (ks_M_0 hx) rfl rfl (kl_M_0 hx) rfl rfl (b_M_is_0 hx ?_)
                    refine ⟨fun c => absurd c (by decide), fun _ => ?_⟩
                    intro _
                    show z_U X 3 m_M_simplest 44 [(5, (0, (a1 * a4) - (a3 * a2))), (0, (2, 0)), (1, (0, a1)), (2, (0, a2)), (3, (0, a3)), (4, (0, a4))] [(0, 0)] N σ (z_up g 0 1 7) Q
                    exact z_zret d_M_simplest_44 rfl (by decide) (by decide) (by decide) ⟨rfl, rfl, h⟩
set_option maxRecDepth 8000 in
theorem b_M_simplest_107 {X : z_X} {N : Nat} {σ g : z_G} {Q : z_P} {x6 x7 x8 x9 x10 x11 : Int} (hx : z_lay X N σ 0 z_SM z_RM) (h : (-2147483648 ≤ (x11 * x9) ∧ (x11 * x9) ≤ 2147483647) ∧ ((-2147483648 ≤ (x8 * x10) ∧ (x8 * x10) ≤ 2147483647) ∧ ((((x11 * x9) < (x8 * x10)) → (z_O X 2 m_M_tellsBy [(2, 0), (1, x11), (1, x10)] N σ g (fun r0 g0 => (r0 = 0 ∨ r0 = 1) → Q r0 g0))) ∧ (¬ ((x11 * x9) < (x8 * x10)) → ((-2147483648 ≤ (x10 + 1) ∧ (x10 + 1) ≤ 2147483647) ∧ ((-2147483648 ≤ (x6 * (x10 + 1)) ∧ (x6 * (x10 + 1)) ≤ 2147483647) ∧ ((0 < x7) ∧ ((-2147483648 ≤ ((Int.tdiv (x6 * (x10 + 1)) x7) + 1) ∧ ((Int.tdiv (x6 * (x10 + 1)) x7) + 1) ≤ 2147483647) ∧ L_M_simplest_107 X N σ x6 x7 x8 x9 (x10 + 1) ((Int.tdiv (x6 * (x10 + 1)) x7) + 1) g Q)))))))) : L_M_simplest_107 X N σ x6 x7 x8 x9 x10 x11 g Q := by
  refine z_iload 6 d_M_simplest_107 rfl ?_
  refine z_iload 4 d_M_simplest_109 rfl ?_
  obtain ⟨c1, h⟩ := h
  refine z_imul d_M_simplest_111 c1 ?_
  refine z_iload 3 d_M_simplest_112 rfl ?_
  refine z_iload 5 d_M_simplest_114 rfl ?_
  obtain ⟨c2, h⟩ := h
  refine z_imul d_M_simplest_116 c2 ?_
  refine z_icmp_lt (tgt := 138) d_M_simplest_117 (by decide) (fun c3 => ?_) (fun c3 => ?_)
  · have h := h.1 c3
    refine z_aload_n (i := 0) (c := 0) 0 d_M_simplest_138 rfl rfl rfl ?_
    refine z_iload 6 d_M_simplest_139 rfl ?_
    refine z_i2l d_M_simplest_141 ?_
    refine z_iload 5 d_M_simplest_142 rfl ?_
    refine z_i2l d_M_simplest_144 ?_
    refine z_cV (c := 0) (as := [(1, x11), (1, x10)]) (d' := 2) (st := []) d_M_simplest_145 mi_M_tellsBy ml_M_253 mv_M_tellsBy se_M_tellsBy rfl rfl rfl rfl (ks_M_0 hx) rfl rfl (kl_M_0 hx) rfl rfl (z_Omono h (fun r0 g0 _ h hro => ?_))
    have h := h (z_b01 hro)
    have hzr0 := z_b01 hro
    show z_U X 3 m_M_simplest 148 [(0, (2, 0)), (6, (0, x6)), (7, (0, x7)), (8, (0, x8)), (9, (0, x9)), (10, (0, x10)), (11, (0, x11))] [(0, r0)] N σ g0 Q
    exact z_zret d_M_simplest_148 rfl (by decide) (by decide) hzr0 ⟨rfl, rfl, h⟩
  · have h := h.2 c3
    obtain ⟨c4, h⟩ := h
    refine z_iinc (n := 1) (ls' := [(10, (0, x10 + 1)), (0, (2, 0)), (6, (0, x6)), (7, (0, x7)), (8, (0, x8)), (9, (0, x9)), (11, (0, x11))]) 5 d_M_simplest_120 rfl c4 rfl rfl ?_
    refine z_iload 2 d_M_simplest_123 rfl ?_
    refine z_iload 0 d_M_simplest_125 rfl ?_
    obtain ⟨c5, h⟩ := h
    refine z_imul d_M_simplest_127 c5 ?_
    refine z_iload 3 d_M_simplest_128 rfl ?_
    obtain ⟨c6, h⟩ := h
    refine z_idiv d_M_simplest_130 c6 ?_
    refine z_iconst (n := 1) d_M_simplest_131 (by decide) ?_
    obtain ⟨c7, h⟩ := h
    refine z_iadd d_M_simplest_132 c7 ?_
    refine z_istore (ls' := [(11, (0, (Int.tdiv (x6 * (x10 + 1)) x7) + 1)), (10, (0, x10 + 1)), (0, (2, 0)), (6, (0, x6)), (7, (0, x7)), (8, (0, x8)), (9, (0, x9))]) d_M_simplest_133 rfl rfl ?_
    refine z_goto (tgt := 107) d_M_simplest_135 (by decide) ?_
    refine z_sub (ls' := [(0, (2, 0)), (6, (0, x6)), (7, (0, x7)), (8, (0, x8)), (9, (0, x9)), (10, (0, x10 + 1)), (11, (0, (Int.tdiv (x6 * (x10 + 1)) x7) + 1))]) [2, 3, 4, 5, 6, 1, 0] rfl ?_
    exact h
theorem d_M_size_0 : decode (z_c m_M_size) 0 = .ok (.iload_n 1, 1) := by decide +kernel
theorem d_M_size_1 : decode (z_c m_M_size) 1 = .ok (.i2l, 1) := by decide +kernel
theorem d_M_size_2 : decode (z_c m_M_size) 2 = .ok (.lconst 1, 1) := by decide +kernel
theorem d_M_size_3 : decode (z_c m_M_size) 3 = .ok (.ldc2_w 263, 3) := by decide +kernel
theorem d_M_size_6 : decode (z_c m_M_size) 6 = .ok (.invokestatic 265, 3) := by decide +kernel
theorem d_M_size_9 : decode (z_c m_M_size) 9 = .ok (.ifCond .ne 9, 3) := by decide +kernel
theorem d_M_size_12 : decode (z_c m_M_size) 12 = .ok (.aload_n 0, 1) := by decide +kernel
theorem d_M_size_13 : decode (z_c m_M_size) 13 = .ok (.iconst 1, 1) := by decide +kernel
theorem d_M_size_14 : decode (z_c m_M_size) 14 = .ok (.invokevirtual 87, 3) := by decide +kernel
theorem d_M_size_17 : decode (z_c m_M_size) 17 = .ok (.ireturn, 1) := by decide +kernel
theorem d_M_size_18 : decode (z_c m_M_size) 18 = .ok (.aload_n 0, 1) := by decide +kernel
theorem d_M_size_19 : decode (z_c m_M_size) 19 = .ok (.iload_n 1, 1) := by decide +kernel
theorem d_M_size_20 : decode (z_c m_M_size) 20 = .ok (.invokevirtual 247, 3) := by decide +kernel
theorem d_M_size_23 : decode (z_c m_M_size) 23 = .ok (.aload_n 0, 1) := by decide +kernel
theorem d_M_size_24 : decode (z_c m_M_size) 24 = .ok (.aload_n 0, 1) := by decide +kernel
theorem d_M_size_25 : decode (z_c m_M_size) 25 = .ok (.getfield 237, 3) := by decide +kernel
theorem d_M_size_28 : decode (z_c m_M_size) 28 = .ok (.invokevirtual 91, 3) := by decide +kernel
theorem d_M_size_31 : decode (z_c m_M_size) 31 = .ok (.ireturn, 1) := by decide +kernel
set_option maxRecDepth 8000 in
theorem b_M_size_0 {X : z_X} {N : Nat} {σ g : z_G} {Q : z_P} {a1 : Int} (hx : z_lay X N σ 0 z_SM z_RM) (h : ((a1 < 1) → Q (-1) (z_up g 0 1 1)) ∧ (¬ (a1 < 1) → (((200 < a1) → Q (-1) (z_up g 0 1 1)) ∧ (¬ (200 < a1) → (z_O X 2 m_M_lays [(2, 0), (0, a1)] N σ g (fun r0 g0 => Q (g0 0 24) (z_up g0 0 1 0))))))) : z_O X 3 m_M_size [(2, 0), (0, a1)] N σ g Q := by
  refine z_Oenter mi_M_size rfl (fun _ => ?_)
  show z_U X 3 m_M_size 0 [(0, (2, 0)), (1, (0, a1))] [] N σ g Q
  refine z_iload_n (i := 1) 1 d_M_size_0 rfl rfl ?_
  refine z_i2l d_M_size_1 ?_
  refine z_lconst (v := 1) d_M_size_2 (by decide) (by decide) ?_
  refine z_ldc2 (v := 200) d_M_size_3 kc_M_263 (by decide) ?_
  refine z_cS (as := [(1, a1), (1, 1), (1, 200)]) (d' := 1) (st := []) d_M_size_6 mi_M_isFrom ml_M_265 ms_M_isFrom rfl rfl rfl rfl rfl (b_M_isFrom_0  ?_)
  refine ⟨fun c1 => ?_, fun c1 => ?_⟩
  · have h := h.1 c1
    intro _
    show z_U X 3 m_M_size 9 [(0, (2, 0)), (1, (0, a1))] [(0, 0)] N σ g Q
    refine z_if_ne (tgt := 18) d_M_size_9 (by decide) (fun c => absurd (by decide) c) (fun _ => ?_)
    refine z_aload_n (i := 0) (c := 0) 0 d_M_size_12 rfl rfl rfl ?_
    refine z_iconst (n := 1) d_M_size_13 (by decide) ?_
    refine z_cV (c := 0) (as := [(0, 1)]) (d' := 1) (st := []) d_M_size_14 mi_M_refuse ml_M_87 mv_M_refuse se_M_refuse rfl rfl rfl rfl (ks_M_0 hx) rfl rfl (kl_M_0 hx) rfl rfl (b_M_refuse_0 hx ?_)
    intro _
    show z_U X 3 m_M_size 17 [(0, (2, 0)), (1, (0, a1))] [(0, (-1))] N σ (z_up g 0 1 1) Q
    exact z_iret d_M_size_17 rfl (by decide) (by decide) ⟨rfl, rfl, h⟩
  · have h := h.2 c1
    refine ⟨fun c2 => ?_, fun c2 => ?_⟩
    · have h := h.1 c2
      intro _
      show z_U X 3 m_M_size 9 [(0, (2, 0)), (1, (0, a1))] [(0, 0)] N σ g Q
      refine z_if_ne (tgt := 18) d_M_size_9 (by decide) (fun c => absurd (by decide) c) (fun _ => ?_)
      refine z_aload_n (i := 0) (c := 0) 0 d_M_size_12 rfl rfl rfl ?_
      refine z_iconst (n := 1) d_M_size_13 (by decide) ?_
      refine z_cV (c := 0) (as := [(0, 1)]) (d' := 1) (st := []) d_M_size_14 mi_M_refuse ml_M_87 mv_M_refuse se_M_refuse rfl rfl rfl rfl (ks_M_0 hx) rfl rfl (kl_M_0 hx) rfl rfl (b_M_refuse_0 hx ?_)
      intro _
      show z_U X 3 m_M_size 17 [(0, (2, 0)), (1, (0, a1))] [(0, (-1))] N σ (z_up g 0 1 1) Q
      exact z_iret d_M_size_17 rfl (by decide) (by decide) ⟨rfl, rfl, h⟩
    · have h := h.2 c2
      intro _
      show z_U X 3 m_M_size 9 [(0, (2, 0)), (1, (0, a1))] [(0, 1)] N σ g Q
      refine z_if_ne (tgt := 18) d_M_size_9 (by decide) (fun _ => ?_) (fun c => absurd c (by decide))
      refine z_aload_n (i := 0) (c := 0) 0 d_M_size_18 rfl rfl rfl ?_
      refine z_iload_n (i := 1) 1 d_M_size_19 rfl rfl ?_
      refine z_cV (c := 0) (as := [(0, a1)]) (d' := 2) (st := []) d_M_size_20 mi_M_lays ml_M_247 mv_M_lays se_M_lays rfl rfl rfl rfl (ks_M_0 hx) rfl rfl (kl_M_0 hx) rfl rfl (z_Omono h (fun r0 g0 _ h hro => ?_))
      show z_U X 3 m_M_size 23 [(0, (2, 0)), (1, (0, a1))] [] N σ g0 Q
      refine z_aload_n (i := 0) (c := 0) 0 d_M_size_23 rfl rfl rfl ?_
      refine z_aload_n (i := 0) (c := 0) 0 d_M_size_24 rfl rfl rfl ?_
      refine z_geti (c := 0) (kI := 24) d_M_size_25 fd_M_many fl_M_237 (Or.inl rfl) rfl rfl (ks_M_0 hx) (kl_M_0 hx) ?_
      refine z_cV (c := 0) (as := [(0, g0 0 24)]) (d' := 1) (st := []) d_M_size_28 mi_M_gives ml_M_91 mv_M_gives se_M_gives rfl rfl rfl rfl (ks_M_0 hx) rfl rfl (kl_M_0 hx) rfl rfl (b_M_gives_0 hx ?_)
      intro _
      show z_U X 3 m_M_size 31 [(0, (2, 0)), (1, (0, a1))] [(0, g0 0 24)] N σ (z_up g0 0 1 0) Q
      exact z_iret d_M_size_31 rfl (by decide) (by decide) ⟨rfl, rfl, h⟩
theorem d_M_tellsPin_0 : decode (z_c m_M_tellsPin) 0 = .ok (.iload_n 1, 1) := by decide +kernel
theorem d_M_tellsPin_1 : decode (z_c m_M_tellsPin) 1 = .ok (.iconst (-1), 1) := by decide +kernel
theorem d_M_tellsPin_2 : decode (z_c m_M_tellsPin) 2 = .ok (.if_icmp .ne 12, 3) := by decide +kernel
theorem d_M_tellsPin_5 : decode (z_c m_M_tellsPin) 5 = .ok (.aload_n 0, 1) := by decide +kernel
theorem d_M_tellsPin_6 : decode (z_c m_M_tellsPin) 6 = .ok (.bipush 6, 2) := by decide +kernel
theorem d_M_tellsPin_8 : decode (z_c m_M_tellsPin) 8 = .ok (.invokevirtual 94, 3) := by decide +kernel
theorem d_M_tellsPin_11 : decode (z_c m_M_tellsPin) 11 = .ok (.goto 19, 3) := by decide +kernel
theorem d_M_tellsPin_14 : decode (z_c m_M_tellsPin) 14 = .ok (.aload_n 0, 1) := by decide +kernel
theorem d_M_tellsPin_15 : decode (z_c m_M_tellsPin) 15 = .ok (.aload_n 0, 1) := by decide +kernel
theorem d_M_tellsPin_16 : decode (z_c m_M_tellsPin) 16 = .ok (.iload_n 1, 1) := by decide +kernel
theorem d_M_tellsPin_17 : decode (z_c m_M_tellsPin) 17 = .ok (.invokevirtual 366, 3) := by decide +kernel
theorem d_M_tellsPin_20 : decode (z_c m_M_tellsPin) 20 = .ok (.i2l, 1) := by decide +kernel
theorem d_M_tellsPin_21 : decode (z_c m_M_tellsPin) 21 = .ok (.aload_n 0, 1) := by decide +kernel
theorem d_M_tellsPin_22 : decode (z_c m_M_tellsPin) 22 = .ok (.iload_n 1, 1) := by decide +kernel
theorem d_M_tellsPin_23 : decode (z_c m_M_tellsPin) 23 = .ok (.invokevirtual 369, 3) := by decide +kernel
theorem d_M_tellsPin_26 : decode (z_c m_M_tellsPin) 26 = .ok (.i2l, 1) := by decide +kernel
theorem d_M_tellsPin_27 : decode (z_c m_M_tellsPin) 27 = .ok (.invokevirtual 253, 3) := by decide +kernel
theorem d_M_tellsPin_30 : decode (z_c m_M_tellsPin) 30 = .ok (.ireturn, 1) := by decide +kernel
set_option maxRecDepth 8000 in
theorem b_M_tellsPin_0 {X : z_X} {N : Nat} {σ g : z_G} {Q : z_P} {a1 : Int} (hx : z_lay X N σ 0 z_SM z_RM) (h : ((a1 = (-1)) → Q 0 (z_up g 0 1 6)) ∧ (¬ (a1 = (-1)) → ((-2147483648 ≤ (3 * a1) ∧ (3 * a1) ≤ 2147483647) ∧ ((-2147483648 ≤ (10 + (3 * a1)) ∧ (10 + (3 * a1)) ≤ 2147483647) ∧ ((0 ≤ (10 + (3 * a1)) ∧ (10 + (3 * a1)) < 3296) ∧ ((-2147483648 ≤ ((10 + (3 * a1)) + 1) ∧ ((10 + (3 * a1)) + 1) ≤ 2147483647) ∧ ((0 ≤ ((10 + (3 * a1)) + 1) ∧ ((10 + (3 * a1)) + 1) < 3296) ∧ (z_O X 2 m_M_tellsBy [(2, 0), (1, g 1 (10 + (3 * a1))), (1, g 1 ((10 + (3 * a1)) + 1))] N σ g (fun r0 g0 => (r0 = 0 ∨ r0 = 1) → Q r0 g0))))))))) : z_O X 3 m_M_tellsPin [(2, 0), (0, a1)] N σ g Q := by
  refine z_Oenter mi_M_tellsPin rfl (fun _ => ?_)
  show z_U X 3 m_M_tellsPin 0 [(0, (2, 0)), (1, (0, a1))] [] N σ g Q
  refine z_iload_n (i := 1) 1 d_M_tellsPin_0 rfl rfl ?_
  refine z_iconst (n := (-1)) d_M_tellsPin_1 (by decide) ?_
  refine z_icmp_ne (tgt := 14) d_M_tellsPin_2 (by decide) (fun c1 => ?_) (fun c1 => ?_)
  · have h := h.2 c1
    refine z_aload_n (i := 0) (c := 0) 0 d_M_tellsPin_14 rfl rfl rfl ?_
    refine z_aload_n (i := 0) (c := 0) 0 d_M_tellsPin_15 rfl rfl rfl ?_
    refine z_iload_n (i := 1) 1 d_M_tellsPin_16 rfl rfl ?_
    refine z_cV (c := 0) (as := [(0, a1)]) (d' := 2) (st := [(2, 0)]) d_M_tellsPin_17 mi_M_topOf ml_M_366 mv_M_topOf se_M_topOf rfl rfl rfl rfl (ks_M_0 hx) rfl rfl (kl_M_0 hx) rfl rfl (b_M_topOf_0 hx ?_)
    obtain ⟨c2, h⟩ := h
    refine ⟨c2, ?_⟩
    obtain ⟨c3, h⟩ := h
    refine ⟨c3, ?_⟩
    obtain ⟨c4, h⟩ := h
    refine ⟨c4, ?_⟩
    intro _
    show z_U X 3 m_M_tellsPin 20 [(0, (2, 0)), (1, (0, a1))] [(0, g 1 (10 + (3 * a1))), (2, 0)] N σ g Q
    refine z_i2l d_M_tellsPin_20 ?_
    refine z_aload_n (i := 0) (c := 0) 0 d_M_tellsPin_21 rfl rfl rfl ?_
    refine z_iload_n (i := 1) 1 d_M_tellsPin_22 rfl rfl ?_
    refine z_cV (c := 0) (as := [(0, a1)]) (d' := 2) (st := [(1, g 1 (10 + (3 * a1))), (2, 0)]) d_M_tellsPin_23 mi_M_bottomOf ml_M_369 mv_M_bottomOf se_M_bottomOf rfl rfl rfl rfl (ks_M_0 hx) rfl rfl (kl_M_0 hx) rfl rfl (b_M_bottomOf_0 hx ?_)
    refine ⟨c2, ?_⟩
    refine ⟨c3, ?_⟩
    obtain ⟨c5, h⟩ := h
    refine ⟨c5, ?_⟩
    obtain ⟨c6, h⟩ := h
    refine ⟨c6, ?_⟩
    intro _
    show z_U X 3 m_M_tellsPin 26 [(0, (2, 0)), (1, (0, a1))] [(0, g 1 ((10 + (3 * a1)) + 1)), (1, g 1 (10 + (3 * a1))), (2, 0)] N σ g Q
    refine z_i2l d_M_tellsPin_26 ?_
    refine z_cV (c := 0) (as := [(1, g 1 (10 + (3 * a1))), (1, g 1 ((10 + (3 * a1)) + 1))]) (d' := 2) (st := []) d_M_tellsPin_27 mi_M_tellsBy ml_M_253 mv_M_tellsBy se_M_tellsBy rfl rfl rfl rfl (ks_M_0 hx) rfl rfl (kl_M_0 hx) rfl rfl (z_Omono h (fun r0 g0 _ h hro => ?_))
    have h := h (z_b01 hro)
    have hzr0 := z_b01 hro
    show z_U X 3 m_M_tellsPin 30 [(0, (2, 0)), (1, (0, a1))] [(0, r0)] N σ g0 Q
    exact z_zret d_M_tellsPin_30 rfl (by decide) (by decide) hzr0 ⟨rfl, rfl, h⟩
  · have h := h.1 c1
    refine z_aload_n (i := 0) (c := 0) 0 d_M_tellsPin_5 rfl rfl rfl ?_
    refine z_bipush (n := 6) d_M_tellsPin_6 (by decide) (by decide) ?_
    refine z_cV (c := 0) (as := [(0, 6)]) (d' := 1) (st := []) d_M_tellsPin_8 mi_M_is ml_M_94 mv_M_is se_M_is rfl rfl rfl rfl (ks_M_0 hx) rfl rfl (kl_M_0 hx) rfl rfl (b_M_is_0 hx ?_)
    refine ⟨fun c => absurd c (by decide), fun _ => ?_⟩
    intro _
    show z_U X 3 m_M_tellsPin 11 [(0, (2, 0)), (1, (0, a1))] [(0, 0)] N σ (z_up g 0 1 6) Q
    refine z_goto (tgt := 30) d_M_tellsPin_11 (by decide) ?_
    exact z_zret d_M_tellsPin_30 rfl (by decide) (by decide) (by decide) ⟨rfl, rfl, h⟩
theorem d_M_tellsRow_0 : decode (z_c m_M_tellsRow) 0 = .ok (.iload_n 1, 1) := by decide +kernel
theorem d_M_tellsRow_1 : decode (z_c m_M_tellsRow) 1 = .ok (.ifCond .lt 11, 3) := by decide +kernel
theorem d_M_tellsRow_4 : decode (z_c m_M_tellsRow) 4 = .ok (.iload_n 1, 1) := by decide +kernel
theorem d_M_tellsRow_5 : decode (z_c m_M_tellsRow) 5 = .ok (.aload_n 0, 1) := by decide +kernel
theorem d_M_tellsRow_6 : decode (z_c m_M_tellsRow) 6 = .ok (.getfield 237, 3) := by decide +kernel
theorem d_M_tellsRow_9 : decode (z_c m_M_tellsRow) 9 = .ok (.if_icmp .lt 12, 3) := by decide +kernel
theorem d_M_tellsRow_12 : decode (z_c m_M_tellsRow) 12 = .ok (.aload_n 0, 1) := by decide +kernel
theorem d_M_tellsRow_13 : decode (z_c m_M_tellsRow) 13 = .ok (.bipush 6, 2) := by decide +kernel
theorem d_M_tellsRow_15 : decode (z_c m_M_tellsRow) 15 = .ok (.invokevirtual 94, 3) := by decide +kernel
theorem d_M_tellsRow_18 : decode (z_c m_M_tellsRow) 18 = .ok (.goto 21, 3) := by decide +kernel
theorem d_M_tellsRow_21 : decode (z_c m_M_tellsRow) 21 = .ok (.aload_n 0, 1) := by decide +kernel
theorem d_M_tellsRow_22 : decode (z_c m_M_tellsRow) 22 = .ok (.aload_n 0, 1) := by decide +kernel
theorem d_M_tellsRow_23 : decode (z_c m_M_tellsRow) 23 = .ok (.getfield 44, 3) := by decide +kernel
theorem d_M_tellsRow_26 : decode (z_c m_M_tellsRow) 26 = .ok (.iload_n 1, 1) := by decide +kernel
theorem d_M_tellsRow_27 : decode (z_c m_M_tellsRow) 27 = .ok (.iaload, 1) := by decide +kernel
theorem d_M_tellsRow_28 : decode (z_c m_M_tellsRow) 28 = .ok (.i2l, 1) := by decide +kernel
theorem d_M_tellsRow_29 : decode (z_c m_M_tellsRow) 29 = .ok (.aload_n 0, 1) := by decide +kernel
theorem d_M_tellsRow_30 : decode (z_c m_M_tellsRow) 30 = .ok (.getfield 47, 3) := by decide +kernel
theorem d_M_tellsRow_33 : decode (z_c m_M_tellsRow) 33 = .ok (.iload_n 1, 1) := by decide +kernel
theorem d_M_tellsRow_34 : decode (z_c m_M_tellsRow) 34 = .ok (.iaload, 1) := by decide +kernel
theorem d_M_tellsRow_35 : decode (z_c m_M_tellsRow) 35 = .ok (.i2l, 1) := by decide +kernel
theorem d_M_tellsRow_36 : decode (z_c m_M_tellsRow) 36 = .ok (.invokevirtual 253, 3) := by decide +kernel
theorem d_M_tellsRow_39 : decode (z_c m_M_tellsRow) 39 = .ok (.ireturn, 1) := by decide +kernel
set_option maxRecDepth 8000 in
theorem b_M_tellsRow_0 {X : z_X} {N : Nat} {σ g : z_G} {Q : z_P} {a1 : Int} (hx : z_lay X N σ 0 z_SM z_RM) (h : ((a1 < 0) → Q 0 (z_up g 0 1 6)) ∧ (¬ (a1 < 0) → (((a1 < (g 0 24)) → ((0 ≤ a1 ∧ a1 < 12233) ∧ (z_O X 2 m_M_tellsBy [(2, 0), (1, g 8 a1), (1, g 9 a1)] N σ g (fun r0 g0 => (r0 = 0 ∨ r0 = 1) → Q r0 g0)))) ∧ (¬ (a1 < (g 0 24)) → Q 0 (z_up g 0 1 6))))) : z_O X 3 m_M_tellsRow [(2, 0), (0, a1)] N σ g Q := by
  refine z_Oenter mi_M_tellsRow rfl (fun _ => ?_)
  show z_U X 3 m_M_tellsRow 0 [(0, (2, 0)), (1, (0, a1))] [] N σ g Q
  refine z_iload_n (i := 1) 1 d_M_tellsRow_0 rfl rfl ?_
  refine z_if_lt (tgt := 12) d_M_tellsRow_1 (by decide) (fun c1 => ?_) (fun c1 => ?_)
  · have h := h.1 c1
    refine z_aload_n (i := 0) (c := 0) 0 d_M_tellsRow_12 rfl rfl rfl ?_
    refine z_bipush (n := 6) d_M_tellsRow_13 (by decide) (by decide) ?_
    refine z_cV (c := 0) (as := [(0, 6)]) (d' := 1) (st := []) d_M_tellsRow_15 mi_M_is ml_M_94 mv_M_is se_M_is rfl rfl rfl rfl (ks_M_0 hx) rfl rfl (kl_M_0 hx) rfl rfl (b_M_is_0 hx ?_)
    refine ⟨fun c => absurd c (by decide), fun _ => ?_⟩
    intro _
    show z_U X 3 m_M_tellsRow 18 [(0, (2, 0)), (1, (0, a1))] [(0, 0)] N σ (z_up g 0 1 6) Q
    refine z_goto (tgt := 39) d_M_tellsRow_18 (by decide) ?_
    exact z_zret d_M_tellsRow_39 rfl (by decide) (by decide) (by decide) ⟨rfl, rfl, h⟩
  · have h := h.2 c1
    refine z_iload_n (i := 1) 1 d_M_tellsRow_4 rfl rfl ?_
    refine z_aload_n (i := 0) (c := 0) 0 d_M_tellsRow_5 rfl rfl rfl ?_
    refine z_geti (c := 0) (kI := 24) d_M_tellsRow_6 fd_M_many fl_M_237 (Or.inl rfl) rfl rfl (ks_M_0 hx) (kl_M_0 hx) ?_
    refine z_icmp_lt (tgt := 21) d_M_tellsRow_9 (by decide) (fun c2 => ?_) (fun c2 => ?_)
    · have h := h.1 c2
      refine z_aload_n (i := 0) (c := 0) 0 d_M_tellsRow_21 rfl rfl rfl ?_
      refine z_aload_n (i := 0) (c := 0) 0 d_M_tellsRow_22 rfl rfl rfl ?_
      refine z_getr (c := 0) (kI := 22) (r2 := 8) d_M_tellsRow_23 fd_M_topBy fl_M_44 rfl rfl rfl (ks_M_0 hx) (kl_M_0 hx) (kr_M_0_22 hx) ?_
      refine z_iload_n (i := 1) 1 d_M_tellsRow_26 rfl rfl ?_
      obtain ⟨c3, h⟩ := h
      refine z_iald (c := 8) (m := 12233) d_M_tellsRow_27 rfl (ks_M_8 hx) (kl_M_8 hx) rfl (by decide) c3 ?_
      refine z_i2l d_M_tellsRow_28 ?_
      refine z_aload_n (i := 0) (c := 0) 0 d_M_tellsRow_29 rfl rfl rfl ?_
      refine z_getr (c := 0) (kI := 23) (r2 := 9) d_M_tellsRow_30 fd_M_bottomBy fl_M_47 rfl rfl rfl (ks_M_0 hx) (kl_M_0 hx) (kr_M_0_23 hx) ?_
      refine z_iload_n (i := 1) 1 d_M_tellsRow_33 rfl rfl ?_
      refine z_iald (c := 9) (m := 12233) d_M_tellsRow_34 rfl (ks_M_9 hx) (kl_M_9 hx) rfl (by decide) c3 ?_
      refine z_i2l d_M_tellsRow_35 ?_
      refine z_cV (c := 0) (as := [(1, g 8 a1), (1, g 9 a1)]) (d' := 2) (st := []) d_M_tellsRow_36 mi_M_tellsBy ml_M_253 mv_M_tellsBy se_M_tellsBy rfl rfl rfl rfl (ks_M_0 hx) rfl rfl (kl_M_0 hx) rfl rfl (z_Omono h (fun r0 g0 _ h hro => ?_))
      have h := h (z_b01 hro)
      have hzr0 := z_b01 hro
      show z_U X 3 m_M_tellsRow 39 [(0, (2, 0)), (1, (0, a1))] [(0, r0)] N σ g0 Q
      exact z_zret d_M_tellsRow_39 rfl (by decide) (by decide) hzr0 ⟨rfl, rfl, h⟩
    · have h := h.2 c2
      refine z_aload_n (i := 0) (c := 0) 0 d_M_tellsRow_12 rfl rfl rfl ?_
      refine z_bipush (n := 6) d_M_tellsRow_13 (by decide) (by decide) ?_
      refine z_cV (c := 0) (as := [(0, 6)]) (d' := 1) (st := []) d_M_tellsRow_15 mi_M_is ml_M_94 mv_M_is se_M_is rfl rfl rfl rfl (ks_M_0 hx) rfl rfl (kl_M_0 hx) rfl rfl (b_M_is_0 hx ?_)
      refine ⟨fun c => absurd c (by decide), fun _ => ?_⟩
      intro _
      show z_U X 3 m_M_tellsRow 18 [(0, (2, 0)), (1, (0, a1))] [(0, 0)] N σ (z_up g 0 1 6) Q
      refine z_goto (tgt := 39) d_M_tellsRow_18 (by decide) ?_
      exact z_zret d_M_tellsRow_39 rfl (by decide) (by decide) (by decide) ⟨rfl, rfl, h⟩
theorem d_M_wantSign_0 : decode (z_c m_M_wantSign) 0 = .ok (.aload_n 0, 1) := by decide +kernel
theorem d_M_wantSign_1 : decode (z_c m_M_wantSign) 1 = .ok (.iload_n 1, 1) := by decide +kernel
theorem d_M_wantSign_2 : decode (z_c m_M_wantSign) 2 = .ok (.invokevirtual 163, 3) := by decide +kernel
theorem d_M_wantSign_5 : decode (z_c m_M_wantSign) 5 = .ok (.ifCond .ne 9, 3) := by decide +kernel
theorem d_M_wantSign_8 : decode (z_c m_M_wantSign) 8 = .ok (.aload_n 0, 1) := by decide +kernel
theorem d_M_wantSign_9 : decode (z_c m_M_wantSign) 9 = .ok (.iconst 2, 1) := by decide +kernel
theorem d_M_wantSign_10 : decode (z_c m_M_wantSign) 10 = .ok (.invokevirtual 166, 3) := by decide +kernel
theorem d_M_wantSign_13 : decode (z_c m_M_wantSign) 13 = .ok (.ireturn, 1) := by decide +kernel
theorem d_M_wantSign_14 : decode (z_c m_M_wantSign) 14 = .ok (.aload_n 0, 1) := by decide +kernel
theorem d_M_wantSign_15 : decode (z_c m_M_wantSign) 15 = .ok (.invokevirtual 160, 3) := by decide +kernel
theorem d_M_wantSign_18 : decode (z_c m_M_wantSign) 18 = .ok (.iconst 1, 1) := by decide +kernel
theorem d_M_wantSign_19 : decode (z_c m_M_wantSign) 19 = .ok (.ireturn, 1) := by decide +kernel
set_option maxRecDepth 8000 in
theorem b_M_wantSign_0 {X : z_X} {N : Nat} {σ g : z_G} {Q : z_P} {a1 : Int} (hx : z_lay X N σ 0 z_SM z_RM) (h : (((g 0 11) = 4) → ((((g 0 14) = a1) → (z_O X 2 m_M_nextToken [(2, 0)] N σ g (fun r0 g0 => Q 1 g0))) ∧ (¬ ((g 0 14) = a1) → (z_O X 1 m_M_fails [(2, 0), (0, 2)] N σ g (fun r1 g1 => (r1 = 0 ∨ r1 = 1) → Q r1 g1))))) ∧ (¬ ((g 0 11) = 4) → (z_O X 1 m_M_fails [(2, 0), (0, 2)] N σ g (fun r2 g2 => (r2 = 0 ∨ r2 = 1) → Q r2 g2)))) : z_O X 3 m_M_wantSign [(2, 0), (0, a1)] N σ g Q := by
  refine z_Oenter mi_M_wantSign rfl (fun _ => ?_)
  show z_U X 3 m_M_wantSign 0 [(0, (2, 0)), (1, (0, a1))] [] N σ g Q
  refine z_aload_n (i := 0) (c := 0) 0 d_M_wantSign_0 rfl rfl rfl ?_
  refine z_iload_n (i := 1) 1 d_M_wantSign_1 rfl rfl ?_
  refine z_cV (c := 0) (as := [(0, a1)]) (d' := 1) (st := []) d_M_wantSign_2 mi_M_isSign ml_M_163 mv_M_isSign se_M_isSign rfl rfl rfl rfl (ks_M_0 hx) rfl rfl (kl_M_0 hx) rfl rfl (b_M_isSign_0 hx ?_)
  refine ⟨fun c1 => ?_, fun c1 => ?_⟩
  · have h := h.1 c1
    refine ⟨fun c2 => ?_, fun c2 => ?_⟩
    · have h := h.1 c2
      intro _
      show z_U X 3 m_M_wantSign 5 [(0, (2, 0)), (1, (0, a1))] [(0, 1)] N σ g Q
      refine z_if_ne (tgt := 14) d_M_wantSign_5 (by decide) (fun _ => ?_) (fun c => absurd c (by decide))
      refine z_aload_n (i := 0) (c := 0) 0 d_M_wantSign_14 rfl rfl rfl ?_
      refine z_cV (c := 0) (as := []) (d' := 2) (st := []) d_M_wantSign_15 mi_M_nextToken ml_M_160 mv_M_nextToken se_M_nextToken rfl rfl rfl rfl (ks_M_0 hx) rfl rfl (kl_M_0 hx) rfl rfl (z_Omono h (fun r0 g0 _ h hro => ?_))
      show z_U X 3 m_M_wantSign 18 [(0, (2, 0)), (1, (0, a1))] [] N σ g0 Q
      refine z_iconst (n := 1) d_M_wantSign_18 (by decide) ?_
      exact z_zret d_M_wantSign_19 rfl (by decide) (by decide) (by decide) ⟨rfl, rfl, h⟩
    · have h := h.2 c2
      intro _
      show z_U X 3 m_M_wantSign 5 [(0, (2, 0)), (1, (0, a1))] [(0, 0)] N σ g Q
      refine z_if_ne (tgt := 14) d_M_wantSign_5 (by decide) (fun c => absurd (by decide) c) (fun _ => ?_)
      refine z_aload_n (i := 0) (c := 0) 0 d_M_wantSign_8 rfl rfl rfl ?_
      refine z_iconst (n := 2) d_M_wantSign_9 (by decide) ?_
      refine z_cV (c := 0) (as := [(0, 2)]) (d' := 1) (st := []) d_M_wantSign_10 mi_M_fails ml_M_166 mv_M_fails se_M_fails rfl rfl rfl rfl (ks_M_0 hx) rfl rfl (kl_M_0 hx) rfl rfl (z_Omono h (fun r1 g1 _ h hro => ?_))
      have h := h (z_b01 hro)
      have hzr1 := z_b01 hro
      show z_U X 3 m_M_wantSign 13 [(0, (2, 0)), (1, (0, a1))] [(0, r1)] N σ g1 Q
      exact z_zret d_M_wantSign_13 rfl (by decide) (by decide) hzr1 ⟨rfl, rfl, h⟩
  · have h := h.2 c1
    intro _
    show z_U X 3 m_M_wantSign 5 [(0, (2, 0)), (1, (0, a1))] [(0, 0)] N σ g Q
    refine z_if_ne (tgt := 14) d_M_wantSign_5 (by decide) (fun c => absurd (by decide) c) (fun _ => ?_)
    refine z_aload_n (i := 0) (c := 0) 0 d_M_wantSign_8 rfl rfl rfl ?_
    refine z_iconst (n := 2) d_M_wantSign_9 (by decide) ?_
    refine z_cV (c := 0) (as := [(0, 2)]) (d' := 1) (st := []) d_M_wantSign_10 mi_M_fails ml_M_166 mv_M_fails se_M_fails rfl rfl rfl rfl (ks_M_0 hx) rfl rfl (kl_M_0 hx) rfl rfl (z_Omono h (fun r2 g2 _ h hro => ?_))
    have h := h (z_b01 hro)
    have hzr2 := z_b01 hro
    show z_U X 3 m_M_wantSign 13 [(0, (2, 0)), (1, (0, a1))] [(0, r2)] N σ g2 Q
    exact z_zret d_M_wantSign_13 rfl (by decide) (by decide) hzr2 ⟨rfl, rfl, h⟩
theorem d_M_weight_0 : decode (z_c m_M_weight) 0 = .ok (.iload_n 1, 1) := by decide +kernel
theorem d_M_weight_1 : decode (z_c m_M_weight) 1 = .ok (.iload_n 2, 1) := by decide +kernel
theorem d_M_weight_2 : decode (z_c m_M_weight) 2 = .ok (.invokestatic 272, 3) := by decide +kernel
theorem d_M_weight_5 : decode (z_c m_M_weight) 5 = .ok (.ifCond .ne 9, 3) := by decide +kernel
theorem d_M_weight_8 : decode (z_c m_M_weight) 8 = .ok (.aload_n 0, 1) := by decide +kernel
theorem d_M_weight_9 : decode (z_c m_M_weight) 9 = .ok (.iconst 1, 1) := by decide +kernel
theorem d_M_weight_10 : decode (z_c m_M_weight) 10 = .ok (.invokevirtual 87, 3) := by decide +kernel
theorem d_M_weight_13 : decode (z_c m_M_weight) 13 = .ok (.ireturn, 1) := by decide +kernel
theorem d_M_weight_14 : decode (z_c m_M_weight) 14 = .ok (.aload_n 0, 1) := by decide +kernel
theorem d_M_weight_15 : decode (z_c m_M_weight) 15 = .ok (.iload_n 1, 1) := by decide +kernel
theorem d_M_weight_16 : decode (z_c m_M_weight) 16 = .ok (.iload_n 2, 1) := by decide +kernel
theorem d_M_weight_17 : decode (z_c m_M_weight) 17 = .ok (.invokevirtual 349, 3) := by decide +kernel
theorem d_M_weight_20 : decode (z_c m_M_weight) 20 = .ok (.istore_n 3, 1) := by decide +kernel
theorem d_M_weight_21 : decode (z_c m_M_weight) 21 = .ok (.iload_n 3, 1) := by decide +kernel
theorem d_M_weight_22 : decode (z_c m_M_weight) 22 = .ok (.iconst (-1), 1) := by decide +kernel
theorem d_M_weight_23 : decode (z_c m_M_weight) 23 = .ok (.if_icmp .ne 12, 3) := by decide +kernel
theorem d_M_weight_26 : decode (z_c m_M_weight) 26 = .ok (.aload_n 0, 1) := by decide +kernel
theorem d_M_weight_27 : decode (z_c m_M_weight) 27 = .ok (.bipush 6, 2) := by decide +kernel
theorem d_M_weight_29 : decode (z_c m_M_weight) 29 = .ok (.invokevirtual 87, 3) := by decide +kernel
theorem d_M_weight_32 : decode (z_c m_M_weight) 32 = .ok (.goto 12, 3) := by decide +kernel
theorem d_M_weight_35 : decode (z_c m_M_weight) 35 = .ok (.aload_n 0, 1) := by decide +kernel
theorem d_M_weight_36 : decode (z_c m_M_weight) 36 = .ok (.aload_n 0, 1) := by decide +kernel
theorem d_M_weight_37 : decode (z_c m_M_weight) 37 = .ok (.iload_n 3, 1) := by decide +kernel
theorem d_M_weight_38 : decode (z_c m_M_weight) 38 = .ok (.invokevirtual 352, 3) := by decide +kernel
theorem d_M_weight_41 : decode (z_c m_M_weight) 41 = .ok (.invokevirtual 91, 3) := by decide +kernel
theorem d_M_weight_44 : decode (z_c m_M_weight) 44 = .ok (.ireturn, 1) := by decide +kernel
set_option maxRecDepth 8000 in
theorem b_M_weight_0 {X : z_X} {N : Nat} {σ g : z_G} {Q : z_P} {a1 a2 : Int} (hx : z_lay X N σ 0 z_SM z_RM) (h : ((a2 < 1) → Q (-1) (z_up g 0 1 1)) ∧ (¬ (a2 < 1) → (((9999 < a2) → Q (-1) (z_up g 0 1 1)) ∧ (¬ (9999 < a2) → (((a1 < 0) → Q (-1) (z_up g 0 1 1)) ∧ (¬ (a1 < 0) → (((a2 < a1) → Q (-1) (z_up g 0 1 1)) ∧ (¬ (a2 < a1) → (z_O X 2 m_M_pinOf [(2, 0), (0, a1), (0, a2)] N σ g (fun r0 g0 => (((r0 = (-1)) → Q (-1) (z_up g0 0 1 6)) ∧ (¬ (r0 = (-1)) → ((-2147483648 ≤ (3 * r0) ∧ (3 * r0) ≤ 2147483647) ∧ ((-2147483648 ≤ (10 + (3 * r0)) ∧ (10 + (3 * r0)) ≤ 2147483647) ∧ ((-2147483648 ≤ ((10 + (3 * r0)) + 2) ∧ ((10 + (3 * r0)) + 2) ≤ 2147483647) ∧ ((0 ≤ ((10 + (3 * r0)) + 2) ∧ ((10 + (3 * r0)) + 2) < 3296) ∧ Q (g0 1 ((10 + (3 * r0)) + 2)) (z_up g0 0 1 0))))))))))))))))) : z_O X 3 m_M_weight [(2, 0), (0, a1), (0, a2)] N σ g Q := by
  refine z_Oenter mi_M_weight rfl (fun _ => ?_)
  show z_U X 3 m_M_weight 0 [(0, (2, 0)), (1, (0, a1)), (2, (0, a2))] [] N σ g Q
  refine z_iload_n (i := 1) 1 d_M_weight_0 rfl rfl ?_
  refine z_iload_n (i := 2) 2 d_M_weight_1 rfl rfl ?_
  refine z_cS (as := [(0, a1), (0, a2)]) (d' := 1) (st := []) d_M_weight_2 mi_M_isValue ml_M_272 ms_M_isValue rfl rfl rfl rfl rfl (b_M_isValue_0  ?_)
  refine ⟨fun c1 => ?_, fun c1 => ?_⟩
  · have h := h.1 c1
    intro _
    show z_U X 3 m_M_weight 5 [(0, (2, 0)), (1, (0, a1)), (2, (0, a2))] [(0, 0)] N σ g Q
    refine z_if_ne (tgt := 14) d_M_weight_5 (by decide) (fun c => absurd (by decide) c) (fun _ => ?_)
    refine z_aload_n (i := 0) (c := 0) 0 d_M_weight_8 rfl rfl rfl ?_
    refine z_iconst (n := 1) d_M_weight_9 (by decide) ?_
    refine z_cV (c := 0) (as := [(0, 1)]) (d' := 1) (st := []) d_M_weight_10 mi_M_refuse ml_M_87 mv_M_refuse se_M_refuse rfl rfl rfl rfl (ks_M_0 hx) rfl rfl (kl_M_0 hx) rfl rfl (b_M_refuse_0 hx ?_)
    intro _
    show z_U X 3 m_M_weight 13 [(0, (2, 0)), (1, (0, a1)), (2, (0, a2))] [(0, (-1))] N σ (z_up g 0 1 1) Q
    exact z_iret d_M_weight_13 rfl (by decide) (by decide) ⟨rfl, rfl, h⟩
  · have h := h.2 c1
    refine ⟨fun c2 => ?_, fun c2 => ?_⟩
    · have h := h.1 c2
      intro _
      show z_U X 3 m_M_weight 5 [(0, (2, 0)), (1, (0, a1)), (2, (0, a2))] [(0, 0)] N σ g Q
      refine z_if_ne (tgt := 14) d_M_weight_5 (by decide) (fun c => absurd (by decide) c) (fun _ => ?_)
      refine z_aload_n (i := 0) (c := 0) 0 d_M_weight_8 rfl rfl rfl ?_
      refine z_iconst (n := 1) d_M_weight_9 (by decide) ?_
      refine z_cV (c := 0) (as := [(0, 1)]) (d' := 1) (st := []) d_M_weight_10 mi_M_refuse ml_M_87 mv_M_refuse se_M_refuse rfl rfl rfl rfl (ks_M_0 hx) rfl rfl (kl_M_0 hx) rfl rfl (b_M_refuse_0 hx ?_)
      intro _
      show z_U X 3 m_M_weight 13 [(0, (2, 0)), (1, (0, a1)), (2, (0, a2))] [(0, (-1))] N σ (z_up g 0 1 1) Q
      exact z_iret d_M_weight_13 rfl (by decide) (by decide) ⟨rfl, rfl, h⟩
    · have h := h.2 c2
      refine ⟨fun c3 => ?_, fun c3 => ?_⟩
      · have h := h.1 c3
        intro _
        show z_U X 3 m_M_weight 5 [(0, (2, 0)), (1, (0, a1)), (2, (0, a2))] [(0, 0)] N σ g Q
        refine z_if_ne (tgt := 14) d_M_weight_5 (by decide) (fun c => absurd (by decide) c) (fun _ => ?_)
        refine z_aload_n (i := 0) (c := 0) 0 d_M_weight_8 rfl rfl rfl ?_
        refine z_iconst (n := 1) d_M_weight_9 (by decide) ?_
        refine z_cV (c := 0) (as := [(0, 1)]) (d' := 1) (st := []) d_M_weight_10 mi_M_refuse ml_M_87 mv_M_refuse se_M_refuse rfl rfl rfl rfl (ks_M_0 hx) rfl rfl (kl_M_0 hx) rfl rfl (b_M_refuse_0 hx ?_)
        intro _
        show z_U X 3 m_M_weight 13 [(0, (2, 0)), (1, (0, a1)), (2, (0, a2))] [(0, (-1))] N σ (z_up g 0 1 1) Q
        exact z_iret d_M_weight_13 rfl (by decide) (by decide) ⟨rfl, rfl, h⟩
      · have h := h.2 c3
        refine ⟨fun c4 => ?_, fun c4 => ?_⟩
        · have h := h.1 c4
          intro _
          show z_U X 3 m_M_weight 5 [(0, (2, 0)), (1, (0, a1)), (2, (0, a2))] [(0, 0)] N σ g Q
          refine z_if_ne (tgt := 14) d_M_weight_5 (by decide) (fun c => absurd (by decide) c) (fun _ => ?_)
          refine z_aload_n (i := 0) (c := 0) 0 d_M_weight_8 rfl rfl rfl ?_
          refine z_iconst (n := 1) d_M_weight_9 (by decide) ?_
          refine z_cV (c := 0) (as := [(0, 1)]) (d' := 1) (st := []) d_M_weight_10 mi_M_refuse ml_M_87 mv_M_refuse se_M_refuse rfl rfl rfl rfl (ks_M_0 hx) rfl rfl (kl_M_0 hx) rfl rfl (b_M_refuse_0 hx ?_)
          intro _
          show z_U X 3 m_M_weight 13 [(0, (2, 0)), (1, (0, a1)), (2, (0, a2))] [(0, (-1))] N σ (z_up g 0 1 1) Q
          exact z_iret d_M_weight_13 rfl (by decide) (by decide) ⟨rfl, rfl, h⟩
        · have h := h.2 c4
          intro _
          show z_U X 3 m_M_weight 5 [(0, (2, 0)), (1, (0, a1)), (2, (0, a2))] [(0, 1)] N σ g Q
          refine z_if_ne (tgt := 14) d_M_weight_5 (by decide) (fun _ => ?_) (fun c => absurd c (by decide))
          refine z_aload_n (i := 0) (c := 0) 0 d_M_weight_14 rfl rfl rfl ?_
          refine z_iload_n (i := 1) 1 d_M_weight_15 rfl rfl ?_
          refine z_iload_n (i := 2) 2 d_M_weight_16 rfl rfl ?_
          refine z_cV (c := 0) (as := [(0, a1), (0, a2)]) (d' := 2) (st := []) d_M_weight_17 mi_M_pinOf ml_M_349 mv_M_pinOf se_M_pinOf rfl rfl rfl rfl (ks_M_0 hx) rfl rfl (kl_M_0 hx) rfl rfl (z_Omono h (fun r0 g0 _ h hro => ?_))
          show z_U X 3 m_M_weight 20 [(0, (2, 0)), (1, (0, a1)), (2, (0, a2))] [(0, r0)] N σ g0 Q
          refine z_istore_n (i := 3) (ls' := [(3, (0, r0)), (0, (2, 0)), (1, (0, a1)), (2, (0, a2))]) d_M_weight_20 rfl rfl rfl ?_
          refine z_iload_n (i := 3) 0 d_M_weight_21 rfl rfl ?_
          refine z_iconst (n := (-1)) d_M_weight_22 (by decide) ?_
          refine z_icmp_ne (tgt := 35) d_M_weight_23 (by decide) (fun c5 => ?_) (fun c5 => ?_)
          · have h := h.2 c5
            refine z_aload_n (i := 0) (c := 0) 1 d_M_weight_35 rfl rfl rfl ?_
            refine z_aload_n (i := 0) (c := 0) 1 d_M_weight_36 rfl rfl rfl ?_
            refine z_iload_n (i := 3) 0 d_M_weight_37 rfl rfl ?_
            refine z_cV (c := 0) (as := [(0, r0)]) (d' := 2) (st := [(2, 0)]) d_M_weight_38 mi_M_weightOf ml_M_352 mv_M_weightOf se_M_weightOf rfl rfl rfl rfl (ks_M_0 hx) rfl rfl (kl_M_0 hx) rfl rfl (b_M_weightOf_0 hx ?_)
            obtain ⟨c6, h⟩ := h
            refine ⟨c6, ?_⟩
            obtain ⟨c7, h⟩ := h
            refine ⟨c7, ?_⟩
            obtain ⟨c8, h⟩ := h
            refine ⟨c8, ?_⟩
            obtain ⟨c9, h⟩ := h
            refine ⟨c9, ?_⟩
            intro _
            show z_U X 3 m_M_weight 41 [(3, (0, r0)), (0, (2, 0)), (1, (0, a1)), (2, (0, a2))] [(0, g0 1 ((10 + (3 * r0)) + 2)), (2, 0)] N σ g0 Q
            refine z_cV (c := 0) (as := [(0, g0 1 ((10 + (3 * r0)) + 2))]) (d' := 1) (st := []) d_M_weight_41 mi_M_gives ml_M_91 mv_M_gives se_M_gives rfl rfl rfl rfl (ks_M_0 hx) rfl rfl (kl_M_0 hx) rfl rfl (b_M_gives_0 hx ?_)
            intro _
            show z_U X 3 m_M_weight 44 [(3, (0, r0)), (0, (2, 0)), (1, (0, a1)), (2, (0, a2))] [(0, g0 1 ((10 + (3 * r0)) + 2))] N σ (z_up g0 0 1 0) Q
            exact z_iret d_M_weight_44 rfl (by decide) (by decide) ⟨rfl, rfl, h⟩
          · have h := h.1 c5
            refine z_aload_n (i := 0) (c := 0) 1 d_M_weight_26 rfl rfl rfl ?_
            refine z_bipush (n := 6) d_M_weight_27 (by decide) (by decide) ?_
            refine z_cV (c := 0) (as := [(0, 6)]) (d' := 1) (st := []) d_M_weight_29 mi_M_refuse ml_M_87 mv_M_refuse se_M_refuse rfl rfl rfl rfl (ks_M_0 hx) rfl rfl (kl_M_0 hx) rfl rfl (b_M_refuse_0 hx ?_)
            intro _
            show z_U X 3 m_M_weight 32 [(3, (0, r0)), (0, (2, 0)), (1, (0, a1)), (2, (0, a2))] [(0, (-1))] N σ (z_up g0 0 1 6) Q
            refine z_goto (tgt := 44) d_M_weight_32 (by decide) ?_
            exact z_iret d_M_weight_44 rfl (by decide) (by decide) ⟨rfl, rfl, h⟩
theorem d_M_weightTo_0 : decode (z_c m_M_weightTo) 0 = .ok (.iconst 0, 1) := by decide +kernel
theorem d_M_weightTo_1 : decode (z_c m_M_weightTo) 1 = .ok (.istore_n 3, 1) := by decide +kernel
theorem d_M_weightTo_2 : decode (z_c m_M_weightTo) 2 = .ok (.iconst 0, 1) := by decide +kernel
theorem d_M_weightTo_3 : decode (z_c m_M_weightTo) 3 = .ok (.istore 4, 2) := by decide +kernel
theorem d_M_weightTo_5 : decode (z_c m_M_weightTo) 5 = .ok (.iload 4, 2) := by decide +kernel
theorem d_M_weightTo_7 : decode (z_c m_M_weightTo) 7 = .ok (.aload_n 0, 1) := by decide +kernel
theorem d_M_weightTo_8 : decode (z_c m_M_weightTo) 8 = .ok (.getfield 7, 3) := by decide +kernel
theorem d_M_weightTo_11 : decode (z_c m_M_weightTo) 11 = .ok (.iconst 4, 1) := by decide +kernel
theorem d_M_weightTo_12 : decode (z_c m_M_weightTo) 12 = .ok (.iaload, 1) := by decide +kernel
theorem d_M_weightTo_13 : decode (z_c m_M_weightTo) 13 = .ok (.if_icmp .ge 41, 3) := by decide +kernel
theorem d_M_weightTo_16 : decode (z_c m_M_weightTo) 16 = .ok (.iload_n 3, 1) := by decide +kernel
theorem d_M_weightTo_17 : decode (z_c m_M_weightTo) 17 = .ok (.aload_n 0, 1) := by decide +kernel
theorem d_M_weightTo_18 : decode (z_c m_M_weightTo) 18 = .ok (.iload 4, 2) := by decide +kernel
theorem d_M_weightTo_20 : decode (z_c m_M_weightTo) 20 = .ok (.invokevirtual 366, 3) := by decide +kernel
theorem d_M_weightTo_23 : decode (z_c m_M_weightTo) 23 = .ok (.iload_n 2, 1) := by decide +kernel
theorem d_M_weightTo_24 : decode (z_c m_M_weightTo) 24 = .ok (.imul, 1) := by decide +kernel
theorem d_M_weightTo_25 : decode (z_c m_M_weightTo) 25 = .ok (.iload_n 1, 1) := by decide +kernel
theorem d_M_weightTo_26 : decode (z_c m_M_weightTo) 26 = .ok (.aload_n 0, 1) := by decide +kernel
theorem d_M_weightTo_27 : decode (z_c m_M_weightTo) 27 = .ok (.iload 4, 2) := by decide +kernel
theorem d_M_weightTo_29 : decode (z_c m_M_weightTo) 29 = .ok (.invokevirtual 369, 3) := by decide +kernel
theorem d_M_weightTo_32 : decode (z_c m_M_weightTo) 32 = .ok (.imul, 1) := by decide +kernel
theorem d_M_weightTo_33 : decode (z_c m_M_weightTo) 33 = .ok (.if_icmp .gt 12, 3) := by decide +kernel
theorem d_M_weightTo_36 : decode (z_c m_M_weightTo) 36 = .ok (.aload_n 0, 1) := by decide +kernel
theorem d_M_weightTo_37 : decode (z_c m_M_weightTo) 37 = .ok (.iload 4, 2) := by decide +kernel
theorem d_M_weightTo_39 : decode (z_c m_M_weightTo) 39 = .ok (.invokevirtual 352, 3) := by decide +kernel
theorem d_M_weightTo_42 : decode (z_c m_M_weightTo) 42 = .ok (.goto 4, 3) := by decide +kernel
theorem d_M_weightTo_45 : decode (z_c m_M_weightTo) 45 = .ok (.iconst 0, 1) := by decide +kernel
theorem d_M_weightTo_46 : decode (z_c m_M_weightTo) 46 = .ok (.iadd, 1) := by decide +kernel
theorem d_M_weightTo_47 : decode (z_c m_M_weightTo) 47 = .ok (.istore_n 3, 1) := by decide +kernel
theorem d_M_weightTo_48 : decode (z_c m_M_weightTo) 48 = .ok (.iinc 4 1, 3) := by decide +kernel
theorem d_M_weightTo_51 : decode (z_c m_M_weightTo) 51 = .ok (.goto (-46), 3) := by decide +kernel
theorem d_M_weightTo_54 : decode (z_c m_M_weightTo) 54 = .ok (.iload_n 3, 1) := by decide +kernel
theorem d_M_weightTo_55 : decode (z_c m_M_weightTo) 55 = .ok (.ireturn, 1) := by decide +kernel
abbrev L_M_weightTo_5 (X : z_X) (N : Nat) (σ : z_G) (x1 x2 x3 x4 : Int) (g : z_G) (Q : z_P) : Prop := z_U X 3 m_M_weightTo 5 [(0, (2, 0)), (1, (0, x1)), (2, (0, x2)), (3, (0, x3)), (4, (0, x4))] [] N σ g Q
set_option maxRecDepth 8000 in
theorem b_M_weightTo_0 {X : z_X} {N : Nat} {σ g : z_G} {Q : z_P} {a1 a2 : Int} (hx : z_lay X N σ 0 z_SM z_RM) (h : L_M_weightTo_5 X N σ a1 a2 0 0 g Q) : z_O X 3 m_M_weightTo [(2, 0), (0, a1), (0, a2)] N σ g Q := by
  refine z_Oenter mi_M_weightTo rfl (fun _ => ?_)
  show z_U X 3 m_M_weightTo 0 [(0, (2, 0)), (1, (0, a1)), (2, (0, a2))] [] N σ g Q
  refine z_iconst (n := 0) d_M_weightTo_0 (by decide) ?_
  refine z_istore_n (i := 3) (ls' := [(3, (0, 0)), (0, (2, 0)), (1, (0, a1)), (2, (0, a2))]) d_M_weightTo_1 rfl rfl rfl ?_
  refine z_iconst (n := 0) d_M_weightTo_2 (by decide) ?_
  refine z_istore (ls' := [(4, (0, 0)), (3, (0, 0)), (0, (2, 0)), (1, (0, a1)), (2, (0, a2))]) d_M_weightTo_3 rfl rfl ?_
  refine z_sub (ls' := [(0, (2, 0)), (1, (0, a1)), (2, (0, a2)), (3, (0, 0)), (4, (0, 0))]) [2, 3, 4, 1, 0] rfl ?_
  exact h
set_option maxRecDepth 8000 in
theorem b_M_weightTo_5 {X : z_X} {N : Nat} {σ g : z_G} {Q : z_P} {x1 x2 x3 x4 : Int} (hx : z_lay X N σ 0 z_SM z_RM) (h : (((g 1 4) ≤ x4) → Q x3 g) ∧ (¬ ((g 1 4) ≤ x4) → ((-2147483648 ≤ (3 * x4) ∧ (3 * x4) ≤ 2147483647) ∧ ((-2147483648 ≤ (10 + (3 * x4)) ∧ (10 + (3 * x4)) ≤ 2147483647) ∧ ((0 ≤ (10 + (3 * x4)) ∧ (10 + (3 * x4)) < 3296) ∧ ((-2147483648 ≤ ((g 1 (10 + (3 * x4))) * x2) ∧ ((g 1 (10 + (3 * x4))) * x2) ≤ 2147483647) ∧ ((-2147483648 ≤ ((10 + (3 * x4)) + 1) ∧ ((10 + (3 * x4)) + 1) ≤ 2147483647) ∧ ((0 ≤ ((10 + (3 * x4)) + 1) ∧ ((10 + (3 * x4)) + 1) < 3296) ∧ ((-2147483648 ≤ (x1 * (g 1 ((10 + (3 * x4)) + 1))) ∧ (x1 * (g 1 ((10 + (3 * x4)) + 1))) ≤ 2147483647) ∧ ((((x1 * (g 1 ((10 + (3 * x4)) + 1))) < ((g 1 (10 + (3 * x4))) * x2)) → ((-2147483648 ≤ (x3 + 0) ∧ (x3 + 0) ≤ 2147483647) ∧ ((-2147483648 ≤ (x4 + 1) ∧ (x4 + 1) ≤ 2147483647) ∧ L_M_weightTo_5 X N σ x1 x2 (x3 + 0) (x4 + 1) g Q))) ∧ (¬ ((x1 * (g 1 ((10 + (3 * x4)) + 1))) < ((g 1 (10 + (3 * x4))) * x2)) → ((-2147483648 ≤ ((10 + (3 * x4)) + 2) ∧ ((10 + (3 * x4)) + 2) ≤ 2147483647) ∧ ((0 ≤ ((10 + (3 * x4)) + 2) ∧ ((10 + (3 * x4)) + 2) < 3296) ∧ ((-2147483648 ≤ (x3 + (g 1 ((10 + (3 * x4)) + 2))) ∧ (x3 + (g 1 ((10 + (3 * x4)) + 2))) ≤ 2147483647) ∧ ((-2147483648 ≤ (x4 + 1) ∧ (x4 + 1) ≤ 2147483647) ∧ L_M_weightTo_5 X N σ x1 x2 (x3 + (g 1 ((10 + (3 * x4)) + 2))) (x4 + 1) g Q))))))))))))))) : L_M_weightTo_5 X N σ x1 x2 x3 x4 g Q := by
  refine z_iload 4 d_M_weightTo_5 rfl ?_
  refine z_aload_n (i := 0) (c := 0) 0 d_M_weightTo_7 rfl rfl rfl ?_
  refine z_getr (c := 0) (kI := 0) (r2 := 1) d_M_weightTo_8 fd_M_at fl_M_7 rfl rfl rfl (ks_M_0 hx) (kl_M_0 hx) (kr_M_0_0 hx) ?_
  refine z_iconst (n := 4) d_M_weightTo_11 (by decide) ?_
  refine z_iald (c := 1) (m := 3296) d_M_weightTo_12 rfl (ks_M_1 hx) (kl_M_1 hx) rfl (by decide) (by decide) ?_
  refine z_icmp_ge (tgt := 54) d_M_weightTo_13 (by decide) (fun c1 => ?_) (fun c1 => ?_)
  · have h := h.1 c1
    refine z_iload_n (i := 3) 3 d_M_weightTo_54 rfl rfl ?_
    exact z_iret d_M_weightTo_55 rfl (by decide) (by decide) ⟨rfl, rfl, h⟩
  · have h := h.2 c1
    refine z_iload_n (i := 3) 3 d_M_weightTo_16 rfl rfl ?_
    refine z_aload_n (i := 0) (c := 0) 0 d_M_weightTo_17 rfl rfl rfl ?_
    refine z_iload 4 d_M_weightTo_18 rfl ?_
    refine z_cV (c := 0) (as := [(0, x4)]) (d' := 2) (st := [(0, x3)]) d_M_weightTo_20 mi_M_topOf ml_M_366 mv_M_topOf se_M_topOf rfl rfl rfl rfl (ks_M_0 hx) rfl rfl (kl_M_0 hx) rfl rfl (b_M_topOf_0 hx ?_)
    obtain ⟨c2, h⟩ := h
    refine ⟨c2, ?_⟩
    obtain ⟨c3, h⟩ := h
    refine ⟨c3, ?_⟩
    obtain ⟨c4, h⟩ := h
    refine ⟨c4, ?_⟩
    intro _
    show z_U X 3 m_M_weightTo 23 [(0, (2, 0)), (1, (0, x1)), (2, (0, x2)), (3, (0, x3)), (4, (0, x4))] [(0, g 1 (10 + (3 * x4))), (0, x3)] N σ g Q
    refine z_iload_n (i := 2) 2 d_M_weightTo_23 rfl rfl ?_
    obtain ⟨c5, h⟩ := h
    refine z_imul d_M_weightTo_24 c5 ?_
    refine z_iload_n (i := 1) 1 d_M_weightTo_25 rfl rfl ?_
    refine z_aload_n (i := 0) (c := 0) 0 d_M_weightTo_26 rfl rfl rfl ?_
    refine z_iload 4 d_M_weightTo_27 rfl ?_
    refine z_cV (c := 0) (as := [(0, x4)]) (d' := 2) (st := [(0, x1), (0, (g 1 (10 + (3 * x4))) * x2), (0, x3)]) d_M_weightTo_29 mi_M_bottomOf ml_M_369 mv_M_bottomOf se_M_bottomOf rfl rfl rfl rfl (ks_M_0 hx) rfl rfl (kl_M_0 hx) rfl rfl (b_M_bottomOf_0 hx ?_)
    refine ⟨c2, ?_⟩
    refine ⟨c3, ?_⟩
    obtain ⟨c6, h⟩ := h
    refine ⟨c6, ?_⟩
    obtain ⟨c7, h⟩ := h
    refine ⟨c7, ?_⟩
    intro _
    show z_U X 3 m_M_weightTo 32 [(0, (2, 0)), (1, (0, x1)), (2, (0, x2)), (3, (0, x3)), (4, (0, x4))] [(0, g 1 ((10 + (3 * x4)) + 1)), (0, x1), (0, (g 1 (10 + (3 * x4))) * x2), (0, x3)] N σ g Q
    obtain ⟨c8, h⟩ := h
    refine z_imul d_M_weightTo_32 c8 ?_
    refine z_icmp_gt (tgt := 45) d_M_weightTo_33 (by decide) (fun c9 => ?_) (fun c9 => ?_)
    · have h := h.1 c9
      refine z_iconst (n := 0) d_M_weightTo_45 (by decide) ?_
      obtain ⟨c10, h⟩ := h
      refine z_iadd d_M_weightTo_46 c10 ?_
      refine z_istore_n (i := 3) (ls' := [(3, (0, x3 + 0)), (0, (2, 0)), (1, (0, x1)), (2, (0, x2)), (4, (0, x4))]) d_M_weightTo_47 rfl rfl rfl ?_
      obtain ⟨c11, h⟩ := h
      refine z_iinc (n := 1) (ls' := [(4, (0, x4 + 1)), (3, (0, x3 + 0)), (0, (2, 0)), (1, (0, x1)), (2, (0, x2))]) 4 d_M_weightTo_48 rfl c11 rfl rfl ?_
      refine z_goto (tgt := 5) d_M_weightTo_51 (by decide) ?_
      refine z_sub (ls' := [(0, (2, 0)), (1, (0, x1)), (2, (0, x2)), (3, (0, x3 + 0)), (4, (0, x4 + 1))]) [2, 3, 4, 1, 0] rfl ?_
      exact h
    · have h := h.2 c9
      refine z_aload_n (i := 0) (c := 0) 0 d_M_weightTo_36 rfl rfl rfl ?_
      refine z_iload 4 d_M_weightTo_37 rfl ?_
      refine z_cV (c := 0) (as := [(0, x4)]) (d' := 2) (st := [(0, x3)]) d_M_weightTo_39 mi_M_weightOf ml_M_352 mv_M_weightOf se_M_weightOf rfl rfl rfl rfl (ks_M_0 hx) rfl rfl (kl_M_0 hx) rfl rfl (b_M_weightOf_0 hx ?_)
      refine ⟨c2, ?_⟩
      refine ⟨c3, ?_⟩
      obtain ⟨c12, h⟩ := h
      refine ⟨c12, ?_⟩
      obtain ⟨c13, h⟩ := h
      refine ⟨c13, ?_⟩
      intro _
      show z_U X 3 m_M_weightTo 42 [(0, (2, 0)), (1, (0, x1)), (2, (0, x2)), (3, (0, x3)), (4, (0, x4))] [(0, g 1 ((10 + (3 * x4)) + 2)), (0, x3)] N σ g Q
      refine z_goto (tgt := 46) d_M_weightTo_42 (by decide) ?_
      obtain ⟨c14, h⟩ := h
      refine z_iadd d_M_weightTo_46 c14 ?_
      refine z_istore_n (i := 3) (ls' := [(3, (0, x3 + (g 1 ((10 + (3 * x4)) + 2)))), (0, (2, 0)), (1, (0, x1)), (2, (0, x2)), (4, (0, x4))]) d_M_weightTo_47 rfl rfl rfl ?_
      obtain ⟨c15, h⟩ := h
      refine z_iinc (n := 1) (ls' := [(4, (0, x4 + 1)), (3, (0, x3 + (g 1 ((10 + (3 * x4)) + 2)))), (0, (2, 0)), (1, (0, x1)), (2, (0, x2))]) 4 d_M_weightTo_48 rfl c15 rfl rfl ?_
      refine z_goto (tgt := 5) d_M_weightTo_51 (by decide) ?_
      refine z_sub (ls' := [(0, (2, 0)), (1, (0, x1)), (2, (0, x2)), (3, (0, x3 + (g 1 ((10 + (3 * x4)) + 2)))), (4, (0, x4 + 1))]) [2, 3, 4, 1, 0] rfl ?_
      exact h
theorem d_M_write_0 : decode (z_c m_M_write) 0 = .ok (.aload_n 0, 1) := by decide +kernel
theorem d_M_write_1 : decode (z_c m_M_write) 1 = .ok (.iload_n 1, 1) := by decide +kernel
theorem d_M_write_2 : decode (z_c m_M_write) 2 = .ok (.iload_n 2, 1) := by decide +kernel
theorem d_M_write_3 : decode (z_c m_M_write) 3 = .ok (.invokevirtual 101, 3) := by decide +kernel
theorem d_M_write_6 : decode (z_c m_M_write) 6 = .ok (.istore 5, 2) := by decide +kernel
theorem d_M_write_8 : decode (z_c m_M_write) 8 = .ok (.iload 5, 2) := by decide +kernel
theorem d_M_write_10 : decode (z_c m_M_write) 10 = .ok (.ifCond .ne 24, 3) := by decide +kernel
theorem d_M_write_13 : decode (z_c m_M_write) 13 = .ok (.aload_n 0, 1) := by decide +kernel
theorem d_M_write_14 : decode (z_c m_M_write) 14 = .ok (.getfield 23, 3) := by decide +kernel
theorem d_M_write_17 : decode (z_c m_M_write) 17 = .ok (.bipush 60, 2) := by decide +kernel
theorem d_M_write_19 : decode (z_c m_M_write) 19 = .ok (.iload_n 1, 1) := by decide +kernel
theorem d_M_write_20 : decode (z_c m_M_write) 20 = .ok (.imul, 1) := by decide +kernel
theorem d_M_write_21 : decode (z_c m_M_write) 21 = .ok (.iload_n 2, 1) := by decide +kernel
theorem d_M_write_22 : decode (z_c m_M_write) 22 = .ok (.iadd, 1) := by decide +kernel
theorem d_M_write_23 : decode (z_c m_M_write) 23 = .ok (.lload_n 3, 1) := by decide +kernel
theorem d_M_write_24 : decode (z_c m_M_write) 24 = .ok (.aload_n 0, 1) := by decide +kernel
theorem d_M_write_25 : decode (z_c m_M_write) 25 = .ok (.getfield 17, 3) := by decide +kernel
theorem d_M_write_28 : decode (z_c m_M_write) 28 = .ok (.iload_n 1, 1) := by decide +kernel
theorem d_M_write_29 : decode (z_c m_M_write) 29 = .ok (.iaload, 1) := by decide +kernel
theorem d_M_write_30 : decode (z_c m_M_write) 30 = .ok (.invokestatic 105, 3) := by decide +kernel
theorem d_M_write_33 : decode (z_c m_M_write) 33 = .ok (.lastore, 1) := by decide +kernel
theorem d_M_write_34 : decode (z_c m_M_write) 34 = .ok (.aload_n 0, 1) := by decide +kernel
theorem d_M_write_35 : decode (z_c m_M_write) 35 = .ok (.iload 5, 2) := by decide +kernel
theorem d_M_write_37 : decode (z_c m_M_write) 37 = .ok (.invokevirtual 94, 3) := by decide +kernel
theorem d_M_write_40 : decode (z_c m_M_write) 40 = .ok (.ireturn, 1) := by decide +kernel
set_option maxRecDepth 8000 in
theorem b_M_write_0 {X : z_X} {N : Nat} {σ g : z_G} {Q : z_P} {a1 a2 a3 : Int} (hx : z_lay X N σ 0 z_SM z_RM) (h : ((a1 < 0) → Q 0 (z_up g 0 1 1)) ∧ (¬ (a1 < 0) → (((4 ≤ a1) → Q 0 (z_up g 0 1 1)) ∧ (¬ (4 ≤ a1) → ((0 ≤ a1 ∧ a1 < 4) ∧ ((((g 3 a1) = (-1)) → Q 0 (z_up g 0 1 2)) ∧ (¬ ((g 3 a1) = (-1)) → (((a2 < 0) → Q 0 (z_up g 0 1 3)) ∧ (¬ (a2 < 0) → (((a2 < (g 3 a1)) → ((-2147483648 ≤ (60 * a1) ∧ (60 * a1) ≤ 2147483647) ∧ ((-2147483648 ≤ ((60 * a1) + a2) ∧ ((60 * a1) + a2) ≤ 2147483647) ∧ ((((g 2 a1) = 0) → ((0 ≤ ((60 * a1) + a2) ∧ ((60 * a1) + a2) < 240) ∧ Q 1 (z_up (z_up g 4 ((60 * a1) + a2) (Int.bmod (Int.bmod a3 4294967296) 256)) 0 1 0))) ∧ (¬ ((g 2 a1) = 0) → ((((g 2 a1) = 1) → ((0 ≤ ((60 * a1) + a2) ∧ ((60 * a1) + a2) < 240) ∧ Q 1 (z_up (z_up g 4 ((60 * a1) + a2) (Int.bmod (Int.bmod a3 4294967296) 65536)) 0 1 0))) ∧ (¬ ((g 2 a1) = 1) → ((((g 2 a1) = 2) → ((0 ≤ ((60 * a1) + a2) ∧ ((60 * a1) + a2) < 240) ∧ Q 1 (z_up (z_up g 4 ((60 * a1) + a2) (Int.bmod a3 4294967296)) 0 1 0))) ∧ (¬ ((g 2 a1) = 2) → ((0 ≤ ((60 * a1) + a2) ∧ ((60 * a1) + a2) < 240) ∧ Q 1 (z_up (z_up g 4 ((60 * a1) + a2) a3) 0 1 0))))))))))) ∧ (¬ (a2 < (g 3 a1)) → Q 0 (z_up g 0 1 3)))))))))))) : z_O X 3 m_M_write [(2, 0), (0, a1), (0, a2), (1, a3)] N σ g Q := by
  refine z_Oenter mi_M_write rfl (fun _ => ?_)
  show z_U X 3 m_M_write 0 [(0, (2, 0)), (1, (0, a1)), (2, (0, a2)), (3, (1, a3))] [] N σ g Q
  refine z_aload_n (i := 0) (c := 0) 0 d_M_write_0 rfl rfl rfl ?_
  refine z_iload_n (i := 1) 1 d_M_write_1 rfl rfl ?_
  refine z_iload_n (i := 2) 2 d_M_write_2 rfl rfl ?_
  refine z_cV (c := 0) (as := [(0, a1), (0, a2)]) (d' := 2) (st := []) d_M_write_3 mi_M_wrongPlace ml_M_101 mv_M_wrongPlace se_M_wrongPlace rfl rfl rfl rfl (ks_M_0 hx) rfl rfl (kl_M_0 hx) rfl rfl (b_M_wrongPlace_0 hx ?_)
  refine ⟨fun c1 => ?_, fun c1 => ?_⟩
  · have h := h.1 c1
    intro _
    show z_U X 3 m_M_write 6 [(0, (2, 0)), (1, (0, a1)), (2, (0, a2)), (3, (1, a3))] [(0, 1)] N σ g Q
    refine z_istore (ls' := [(5, (0, 1)), (0, (2, 0)), (1, (0, a1)), (2, (0, a2)), (3, (1, a3))]) d_M_write_6 rfl rfl ?_
    refine z_iload 0 d_M_write_8 rfl ?_
    refine z_if_ne (tgt := 34) d_M_write_10 (by decide) (fun _ => ?_) (fun c => absurd c (by decide))
    refine z_aload_n (i := 0) (c := 0) 1 d_M_write_34 rfl rfl rfl ?_
    refine z_iload 0 d_M_write_35 rfl ?_
    refine z_cV (c := 0) (as := [(0, 1)]) (d' := 1) (st := []) d_M_write_37 mi_M_is ml_M_94 mv_M_is se_M_is rfl rfl rfl rfl (ks_M_0 hx) rfl rfl (kl_M_0 hx) rfl rfl (b_M_is_0 hx ?_)
    refine ⟨fun c => absurd c (by decide), fun _ => ?_⟩
    intro _
    show z_U X 3 m_M_write 40 [(5, (0, 1)), (0, (2, 0)), (1, (0, a1)), (2, (0, a2)), (3, (1, a3))] [(0, 0)] N σ (z_up g 0 1 1) Q
    exact z_zret d_M_write_40 rfl (by decide) (by decide) (by decide) ⟨rfl, rfl, h⟩
  · have h := h.2 c1
    refine ⟨fun c2 => ?_, fun c2 => ?_⟩
    · have h := h.1 c2
      intro _
      show z_U X 3 m_M_write 6 [(0, (2, 0)), (1, (0, a1)), (2, (0, a2)), (3, (1, a3))] [(0, 1)] N σ g Q
      refine z_istore (ls' := [(5, (0, 1)), (0, (2, 0)), (1, (0, a1)), (2, (0, a2)), (3, (1, a3))]) d_M_write_6 rfl rfl ?_
      refine z_iload 0 d_M_write_8 rfl ?_
      refine z_if_ne (tgt := 34) d_M_write_10 (by decide) (fun _ => ?_) (fun c => absurd c (by decide))
      refine z_aload_n (i := 0) (c := 0) 1 d_M_write_34 rfl rfl rfl ?_
      refine z_iload 0 d_M_write_35 rfl ?_
      refine z_cV (c := 0) (as := [(0, 1)]) (d' := 1) (st := []) d_M_write_37 mi_M_is ml_M_94 mv_M_is se_M_is rfl rfl rfl rfl (ks_M_0 hx) rfl rfl (kl_M_0 hx) rfl rfl (b_M_is_0 hx ?_)
      refine ⟨fun c => absurd c (by decide), fun _ => ?_⟩
      intro _
      show z_U X 3 m_M_write 40 [(5, (0, 1)), (0, (2, 0)), (1, (0, a1)), (2, (0, a2)), (3, (1, a3))] [(0, 0)] N σ (z_up g 0 1 1) Q
      exact z_zret d_M_write_40 rfl (by decide) (by decide) (by decide) ⟨rfl, rfl, h⟩
    · have h := h.2 c2
      obtain ⟨c3, h⟩ := h
      refine ⟨c3, ?_⟩
      refine ⟨fun c4 => ?_, fun c4 => ?_⟩
      · have h := h.1 c4
        intro _
        show z_U X 3 m_M_write 6 [(0, (2, 0)), (1, (0, a1)), (2, (0, a2)), (3, (1, a3))] [(0, 2)] N σ g Q
        refine z_istore (ls' := [(5, (0, 2)), (0, (2, 0)), (1, (0, a1)), (2, (0, a2)), (3, (1, a3))]) d_M_write_6 rfl rfl ?_
        refine z_iload 0 d_M_write_8 rfl ?_
        refine z_if_ne (tgt := 34) d_M_write_10 (by decide) (fun _ => ?_) (fun c => absurd c (by decide))
        refine z_aload_n (i := 0) (c := 0) 1 d_M_write_34 rfl rfl rfl ?_
        refine z_iload 0 d_M_write_35 rfl ?_
        refine z_cV (c := 0) (as := [(0, 2)]) (d' := 1) (st := []) d_M_write_37 mi_M_is ml_M_94 mv_M_is se_M_is rfl rfl rfl rfl (ks_M_0 hx) rfl rfl (kl_M_0 hx) rfl rfl (b_M_is_0 hx ?_)
        refine ⟨fun c => absurd c (by decide), fun _ => ?_⟩
        intro _
        show z_U X 3 m_M_write 40 [(5, (0, 2)), (0, (2, 0)), (1, (0, a1)), (2, (0, a2)), (3, (1, a3))] [(0, 0)] N σ (z_up g 0 1 2) Q
        exact z_zret d_M_write_40 rfl (by decide) (by decide) (by decide) ⟨rfl, rfl, h⟩
      · have h := h.2 c4
        refine ⟨fun c5 => ?_, fun c5 => ?_⟩
        · have h := h.1 c5
          intro _
          show z_U X 3 m_M_write 6 [(0, (2, 0)), (1, (0, a1)), (2, (0, a2)), (3, (1, a3))] [(0, 3)] N σ g Q
          refine z_istore (ls' := [(5, (0, 3)), (0, (2, 0)), (1, (0, a1)), (2, (0, a2)), (3, (1, a3))]) d_M_write_6 rfl rfl ?_
          refine z_iload 0 d_M_write_8 rfl ?_
          refine z_if_ne (tgt := 34) d_M_write_10 (by decide) (fun _ => ?_) (fun c => absurd c (by decide))
          refine z_aload_n (i := 0) (c := 0) 1 d_M_write_34 rfl rfl rfl ?_
          refine z_iload 0 d_M_write_35 rfl ?_
          refine z_cV (c := 0) (as := [(0, 3)]) (d' := 1) (st := []) d_M_write_37 mi_M_is ml_M_94 mv_M_is se_M_is rfl rfl rfl rfl (ks_M_0 hx) rfl rfl (kl_M_0 hx) rfl rfl (b_M_is_0 hx ?_)
          refine ⟨fun c => absurd c (by decide), fun _ => ?_⟩
          intro _
          show z_U X 3 m_M_write 40 [(5, (0, 3)), (0, (2, 0)), (1, (0, a1)), (2, (0, a2)), (3, (1, a3))] [(0, 0)] N σ (z_up g 0 1 3) Q
          exact z_zret d_M_write_40 rfl (by decide) (by decide) (by decide) ⟨rfl, rfl, h⟩
        · have h := h.2 c5
          refine ⟨fun c6 => ?_, fun c6 => ?_⟩
          · have h := h.1 c6
            intro _
            show z_U X 3 m_M_write 6 [(0, (2, 0)), (1, (0, a1)), (2, (0, a2)), (3, (1, a3))] [(0, 0)] N σ g Q
            refine z_istore (ls' := [(5, (0, 0)), (0, (2, 0)), (1, (0, a1)), (2, (0, a2)), (3, (1, a3))]) d_M_write_6 rfl rfl ?_
            refine z_iload 0 d_M_write_8 rfl ?_
            refine z_if_ne (tgt := 34) d_M_write_10 (by decide) (fun c => absurd (by decide) c) (fun _ => ?_)
            refine z_aload_n (i := 0) (c := 0) 1 d_M_write_13 rfl rfl rfl ?_
            refine z_getr (c := 0) (kI := 6) (r2 := 4) d_M_write_14 fd_M_trays fl_M_23 rfl rfl rfl (ks_M_0 hx) (kl_M_0 hx) (kr_M_0_6 hx) ?_
            refine z_bipush (n := 60) d_M_write_17 (by decide) (by decide) ?_
            refine z_iload_n (i := 1) 2 d_M_write_19 rfl rfl ?_
            obtain ⟨c7, h⟩ := h
            refine z_imul d_M_write_20 c7 ?_
            refine z_iload_n (i := 2) 3 d_M_write_21 rfl rfl ?_
            obtain ⟨c8, h⟩ := h
            refine z_iadd d_M_write_22 c8 ?_
            refine z_lload_n (i := 3) 4 d_M_write_23 rfl rfl ?_
            refine z_aload_n (i := 0) (c := 0) 1 d_M_write_24 rfl rfl rfl ?_
            refine z_getr (c := 0) (kI := 4) (r2 := 2) d_M_write_25 fd_M_sort fl_M_17 rfl rfl rfl (ks_M_0 hx) (kl_M_0 hx) (kr_M_0_4 hx) ?_
            refine z_iload_n (i := 1) 2 d_M_write_28 rfl rfl ?_
            refine z_iald (c := 2) (m := 4) d_M_write_29 rfl (ks_M_2 hx) (kl_M_2 hx) rfl (by decide) c3 ?_
            refine z_cS (as := [(1, a3), (0, g 2 a1)]) (d' := 1) (st := [(0, (60 * a1) + a2), (2, 4)]) d_M_write_30 mi_M_cut ml_M_105 ms_M_cut rfl rfl rfl rfl rfl (b_M_cut_0  ?_)
            refine ⟨fun c9 => ?_, fun c9 => ?_⟩
            · have h := h.1 c9
              intro _
              show z_U X 3 m_M_write 33 [(5, (0, 0)), (0, (2, 0)), (1, (0, a1)), (2, (0, a2)), (3, (1, a3))] [(1, Int.bmod (Int.bmod a3 4294967296) 256), (0, (60 * a1) + a2), (2, 4)] N σ g Q
              obtain ⟨c10, h⟩ := h
              refine z_last (c := 4) (m := 240) d_M_write_33 rfl (ks_M_4 hx) (kl_M_4 hx) rfl (by decide) c10 ?_
              refine z_aload_n (i := 0) (c := 0) 1 d_M_write_34 rfl rfl rfl ?_
              refine z_iload 0 d_M_write_35 rfl ?_
              refine z_cV (c := 0) (as := [(0, 0)]) (d' := 1) (st := []) d_M_write_37 mi_M_is ml_M_94 mv_M_is se_M_is rfl rfl rfl rfl (ks_M_0 hx) rfl rfl (kl_M_0 hx) rfl rfl (b_M_is_0 hx ?_)
              refine ⟨fun _ => ?_, fun c => absurd (by decide) c⟩
              intro _
              show z_U X 3 m_M_write 40 [(5, (0, 0)), (0, (2, 0)), (1, (0, a1)), (2, (0, a2)), (3, (1, a3))] [(0, 1)] N σ (z_up (z_up g 4 ((60 * a1) + a2) (Int.bmod (Int.bmod a3 4294967296) 256)) 0 1 0) Q
              exact z_zret d_M_write_40 rfl (by decide) (by decide) (by decide) ⟨rfl, rfl, h⟩
            · have h := h.2 c9
              refine ⟨fun c11 => ?_, fun c11 => ?_⟩
              · have h := h.1 c11
                intro _
                show z_U X 3 m_M_write 33 [(5, (0, 0)), (0, (2, 0)), (1, (0, a1)), (2, (0, a2)), (3, (1, a3))] [(1, Int.bmod (Int.bmod a3 4294967296) 65536), (0, (60 * a1) + a2), (2, 4)] N σ g Q
                obtain ⟨c12, h⟩ := h
                refine z_last (c := 4) (m := 240) d_M_write_33 rfl (ks_M_4 hx) (kl_M_4 hx) rfl (by decide) c12 ?_
                refine z_aload_n (i := 0) (c := 0) 1 d_M_write_34 rfl rfl rfl ?_
                refine z_iload 0 d_M_write_35 rfl ?_
                refine z_cV (c := 0) (as := [(0, 0)]) (d' := 1) (st := []) d_M_write_37 mi_M_is ml_M_94 mv_M_is se_M_is rfl rfl rfl rfl (ks_M_0 hx) rfl rfl (kl_M_0 hx) rfl rfl (b_M_is_0 hx ?_)
                refine ⟨fun _ => ?_, fun c => absurd (by decide) c⟩
                intro _
                show z_U X 3 m_M_write 40 [(5, (0, 0)), (0, (2, 0)), (1, (0, a1)), (2, (0, a2)), (3, (1, a3))] [(0, 1)] N σ (z_up (z_up g 4 ((60 * a1) + a2) (Int.bmod (Int.bmod a3 4294967296) 65536)) 0 1 0) Q
                exact z_zret d_M_write_40 rfl (by decide) (by decide) (by decide) ⟨rfl, rfl, h⟩
              · have h := h.2 c11
                refine ⟨fun c13 => ?_, fun c13 => ?_⟩
                · have h := h.1 c13
                  intro _
                  show z_U X 3 m_M_write 33 [(5, (0, 0)), (0, (2, 0)), (1, (0, a1)), (2, (0, a2)), (3, (1, a3))] [(1, Int.bmod a3 4294967296), (0, (60 * a1) + a2), (2, 4)] N σ g Q
                  obtain ⟨c14, h⟩ := h
                  refine z_last (c := 4) (m := 240) d_M_write_33 rfl (ks_M_4 hx) (kl_M_4 hx) rfl (by decide) c14 ?_
                  refine z_aload_n (i := 0) (c := 0) 1 d_M_write_34 rfl rfl rfl ?_
                  refine z_iload 0 d_M_write_35 rfl ?_
                  refine z_cV (c := 0) (as := [(0, 0)]) (d' := 1) (st := []) d_M_write_37 mi_M_is ml_M_94 mv_M_is se_M_is rfl rfl rfl rfl (ks_M_0 hx) rfl rfl (kl_M_0 hx) rfl rfl (b_M_is_0 hx ?_)
                  refine ⟨fun _ => ?_, fun c => absurd (by decide) c⟩
                  intro _
                  show z_U X 3 m_M_write 40 [(5, (0, 0)), (0, (2, 0)), (1, (0, a1)), (2, (0, a2)), (3, (1, a3))] [(0, 1)] N σ (z_up (z_up g 4 ((60 * a1) + a2) (Int.bmod a3 4294967296)) 0 1 0) Q
                  exact z_zret d_M_write_40 rfl (by decide) (by decide) (by decide) ⟨rfl, rfl, h⟩
                · have h := h.2 c13
                  intro _
                  show z_U X 3 m_M_write 33 [(5, (0, 0)), (0, (2, 0)), (1, (0, a1)), (2, (0, a2)), (3, (1, a3))] [(1, a3), (0, (60 * a1) + a2), (2, 4)] N σ g Q
                  obtain ⟨c15, h⟩ := h
                  refine z_last (c := 4) (m := 240) d_M_write_33 rfl (ks_M_4 hx) (kl_M_4 hx) rfl (by decide) c15 ?_
                  refine z_aload_n (i := 0) (c := 0) 1 d_M_write_34 rfl rfl rfl ?_
                  refine z_iload 0 d_M_write_35 rfl ?_
                  refine z_cV (c := 0) (as := [(0, 0)]) (d' := 1) (st := []) d_M_write_37 mi_M_is ml_M_94 mv_M_is se_M_is rfl rfl rfl rfl (ks_M_0 hx) rfl rfl (kl_M_0 hx) rfl rfl (b_M_is_0 hx ?_)
                  refine ⟨fun _ => ?_, fun c => absurd (by decide) c⟩
                  intro _
                  show z_U X 3 m_M_write 40 [(5, (0, 0)), (0, (2, 0)), (1, (0, a1)), (2, (0, a2)), (3, (1, a3))] [(0, 1)] N σ (z_up (z_up g 4 ((60 * a1) + a2) a3) 0 1 0) Q
                  exact z_zret d_M_write_40 rfl (by decide) (by decide) (by decide) ⟨rfl, rfl, h⟩
          · have h := h.2 c6
            intro _
            show z_U X 3 m_M_write 6 [(0, (2, 0)), (1, (0, a1)), (2, (0, a2)), (3, (1, a3))] [(0, 3)] N σ g Q
            refine z_istore (ls' := [(5, (0, 3)), (0, (2, 0)), (1, (0, a1)), (2, (0, a2)), (3, (1, a3))]) d_M_write_6 rfl rfl ?_
            refine z_iload 0 d_M_write_8 rfl ?_
            refine z_if_ne (tgt := 34) d_M_write_10 (by decide) (fun _ => ?_) (fun c => absurd c (by decide))
            refine z_aload_n (i := 0) (c := 0) 1 d_M_write_34 rfl rfl rfl ?_
            refine z_iload 0 d_M_write_35 rfl ?_
            refine z_cV (c := 0) (as := [(0, 3)]) (d' := 1) (st := []) d_M_write_37 mi_M_is ml_M_94 mv_M_is se_M_is rfl rfl rfl rfl (ks_M_0 hx) rfl rfl (kl_M_0 hx) rfl rfl (b_M_is_0 hx ?_)
            refine ⟨fun c => absurd c (by decide), fun _ => ?_⟩
            intro _
            show z_U X 3 m_M_write 40 [(5, (0, 3)), (0, (2, 0)), (1, (0, a1)), (2, (0, a2)), (3, (1, a3))] [(0, 0)] N σ (z_up g 0 1 3) Q
            exact z_zret d_M_write_40 rfl (by decide) (by decide) (by decide) ⟨rfl, rfl, h⟩
theorem d_M_wrong_0 : decode (z_c m_M_wrong) 0 = .ok (.iload_n 1, 1) := by decide +kernel
theorem d_M_wrong_1 : decode (z_c m_M_wrong) 1 = .ok (.i2l, 1) := by decide +kernel
theorem d_M_wrong_2 : decode (z_c m_M_wrong) 2 = .ok (.lconst 0, 1) := by decide +kernel
theorem d_M_wrong_3 : decode (z_c m_M_wrong) 3 = .ok (.ldc2_w 390, 3) := by decide +kernel
theorem d_M_wrong_6 : decode (z_c m_M_wrong) 6 = .ok (.invokestatic 265, 3) := by decide +kernel
theorem d_M_wrong_9 : decode (z_c m_M_wrong) 9 = .ok (.ifCond .eq 15, 3) := by decide +kernel
theorem d_M_wrong_12 : decode (z_c m_M_wrong) 12 = .ok (.iload_n 2, 1) := by decide +kernel
theorem d_M_wrong_13 : decode (z_c m_M_wrong) 13 = .ok (.i2l, 1) := by decide +kernel
theorem d_M_wrong_14 : decode (z_c m_M_wrong) 14 = .ok (.lconst 0, 1) := by decide +kernel
theorem d_M_wrong_15 : decode (z_c m_M_wrong) 15 = .ok (.ldc2_w 390, 3) := by decide +kernel
theorem d_M_wrong_18 : decode (z_c m_M_wrong) 18 = .ok (.invokestatic 265, 3) := by decide +kernel
theorem d_M_wrong_21 : decode (z_c m_M_wrong) 21 = .ok (.ifCond .ne 9, 3) := by decide +kernel
theorem d_M_wrong_24 : decode (z_c m_M_wrong) 24 = .ok (.aload_n 0, 1) := by decide +kernel
theorem d_M_wrong_25 : decode (z_c m_M_wrong) 25 = .ok (.iconst 1, 1) := by decide +kernel
theorem d_M_wrong_26 : decode (z_c m_M_wrong) 26 = .ok (.invokevirtual 94, 3) := by decide +kernel
theorem d_M_wrong_29 : decode (z_c m_M_wrong) 29 = .ok (.ireturn, 1) := by decide +kernel
theorem d_M_wrong_30 : decode (z_c m_M_wrong) 30 = .ok (.lconst 1, 1) := by decide +kernel
theorem d_M_wrong_31 : decode (z_c m_M_wrong) 31 = .ok (.lstore_n 3, 1) := by decide +kernel
theorem d_M_wrong_32 : decode (z_c m_M_wrong) 32 = .ok (.iconst 0, 1) := by decide +kernel
theorem d_M_wrong_33 : decode (z_c m_M_wrong) 33 = .ok (.istore 5, 2) := by decide +kernel
theorem d_M_wrong_35 : decode (z_c m_M_wrong) 35 = .ok (.iload 5, 2) := by decide +kernel
theorem d_M_wrong_37 : decode (z_c m_M_wrong) 37 = .ok (.bipush 13, 2) := by decide +kernel
theorem d_M_wrong_39 : decode (z_c m_M_wrong) 39 = .ok (.if_icmp .ge 26, 3) := by decide +kernel
theorem d_M_wrong_42 : decode (z_c m_M_wrong) 42 = .ok (.aload_n 0, 1) := by decide +kernel
theorem d_M_wrong_43 : decode (z_c m_M_wrong) 43 = .ok (.getfield 62, 3) := by decide +kernel
theorem d_M_wrong_46 : decode (z_c m_M_wrong) 46 = .ok (.iload 5, 2) := by decide +kernel
theorem d_M_wrong_48 : decode (z_c m_M_wrong) 48 = .ok (.iload 5, 2) := by decide +kernel
theorem d_M_wrong_50 : decode (z_c m_M_wrong) 50 = .ok (.ifCond .ne 7, 3) := by decide +kernel
theorem d_M_wrong_53 : decode (z_c m_M_wrong) 53 = .ok (.lconst 1, 1) := by decide +kernel
theorem d_M_wrong_54 : decode (z_c m_M_wrong) 54 = .ok (.goto 4, 3) := by decide +kernel
theorem d_M_wrong_57 : decode (z_c m_M_wrong) 57 = .ok (.lconst 0, 1) := by decide +kernel
theorem d_M_wrong_58 : decode (z_c m_M_wrong) 58 = .ok (.lastore, 1) := by decide +kernel
theorem d_M_wrong_59 : decode (z_c m_M_wrong) 59 = .ok (.iinc 5 1, 3) := by decide +kernel
theorem d_M_wrong_62 : decode (z_c m_M_wrong) 62 = .ok (.goto (-27), 3) := by decide +kernel
theorem d_M_wrong_65 : decode (z_c m_M_wrong) 65 = .ok (.iconst 0, 1) := by decide +kernel
theorem d_M_wrong_66 : decode (z_c m_M_wrong) 66 = .ok (.istore 5, 2) := by decide +kernel
theorem d_M_wrong_68 : decode (z_c m_M_wrong) 68 = .ok (.iload 5, 2) := by decide +kernel
theorem d_M_wrong_70 : decode (z_c m_M_wrong) 70 = .ok (.iload_n 1, 1) := by decide +kernel
theorem d_M_wrong_71 : decode (z_c m_M_wrong) 71 = .ok (.if_icmp .ge 82, 3) := by decide +kernel
theorem d_M_wrong_74 : decode (z_c m_M_wrong) 74 = .ok (.bipush 12, 2) := by decide +kernel
theorem d_M_wrong_76 : decode (z_c m_M_wrong) 76 = .ok (.istore 6, 2) := by decide +kernel
theorem d_M_wrong_78 : decode (z_c m_M_wrong) 78 = .ok (.iload 6, 2) := by decide +kernel
theorem d_M_wrong_80 : decode (z_c m_M_wrong) 80 = .ok (.ifCond .lt 61, 3) := by decide +kernel
theorem d_M_wrong_83 : decode (z_c m_M_wrong) 83 = .ok (.aload_n 0, 1) := by decide +kernel
theorem d_M_wrong_84 : decode (z_c m_M_wrong) 84 = .ok (.getfield 62, 3) := by decide +kernel
theorem d_M_wrong_87 : decode (z_c m_M_wrong) 87 = .ok (.iload 6, 2) := by decide +kernel
theorem d_M_wrong_89 : decode (z_c m_M_wrong) 89 = .ok (.aload_n 0, 1) := by decide +kernel
theorem d_M_wrong_90 : decode (z_c m_M_wrong) 90 = .ok (.getfield 62, 3) := by decide +kernel
theorem d_M_wrong_93 : decode (z_c m_M_wrong) 93 = .ok (.iload 6, 2) := by decide +kernel
theorem d_M_wrong_95 : decode (z_c m_M_wrong) 95 = .ok (.laload, 1) := by decide +kernel
theorem d_M_wrong_96 : decode (z_c m_M_wrong) 96 = .ok (.bipush 16, 2) := by decide +kernel
theorem d_M_wrong_98 : decode (z_c m_M_wrong) 98 = .ok (.aload_n 0, 1) := by decide +kernel
theorem d_M_wrong_99 : decode (z_c m_M_wrong) 99 = .ok (.getfield 7, 3) := by decide +kernel
theorem d_M_wrong_102 : decode (z_c m_M_wrong) 102 = .ok (.iconst 0, 1) := by decide +kernel
theorem d_M_wrong_103 : decode (z_c m_M_wrong) 103 = .ok (.iaload, 1) := by decide +kernel
theorem d_M_wrong_104 : decode (z_c m_M_wrong) 104 = .ok (.isub, 1) := by decide +kernel
theorem d_M_wrong_105 : decode (z_c m_M_wrong) 105 = .ok (.i2l, 1) := by decide +kernel
theorem d_M_wrong_106 : decode (z_c m_M_wrong) 106 = .ok (.lmul, 1) := by decide +kernel
theorem d_M_wrong_107 : decode (z_c m_M_wrong) 107 = .ok (.iload 6, 2) := by decide +kernel
theorem d_M_wrong_109 : decode (z_c m_M_wrong) 109 = .ok (.ifCond .ne 7, 3) := by decide +kernel
theorem d_M_wrong_112 : decode (z_c m_M_wrong) 112 = .ok (.lconst 0, 1) := by decide +kernel
theorem d_M_wrong_113 : decode (z_c m_M_wrong) 113 = .ok (.goto 20, 3) := by decide +kernel
theorem d_M_wrong_116 : decode (z_c m_M_wrong) 116 = .ok (.aload_n 0, 1) := by decide +kernel
theorem d_M_wrong_117 : decode (z_c m_M_wrong) 117 = .ok (.getfield 62, 3) := by decide +kernel
theorem d_M_wrong_120 : decode (z_c m_M_wrong) 120 = .ok (.iload 6, 2) := by decide +kernel
theorem d_M_wrong_122 : decode (z_c m_M_wrong) 122 = .ok (.iconst 1, 1) := by decide +kernel
theorem d_M_wrong_123 : decode (z_c m_M_wrong) 123 = .ok (.isub, 1) := by decide +kernel
theorem d_M_wrong_124 : decode (z_c m_M_wrong) 124 = .ok (.laload, 1) := by decide +kernel
theorem d_M_wrong_125 : decode (z_c m_M_wrong) 125 = .ok (.aload_n 0, 1) := by decide +kernel
theorem d_M_wrong_126 : decode (z_c m_M_wrong) 126 = .ok (.getfield 7, 3) := by decide +kernel
theorem d_M_wrong_129 : decode (z_c m_M_wrong) 129 = .ok (.iconst 0, 1) := by decide +kernel
theorem d_M_wrong_130 : decode (z_c m_M_wrong) 130 = .ok (.iaload, 1) := by decide +kernel
theorem d_M_wrong_131 : decode (z_c m_M_wrong) 131 = .ok (.i2l, 1) := by decide +kernel
theorem d_M_wrong_132 : decode (z_c m_M_wrong) 132 = .ok (.lmul, 1) := by decide +kernel
theorem d_M_wrong_133 : decode (z_c m_M_wrong) 133 = .ok (.ladd, 1) := by decide +kernel
theorem d_M_wrong_134 : decode (z_c m_M_wrong) 134 = .ok (.lastore, 1) := by decide +kernel
theorem d_M_wrong_135 : decode (z_c m_M_wrong) 135 = .ok (.iinc 6 (-1), 3) := by decide +kernel
theorem d_M_wrong_138 : decode (z_c m_M_wrong) 138 = .ok (.goto (-60), 3) := by decide +kernel
theorem d_M_wrong_141 : decode (z_c m_M_wrong) 141 = .ok (.lload_n 3, 1) := by decide +kernel
theorem d_M_wrong_142 : decode (z_c m_M_wrong) 142 = .ok (.ldc2_w 344, 3) := by decide +kernel
theorem d_M_wrong_145 : decode (z_c m_M_wrong) 145 = .ok (.lmul, 1) := by decide +kernel
theorem d_M_wrong_146 : decode (z_c m_M_wrong) 146 = .ok (.lstore_n 3, 1) := by decide +kernel
theorem d_M_wrong_147 : decode (z_c m_M_wrong) 147 = .ok (.iinc 5 1, 3) := by decide +kernel
theorem d_M_wrong_150 : decode (z_c m_M_wrong) 150 = .ok (.goto (-82), 3) := by decide +kernel
theorem d_M_wrong_153 : decode (z_c m_M_wrong) 153 = .ok (.lconst 0, 1) := by decide +kernel
theorem d_M_wrong_154 : decode (z_c m_M_wrong) 154 = .ok (.lstore 5, 2) := by decide +kernel
theorem d_M_wrong_156 : decode (z_c m_M_wrong) 156 = .ok (.iload_n 2, 1) := by decide +kernel
theorem d_M_wrong_157 : decode (z_c m_M_wrong) 157 = .ok (.istore 7, 2) := by decide +kernel
theorem d_M_wrong_159 : decode (z_c m_M_wrong) 159 = .ok (.iload 7, 2) := by decide +kernel
theorem d_M_wrong_161 : decode (z_c m_M_wrong) 161 = .ok (.bipush 13, 2) := by decide +kernel
theorem d_M_wrong_163 : decode (z_c m_M_wrong) 163 = .ok (.if_icmp .ge 21, 3) := by decide +kernel
theorem d_M_wrong_166 : decode (z_c m_M_wrong) 166 = .ok (.lload 5, 2) := by decide +kernel
theorem d_M_wrong_168 : decode (z_c m_M_wrong) 168 = .ok (.aload_n 0, 1) := by decide +kernel
theorem d_M_wrong_169 : decode (z_c m_M_wrong) 169 = .ok (.getfield 62, 3) := by decide +kernel
theorem d_M_wrong_172 : decode (z_c m_M_wrong) 172 = .ok (.iload 7, 2) := by decide +kernel
theorem d_M_wrong_174 : decode (z_c m_M_wrong) 174 = .ok (.laload, 1) := by decide +kernel
theorem d_M_wrong_175 : decode (z_c m_M_wrong) 175 = .ok (.ladd, 1) := by decide +kernel
theorem d_M_wrong_176 : decode (z_c m_M_wrong) 176 = .ok (.lstore 5, 2) := by decide +kernel
theorem d_M_wrong_178 : decode (z_c m_M_wrong) 178 = .ok (.iinc 7 1, 3) := by decide +kernel
theorem d_M_wrong_181 : decode (z_c m_M_wrong) 181 = .ok (.goto (-22), 3) := by decide +kernel
theorem d_M_wrong_184 : decode (z_c m_M_wrong) 184 = .ok (.aload_n 0, 1) := by decide +kernel
theorem d_M_wrong_185 : decode (z_c m_M_wrong) 185 = .ok (.lload 5, 2) := by decide +kernel
theorem d_M_wrong_187 : decode (z_c m_M_wrong) 187 = .ok (.lload_n 3, 1) := by decide +kernel
theorem d_M_wrong_188 : decode (z_c m_M_wrong) 188 = .ok (.invokevirtual 253, 3) := by decide +kernel
theorem d_M_wrong_191 : decode (z_c m_M_wrong) 191 = .ok (.ireturn, 1) := by decide +kernel
abbrev L_M_wrong_35 (X : z_X) (N : Nat) (σ : z_G) (x1 x2 x3 x5 : Int) (g : z_G) (Q : z_P) : Prop := z_U X 3 m_M_wrong 35 [(0, (2, 0)), (1, (0, x1)), (2, (0, x2)), (3, (1, x3)), (5, (0, x5))] [] N σ g Q
abbrev L_M_wrong_68 (X : z_X) (N : Nat) (σ : z_G) (x1 x2 x3 x5 : Int) (g : z_G) (Q : z_P) : Prop := z_U X 3 m_M_wrong 68 [(0, (2, 0)), (1, (0, x1)), (2, (0, x2)), (3, (1, x3)), (5, (0, x5))] [] N σ g Q
abbrev L_M_wrong_159 (X : z_X) (N : Nat) (σ : z_G) (x3 x5 x7 : Int) (g : z_G) (Q : z_P) : Prop := z_U X 3 m_M_wrong 159 [(0, (2, 0)), (3, (1, x3)), (5, (1, x5)), (7, (0, x7))] [] N σ g Q
abbrev L_M_wrong_78 (X : z_X) (N : Nat) (σ : z_G) (x1 x2 x3 x5 x6 : Int) (g : z_G) (Q : z_P) : Prop := z_U X 3 m_M_wrong 78 [(0, (2, 0)), (1, (0, x1)), (2, (0, x2)), (3, (1, x3)), (5, (0, x5)), (6, (0, x6))] [] N σ g Q
set_option maxRecDepth 8000 in
theorem b_M_wrong_0 {X : z_X} {N : Nat} {σ g : z_G} {Q : z_P} {a1 a2 : Int} (hx : z_lay X N σ 0 z_SM z_RM) (h : ((a1 < 0) → Q 0 (z_up g 0 1 1)) ∧ (¬ (a1 < 0) → (((12 < a1) → Q 0 (z_up g 0 1 1)) ∧ (¬ (12 < a1) → (((a2 < 0) → Q 0 (z_up g 0 1 1)) ∧ (¬ (a2 < 0) → (((12 < a2) → Q 0 (z_up g 0 1 1)) ∧ (¬ (12 < a2) → L_M_wrong_35 X N σ a1 a2 1 0 g Q)))))))) : z_O X 3 m_M_wrong [(2, 0), (0, a1), (0, a2)] N σ g Q := by
  refine z_Oenter mi_M_wrong rfl (fun _ => ?_)
  show z_U X 3 m_M_wrong 0 [(0, (2, 0)), (1, (0, a1)), (2, (0, a2))] [] N σ g Q
  refine z_iload_n (i := 1) 1 d_M_wrong_0 rfl rfl ?_
  refine z_i2l d_M_wrong_1 ?_
  refine z_lconst (v := 0) d_M_wrong_2 (by decide) (by decide) ?_
  refine z_ldc2 (v := 12) d_M_wrong_3 kc_M_390 (by decide) ?_
  refine z_cS (as := [(1, a1), (1, 0), (1, 12)]) (d' := 1) (st := []) d_M_wrong_6 mi_M_isFrom ml_M_265 ms_M_isFrom rfl rfl rfl rfl rfl (b_M_isFrom_0  ?_)
  refine ⟨fun c1 => ?_, fun c1 => ?_⟩
  · have h := h.1 c1
    intro _
    show z_U X 3 m_M_wrong 9 [(0, (2, 0)), (1, (0, a1)), (2, (0, a2))] [(0, 0)] N σ g Q
    refine z_if_eq (tgt := 24) d_M_wrong_9 (by decide) (fun _ => ?_) (fun c => absurd (by decide) c)
    refine z_aload_n (i := 0) (c := 0) 0 d_M_wrong_24 rfl rfl rfl ?_
    refine z_iconst (n := 1) d_M_wrong_25 (by decide) ?_
    refine z_cV (c := 0) (as := [(0, 1)]) (d' := 1) (st := []) d_M_wrong_26 mi_M_is ml_M_94 mv_M_is se_M_is rfl rfl rfl rfl (ks_M_0 hx) rfl rfl (kl_M_0 hx) rfl rfl (b_M_is_0 hx ?_)
    refine ⟨fun c => absurd c (by decide), fun _ => ?_⟩
    intro _
    show z_U X 3 m_M_wrong 29 [(0, (2, 0)), (1, (0, a1)), (2, (0, a2))] [(0, 0)] N σ (z_up g 0 1 1) Q
    exact z_zret d_M_wrong_29 rfl (by decide) (by decide) (by decide) ⟨rfl, rfl, h⟩
  · have h := h.2 c1
    refine ⟨fun c2 => ?_, fun c2 => ?_⟩
    · have h := h.1 c2
      intro _
      show z_U X 3 m_M_wrong 9 [(0, (2, 0)), (1, (0, a1)), (2, (0, a2))] [(0, 0)] N σ g Q
      refine z_if_eq (tgt := 24) d_M_wrong_9 (by decide) (fun _ => ?_) (fun c => absurd (by decide) c)
      refine z_aload_n (i := 0) (c := 0) 0 d_M_wrong_24 rfl rfl rfl ?_
      refine z_iconst (n := 1) d_M_wrong_25 (by decide) ?_
      refine z_cV (c := 0) (as := [(0, 1)]) (d' := 1) (st := []) d_M_wrong_26 mi_M_is ml_M_94 mv_M_is se_M_is rfl rfl rfl rfl (ks_M_0 hx) rfl rfl (kl_M_0 hx) rfl rfl (b_M_is_0 hx ?_)
      refine ⟨fun c => absurd c (by decide), fun _ => ?_⟩
      intro _
      show z_U X 3 m_M_wrong 29 [(0, (2, 0)), (1, (0, a1)), (2, (0, a2))] [(0, 0)] N σ (z_up g 0 1 1) Q
      exact z_zret d_M_wrong_29 rfl (by decide) (by decide) (by decide) ⟨rfl, rfl, h⟩
    · have h := h.2 c2
      intro _
      show z_U X 3 m_M_wrong 9 [(0, (2, 0)), (1, (0, a1)), (2, (0, a2))] [(0, 1)] N σ g Q
      refine z_if_eq (tgt := 24) d_M_wrong_9 (by decide) (fun c => absurd c (by decide)) (fun _ => ?_)
      refine z_iload_n (i := 2) 2 d_M_wrong_12 rfl rfl ?_
      refine z_i2l d_M_wrong_13 ?_
      refine z_lconst (v := 0) d_M_wrong_14 (by decide) (by decide) ?_
      refine z_ldc2 (v := 12) d_M_wrong_15 kc_M_390 (by decide) ?_
      refine z_cS (as := [(1, a2), (1, 0), (1, 12)]) (d' := 1) (st := []) d_M_wrong_18 mi_M_isFrom ml_M_265 ms_M_isFrom rfl rfl rfl rfl rfl (b_M_isFrom_0  ?_)
      refine ⟨fun c3 => ?_, fun c3 => ?_⟩
      · have h := h.1 c3
        intro _
        show z_U X 3 m_M_wrong 21 [(0, (2, 0)), (1, (0, a1)), (2, (0, a2))] [(0, 0)] N σ g Q
        refine z_if_ne (tgt := 30) d_M_wrong_21 (by decide) (fun c => absurd (by decide) c) (fun _ => ?_)
        refine z_aload_n (i := 0) (c := 0) 0 d_M_wrong_24 rfl rfl rfl ?_
        refine z_iconst (n := 1) d_M_wrong_25 (by decide) ?_
        refine z_cV (c := 0) (as := [(0, 1)]) (d' := 1) (st := []) d_M_wrong_26 mi_M_is ml_M_94 mv_M_is se_M_is rfl rfl rfl rfl (ks_M_0 hx) rfl rfl (kl_M_0 hx) rfl rfl (b_M_is_0 hx ?_)
        refine ⟨fun c => absurd c (by decide), fun _ => ?_⟩
        intro _
        show z_U X 3 m_M_wrong 29 [(0, (2, 0)), (1, (0, a1)), (2, (0, a2))] [(0, 0)] N σ (z_up g 0 1 1) Q
        exact z_zret d_M_wrong_29 rfl (by decide) (by decide) (by decide) ⟨rfl, rfl, h⟩
      · have h := h.2 c3
        refine ⟨fun c4 => ?_, fun c4 => ?_⟩
        · have h := h.1 c4
          intro _
          show z_U X 3 m_M_wrong 21 [(0, (2, 0)), (1, (0, a1)), (2, (0, a2))] [(0, 0)] N σ g Q
          refine z_if_ne (tgt := 30) d_M_wrong_21 (by decide) (fun c => absurd (by decide) c) (fun _ => ?_)
          refine z_aload_n (i := 0) (c := 0) 0 d_M_wrong_24 rfl rfl rfl ?_
          refine z_iconst (n := 1) d_M_wrong_25 (by decide) ?_
          refine z_cV (c := 0) (as := [(0, 1)]) (d' := 1) (st := []) d_M_wrong_26 mi_M_is ml_M_94 mv_M_is se_M_is rfl rfl rfl rfl (ks_M_0 hx) rfl rfl (kl_M_0 hx) rfl rfl (b_M_is_0 hx ?_)
          refine ⟨fun c => absurd c (by decide), fun _ => ?_⟩
          intro _
          show z_U X 3 m_M_wrong 29 [(0, (2, 0)), (1, (0, a1)), (2, (0, a2))] [(0, 0)] N σ (z_up g 0 1 1) Q
          exact z_zret d_M_wrong_29 rfl (by decide) (by decide) (by decide) ⟨rfl, rfl, h⟩
        · have h := h.2 c4
          intro _
          show z_U X 3 m_M_wrong 21 [(0, (2, 0)), (1, (0, a1)), (2, (0, a2))] [(0, 1)] N σ g Q
          refine z_if_ne (tgt := 30) d_M_wrong_21 (by decide) (fun _ => ?_) (fun c => absurd c (by decide))
          refine z_lconst (v := 1) d_M_wrong_30 (by decide) (by decide) ?_
          refine z_lstore_n (i := 3) (ls' := [(3, (1, 1)), (0, (2, 0)), (1, (0, a1)), (2, (0, a2))]) d_M_wrong_31 rfl rfl rfl ?_
          refine z_iconst (n := 0) d_M_wrong_32 (by decide) ?_
          refine z_istore (ls' := [(5, (0, 0)), (3, (1, 1)), (0, (2, 0)), (1, (0, a1)), (2, (0, a2))]) d_M_wrong_33 rfl rfl ?_
          refine z_sub (ls' := [(0, (2, 0)), (1, (0, a1)), (2, (0, a2)), (3, (1, 1)), (5, (0, 0))]) [2, 3, 4, 1, 0] rfl ?_
          exact h
set_option maxRecDepth 8000 in
theorem b_M_wrong_35 {X : z_X} {N : Nat} {σ g : z_G} {Q : z_P} {x1 x2 x3 x5 : Int} (hx : z_lay X N σ 0 z_SM z_RM) (h : ((13 ≤ x5) → L_M_wrong_68 X N σ x1 x2 x3 0 g Q) ∧ (¬ (13 ≤ x5) → (((x5 = 0) → ((0 ≤ x5 ∧ x5 < 13) ∧ ((-2147483648 ≤ (x5 + 1) ∧ (x5 + 1) ≤ 2147483647) ∧ L_M_wrong_35 X N σ x1 x2 x3 (x5 + 1) (z_up g 14 x5 1) Q))) ∧ (¬ (x5 = 0) → ((0 ≤ x5 ∧ x5 < 13) ∧ ((-2147483648 ≤ (x5 + 1) ∧ (x5 + 1) ≤ 2147483647) ∧ L_M_wrong_35 X N σ x1 x2 x3 (x5 + 1) (z_up g 14 x5 0) Q)))))) : L_M_wrong_35 X N σ x1 x2 x3 x5 g Q := by
  refine z_iload 4 d_M_wrong_35 rfl ?_
  refine z_bipush (n := 13) d_M_wrong_37 (by decide) (by decide) ?_
  refine z_icmp_ge (tgt := 65) d_M_wrong_39 (by decide) (fun c1 => ?_) (fun c1 => ?_)
  · have h := h.1 c1
    refine z_iconst (n := 0) d_M_wrong_65 (by decide) ?_
    refine z_istore (ls' := [(5, (0, 0)), (0, (2, 0)), (1, (0, x1)), (2, (0, x2)), (3, (1, x3))]) d_M_wrong_66 rfl rfl ?_
    refine z_sub (ls' := [(0, (2, 0)), (1, (0, x1)), (2, (0, x2)), (3, (1, x3)), (5, (0, 0))]) [1, 2, 3, 4, 0] rfl ?_
    exact h
  · have h := h.2 c1
    refine z_aload_n (i := 0) (c := 0) 0 d_M_wrong_42 rfl rfl rfl ?_
    refine z_getr (c := 0) (kI := 34) (r2 := 14) d_M_wrong_43 fd_M_wrongBy fl_M_62 rfl rfl rfl (ks_M_0 hx) (kl_M_0 hx) (kr_M_0_34 hx) ?_
    refine z_iload 4 d_M_wrong_46 rfl ?_
    refine z_iload 4 d_M_wrong_48 rfl ?_
    refine z_if_ne (tgt := 57) d_M_wrong_50 (by decide) (fun c2 => ?_) (fun c2 => ?_)
    · have h := h.2 c2
      refine z_lconst (v := 0) d_M_wrong_57 (by decide) (by decide) ?_
      obtain ⟨c3, h⟩ := h
      refine z_last (c := 14) (m := 13) d_M_wrong_58 rfl (ks_M_14 hx) (kl_M_14 hx) rfl (by decide) c3 ?_
      obtain ⟨c4, h⟩ := h
      refine z_iinc (n := 1) (ls' := [(5, (0, x5 + 1)), (0, (2, 0)), (1, (0, x1)), (2, (0, x2)), (3, (1, x3))]) 4 d_M_wrong_59 rfl c4 rfl rfl ?_
      refine z_goto (tgt := 35) d_M_wrong_62 (by decide) ?_
      refine z_sub (ls' := [(0, (2, 0)), (1, (0, x1)), (2, (0, x2)), (3, (1, x3)), (5, (0, x5 + 1))]) [1, 2, 3, 4, 0] rfl ?_
      exact h
    · have h := h.1 c2
      refine z_lconst (v := 1) d_M_wrong_53 (by decide) (by decide) ?_
      refine z_goto (tgt := 58) d_M_wrong_54 (by decide) ?_
      obtain ⟨c5, h⟩ := h
      refine z_last (c := 14) (m := 13) d_M_wrong_58 rfl (ks_M_14 hx) (kl_M_14 hx) rfl (by decide) c5 ?_
      obtain ⟨c6, h⟩ := h
      refine z_iinc (n := 1) (ls' := [(5, (0, x5 + 1)), (0, (2, 0)), (1, (0, x1)), (2, (0, x2)), (3, (1, x3))]) 4 d_M_wrong_59 rfl c6 rfl rfl ?_
      refine z_goto (tgt := 35) d_M_wrong_62 (by decide) ?_
      refine z_sub (ls' := [(0, (2, 0)), (1, (0, x1)), (2, (0, x2)), (3, (1, x3)), (5, (0, x5 + 1))]) [1, 2, 3, 4, 0] rfl ?_
      exact h
set_option maxRecDepth 8000 in
theorem b_M_wrong_68 {X : z_X} {N : Nat} {σ g : z_G} {Q : z_P} {x1 x2 x3 x5 : Int} (hx : z_lay X N σ 0 z_SM z_RM) (h : ((x1 ≤ x5) → L_M_wrong_159 X N σ x3 0 x2 g Q) ∧ (¬ (x1 ≤ x5) → L_M_wrong_78 X N σ x1 x2 x3 x5 12 g Q)) : L_M_wrong_68 X N σ x1 x2 x3 x5 g Q := by
  refine z_iload 4 d_M_wrong_68 rfl ?_
  refine z_iload_n (i := 1) 1 d_M_wrong_70 rfl rfl ?_
  refine z_icmp_ge (tgt := 153) d_M_wrong_71 (by decide) (fun c1 => ?_) (fun c1 => ?_)
  · have h := h.1 c1
    refine z_lconst (v := 0) d_M_wrong_153 (by decide) (by decide) ?_
    refine z_lstore (ls' := [(5, (1, 0)), (0, (2, 0)), (1, (0, x1)), (2, (0, x2)), (3, (1, x3))]) d_M_wrong_154 rfl rfl ?_
    refine z_iload_n (i := 2) 3 d_M_wrong_156 rfl rfl ?_
    refine z_istore (ls' := [(7, (0, x2)), (5, (1, 0)), (0, (2, 0)), (1, (0, x1)), (2, (0, x2)), (3, (1, x3))]) d_M_wrong_157 rfl rfl ?_
    refine z_sub (ls' := [(0, (2, 0)), (3, (1, x3)), (5, (1, 0)), (7, (0, x2))]) [2, 5, 1, 0] rfl ?_
    exact h
  · have h := h.2 c1
    refine z_bipush (n := 12) d_M_wrong_74 (by decide) (by decide) ?_
    refine z_istore (ls' := [(6, (0, 12)), (0, (2, 0)), (1, (0, x1)), (2, (0, x2)), (3, (1, x3)), (5, (0, x5))]) d_M_wrong_76 rfl rfl ?_
    refine z_sub (ls' := [(0, (2, 0)), (1, (0, x1)), (2, (0, x2)), (3, (1, x3)), (5, (0, x5)), (6, (0, 12))]) [1, 2, 3, 4, 5, 0] rfl ?_
    exact h
set_option maxRecDepth 8000 in
theorem b_M_wrong_159 {X : z_X} {N : Nat} {σ g : z_G} {Q : z_P} {x3 x5 x7 : Int} (hx : z_lay X N σ 0 z_SM z_RM) (h : ((13 ≤ x7) → (z_O X 2 m_M_tellsBy [(2, 0), (1, x5), (1, x3)] N σ g (fun r0 g0 => (r0 = 0 ∨ r0 = 1) → Q r0 g0))) ∧ (¬ (13 ≤ x7) → ((0 ≤ x7 ∧ x7 < 13) ∧ ((-9223372036854775808 ≤ (x5 + (g 14 x7)) ∧ (x5 + (g 14 x7)) ≤ 9223372036854775807) ∧ ((-2147483648 ≤ (x7 + 1) ∧ (x7 + 1) ≤ 2147483647) ∧ L_M_wrong_159 X N σ x3 (x5 + (g 14 x7)) (x7 + 1) g Q))))) : L_M_wrong_159 X N σ x3 x5 x7 g Q := by
  refine z_iload 3 d_M_wrong_159 rfl ?_
  refine z_bipush (n := 13) d_M_wrong_161 (by decide) (by decide) ?_
  refine z_icmp_ge (tgt := 184) d_M_wrong_163 (by decide) (fun c1 => ?_) (fun c1 => ?_)
  · have h := h.1 c1
    refine z_aload_n (i := 0) (c := 0) 0 d_M_wrong_184 rfl rfl rfl ?_
    refine z_lload 2 d_M_wrong_185 rfl ?_
    refine z_lload_n (i := 3) 1 d_M_wrong_187 rfl rfl ?_
    refine z_cV (c := 0) (as := [(1, x5), (1, x3)]) (d' := 2) (st := []) d_M_wrong_188 mi_M_tellsBy ml_M_253 mv_M_tellsBy se_M_tellsBy rfl rfl rfl rfl (ks_M_0 hx) rfl rfl (kl_M_0 hx) rfl rfl (z_Omono h (fun r0 g0 _ h hro => ?_))
    have h := h (z_b01 hro)
    have hzr0 := z_b01 hro
    show z_U X 3 m_M_wrong 191 [(0, (2, 0)), (3, (1, x3)), (5, (1, x5)), (7, (0, x7))] [(0, r0)] N σ g0 Q
    exact z_zret d_M_wrong_191 rfl (by decide) (by decide) hzr0 ⟨rfl, rfl, h⟩
  · have h := h.2 c1
    refine z_lload 2 d_M_wrong_166 rfl ?_
    refine z_aload_n (i := 0) (c := 0) 0 d_M_wrong_168 rfl rfl rfl ?_
    refine z_getr (c := 0) (kI := 34) (r2 := 14) d_M_wrong_169 fd_M_wrongBy fl_M_62 rfl rfl rfl (ks_M_0 hx) (kl_M_0 hx) (kr_M_0_34 hx) ?_
    refine z_iload 3 d_M_wrong_172 rfl ?_
    obtain ⟨c2, h⟩ := h
    refine z_lald (c := 14) (m := 13) d_M_wrong_174 rfl (ks_M_14 hx) (kl_M_14 hx) rfl (by decide) c2 ?_
    obtain ⟨c3, h⟩ := h
    refine z_ladd d_M_wrong_175 c3 ?_
    refine z_lstore (ls' := [(5, (1, x5 + (g 14 x7))), (0, (2, 0)), (3, (1, x3)), (7, (0, x7))]) d_M_wrong_176 rfl rfl ?_
    obtain ⟨c4, h⟩ := h
    refine z_iinc (n := 1) (ls' := [(7, (0, x7 + 1)), (5, (1, x5 + (g 14 x7))), (0, (2, 0)), (3, (1, x3))]) 3 d_M_wrong_178 rfl c4 rfl rfl ?_
    refine z_goto (tgt := 159) d_M_wrong_181 (by decide) ?_
    refine z_sub (ls' := [(0, (2, 0)), (3, (1, x3)), (5, (1, x5 + (g 14 x7))), (7, (0, x7 + 1))]) [2, 3, 1, 0] rfl ?_
    exact h
set_option maxRecDepth 8000 in
theorem b_M_wrong_78 {X : z_X} {N : Nat} {σ g : z_G} {Q : z_P} {x1 x2 x3 x5 x6 : Int} (hx : z_lay X N σ 0 z_SM z_RM) (h : ((x6 < 0) → ((-9223372036854775808 ≤ (x3 * 16) ∧ (x3 * 16) ≤ 9223372036854775807) ∧ ((-2147483648 ≤ (x5 + 1) ∧ (x5 + 1) ≤ 2147483647) ∧ L_M_wrong_68 X N σ x1 x2 (x3 * 16) (x5 + 1) g Q))) ∧ (¬ (x6 < 0) → ((0 ≤ x6 ∧ x6 < 13) ∧ ((-2147483648 ≤ (16 - (g 1 0)) ∧ (16 - (g 1 0)) ≤ 2147483647) ∧ ((-9223372036854775808 ≤ ((g 14 x6) * (16 - (g 1 0))) ∧ ((g 14 x6) * (16 - (g 1 0))) ≤ 9223372036854775807) ∧ (((x6 = 0) → ((-9223372036854775808 ≤ (((g 14 x6) * (16 - (g 1 0))) + 0) ∧ (((g 14 x6) * (16 - (g 1 0))) + 0) ≤ 9223372036854775807) ∧ ((-2147483648 ≤ (x6 + (-1)) ∧ (x6 + (-1)) ≤ 2147483647) ∧ L_M_wrong_78 X N σ x1 x2 x3 x5 (x6 + (-1)) (z_up g 14 x6 (((g 14 x6) * (16 - (g 1 0))) + 0)) Q))) ∧ (¬ (x6 = 0) → ((-2147483648 ≤ (x6 - 1) ∧ (x6 - 1) ≤ 2147483647) ∧ ((0 ≤ (x6 - 1) ∧ (x6 - 1) < 13) ∧ ((-9223372036854775808 ≤ ((g 14 (x6 - 1)) * (g 1 0)) ∧ ((g 14 (x6 - 1)) * (g 1 0)) ≤ 9223372036854775807) ∧ ((-9223372036854775808 ≤ (((g 14 x6) * (16 - (g 1 0))) + ((g 14 (x6 - 1)) * (g 1 0))) ∧ (((g 14 x6) * (16 - (g 1 0))) + ((g 14 (x6 - 1)) * (g 1 0))) ≤ 9223372036854775807) ∧ ((-2147483648 ≤ (x6 + (-1)) ∧ (x6 + (-1)) ≤ 2147483647) ∧ L_M_wrong_78 X N σ x1 x2 x3 x5 (x6 + (-1)) (z_up g 14 x6 (((g 14 x6) * (16 - (g 1 0))) + ((g 14 (x6 - 1)) * (g 1 0)))) Q)))))))))))) : L_M_wrong_78 X N σ x1 x2 x3 x5 x6 g Q := by
  refine z_iload 5 d_M_wrong_78 rfl ?_
  refine z_if_lt (tgt := 141) d_M_wrong_80 (by decide) (fun c1 => ?_) (fun c1 => ?_)
  · have h := h.1 c1
    refine z_lload_n (i := 3) 3 d_M_wrong_141 rfl rfl ?_
    refine z_ldc2 (v := 16) d_M_wrong_142 kc_M_344 (by decide) ?_
    obtain ⟨c2, h⟩ := h
    refine z_lmul d_M_wrong_145 c2 ?_
    refine z_lstore_n (i := 3) (ls' := [(3, (1, x3 * 16)), (0, (2, 0)), (1, (0, x1)), (2, (0, x2)), (5, (0, x5)), (6, (0, x6))]) d_M_wrong_146 rfl rfl rfl ?_
    obtain ⟨c3, h⟩ := h
    refine z_iinc (n := 1) (ls' := [(5, (0, x5 + 1)), (3, (1, x3 * 16)), (0, (2, 0)), (1, (0, x1)), (2, (0, x2)), (6, (0, x6))]) 4 d_M_wrong_147 rfl c3 rfl rfl ?_
    refine z_goto (tgt := 68) d_M_wrong_150 (by decide) ?_
    refine z_sub (ls' := [(0, (2, 0)), (1, (0, x1)), (2, (0, x2)), (3, (1, x3 * 16)), (5, (0, x5 + 1))]) [2, 3, 4, 1, 0] rfl ?_
    exact h
  · have h := h.2 c1
    refine z_aload_n (i := 0) (c := 0) 0 d_M_wrong_83 rfl rfl rfl ?_
    refine z_getr (c := 0) (kI := 34) (r2 := 14) d_M_wrong_84 fd_M_wrongBy fl_M_62 rfl rfl rfl (ks_M_0 hx) (kl_M_0 hx) (kr_M_0_34 hx) ?_
    refine z_iload 5 d_M_wrong_87 rfl ?_
    refine z_aload_n (i := 0) (c := 0) 0 d_M_wrong_89 rfl rfl rfl ?_
    refine z_getr (c := 0) (kI := 34) (r2 := 14) d_M_wrong_90 fd_M_wrongBy fl_M_62 rfl rfl rfl (ks_M_0 hx) (kl_M_0 hx) (kr_M_0_34 hx) ?_
    refine z_iload 5 d_M_wrong_93 rfl ?_
    obtain ⟨c4, h⟩ := h
    refine z_lald (c := 14) (m := 13) d_M_wrong_95 rfl (ks_M_14 hx) (kl_M_14 hx) rfl (by decide) c4 ?_
    refine z_bipush (n := 16) d_M_wrong_96 (by decide) (by decide) ?_
    refine z_aload_n (i := 0) (c := 0) 0 d_M_wrong_98 rfl rfl rfl ?_
    refine z_getr (c := 0) (kI := 0) (r2 := 1) d_M_wrong_99 fd_M_at fl_M_7 rfl rfl rfl (ks_M_0 hx) (kl_M_0 hx) (kr_M_0_0 hx) ?_
    refine z_iconst (n := 0) d_M_wrong_102 (by decide) ?_
    refine z_iald (c := 1) (m := 3296) d_M_wrong_103 rfl (ks_M_1 hx) (kl_M_1 hx) rfl (by decide) (by decide) ?_
    obtain ⟨c5, h⟩ := h
    refine z_isub d_M_wrong_104 c5 ?_
    refine z_i2l d_M_wrong_105 ?_
    obtain ⟨c6, h⟩ := h
    refine z_lmul d_M_wrong_106 c6 ?_
    refine z_iload 5 d_M_wrong_107 rfl ?_
    refine z_if_ne (tgt := 116) d_M_wrong_109 (by decide) (fun c7 => ?_) (fun c7 => ?_)
    · have h := h.2 c7
      refine z_aload_n (i := 0) (c := 0) 0 d_M_wrong_116 rfl rfl rfl ?_
      refine z_getr (c := 0) (kI := 34) (r2 := 14) d_M_wrong_117 fd_M_wrongBy fl_M_62 rfl rfl rfl (ks_M_0 hx) (kl_M_0 hx) (kr_M_0_34 hx) ?_
      refine z_iload 5 d_M_wrong_120 rfl ?_
      refine z_iconst (n := 1) d_M_wrong_122 (by decide) ?_
      obtain ⟨c8, h⟩ := h
      refine z_isub d_M_wrong_123 c8 ?_
      obtain ⟨c9, h⟩ := h
      refine z_lald (c := 14) (m := 13) d_M_wrong_124 rfl (ks_M_14 hx) (kl_M_14 hx) rfl (by decide) c9 ?_
      refine z_aload_n (i := 0) (c := 0) 0 d_M_wrong_125 rfl rfl rfl ?_
      refine z_getr (c := 0) (kI := 0) (r2 := 1) d_M_wrong_126 fd_M_at fl_M_7 rfl rfl rfl (ks_M_0 hx) (kl_M_0 hx) (kr_M_0_0 hx) ?_
      refine z_iconst (n := 0) d_M_wrong_129 (by decide) ?_
      refine z_iald (c := 1) (m := 3296) d_M_wrong_130 rfl (ks_M_1 hx) (kl_M_1 hx) rfl (by decide) (by decide) ?_
      refine z_i2l d_M_wrong_131 ?_
      obtain ⟨c10, h⟩ := h
      refine z_lmul d_M_wrong_132 c10 ?_
      obtain ⟨c11, h⟩ := h
      refine z_ladd d_M_wrong_133 c11 ?_
      refine z_last (c := 14) (m := 13) d_M_wrong_134 rfl (ks_M_14 hx) (kl_M_14 hx) rfl (by decide) c4 ?_
      obtain ⟨c12, h⟩ := h
      refine z_iinc (n := (-1)) (ls' := [(6, (0, x6 + (-1))), (0, (2, 0)), (1, (0, x1)), (2, (0, x2)), (3, (1, x3)), (5, (0, x5))]) 5 d_M_wrong_135 rfl c12 rfl rfl ?_
      refine z_goto (tgt := 78) d_M_wrong_138 (by decide) ?_
      refine z_sub (ls' := [(0, (2, 0)), (1, (0, x1)), (2, (0, x2)), (3, (1, x3)), (5, (0, x5)), (6, (0, x6 + (-1)))]) [1, 2, 3, 4, 5, 0] rfl ?_
      exact h
    · have h := h.1 c7
      refine z_lconst (v := 0) d_M_wrong_112 (by decide) (by decide) ?_
      refine z_goto (tgt := 133) d_M_wrong_113 (by decide) ?_
      obtain ⟨c13, h⟩ := h
      refine z_ladd d_M_wrong_133 c13 ?_
      refine z_last (c := 14) (m := 13) d_M_wrong_134 rfl (ks_M_14 hx) (kl_M_14 hx) rfl (by decide) c4 ?_
      obtain ⟨c14, h⟩ := h
      refine z_iinc (n := (-1)) (ls' := [(6, (0, x6 + (-1))), (0, (2, 0)), (1, (0, x1)), (2, (0, x2)), (3, (1, x3)), (5, (0, x5))]) 5 d_M_wrong_135 rfl c14 rfl rfl ?_
      refine z_goto (tgt := 78) d_M_wrong_138 (by decide) ?_
      refine z_sub (ls' := [(0, (2, 0)), (1, (0, x1)), (2, (0, x2)), (3, (1, x3)), (5, (0, x5)), (6, (0, x6 + (-1)))]) [1, 2, 3, 4, 5, 0] rfl ?_
      exact h
theorem d_M_below_0 : decode (z_c m_M_below) 0 = .ok (.lload_n 1, 1) := by decide +kernel
theorem d_M_below_1 : decode (z_c m_M_below) 1 = .ok (.lconst 0, 1) := by decide +kernel
theorem d_M_below_2 : decode (z_c m_M_below) 2 = .ok (.ldc2_w 281, 3) := by decide +kernel
theorem d_M_below_5 : decode (z_c m_M_below) 5 = .ok (.invokestatic 265, 3) := by decide +kernel
theorem d_M_below_8 : decode (z_c m_M_below) 8 = .ok (.ifCond .eq 24, 3) := by decide +kernel
theorem d_M_below_11 : decode (z_c m_M_below) 11 = .ok (.iload_n 3, 1) := by decide +kernel
theorem d_M_below_12 : decode (z_c m_M_below) 12 = .ok (.i2l, 1) := by decide +kernel
theorem d_M_below_13 : decode (z_c m_M_below) 13 = .ok (.ldc2_w 283, 3) := by decide +kernel
theorem d_M_below_16 : decode (z_c m_M_below) 16 = .ok (.lconst 0, 1) := by decide +kernel
theorem d_M_below_17 : decode (z_c m_M_below) 17 = .ok (.invokestatic 265, 3) := by decide +kernel
theorem d_M_below_20 : decode (z_c m_M_below) 20 = .ok (.ifCond .eq 12, 3) := by decide +kernel
theorem d_M_below_23 : decode (z_c m_M_below) 23 = .ok (.lload_n 1, 1) := by decide +kernel
theorem d_M_below_24 : decode (z_c m_M_below) 24 = .ok (.lconst 1, 1) := by decide +kernel
theorem d_M_below_25 : decode (z_c m_M_below) 25 = .ok (.iload_n 3, 1) := by decide +kernel
theorem d_M_below_26 : decode (z_c m_M_below) 26 = .ok (.ineg, 1) := by decide +kernel
theorem d_M_below_27 : decode (z_c m_M_below) 27 = .ok (.lshl, 1) := by decide +kernel
theorem d_M_below_28 : decode (z_c m_M_below) 28 = .ok (.lcmp, 1) := by decide +kernel
theorem d_M_below_29 : decode (z_c m_M_below) 29 = .ok (.ifCond .le 9, 3) := by decide +kernel
theorem d_M_below_32 : decode (z_c m_M_below) 32 = .ok (.aload_n 0, 1) := by decide +kernel
theorem d_M_below_33 : decode (z_c m_M_below) 33 = .ok (.iconst 1, 1) := by decide +kernel
theorem d_M_below_34 : decode (z_c m_M_below) 34 = .ok (.invokevirtual 87, 3) := by decide +kernel
theorem d_M_below_37 : decode (z_c m_M_below) 37 = .ok (.ireturn, 1) := by decide +kernel
theorem d_M_below_38 : decode (z_c m_M_below) 38 = .ok (.aload_n 0, 1) := by decide +kernel
theorem d_M_below_39 : decode (z_c m_M_below) 39 = .ok (.invokevirtual 250, 3) := by decide +kernel
theorem d_M_below_42 : decode (z_c m_M_below) 42 = .ok (.iconst 0, 1) := by decide +kernel
theorem d_M_below_43 : decode (z_c m_M_below) 43 = .ok (.istore 4, 2) := by decide +kernel
theorem d_M_below_45 : decode (z_c m_M_below) 45 = .ok (.iload 4, 2) := by decide +kernel
theorem d_M_below_47 : decode (z_c m_M_below) 47 = .ok (.aload_n 0, 1) := by decide +kernel
theorem d_M_below_48 : decode (z_c m_M_below) 48 = .ok (.getfield 237, 3) := by decide +kernel
theorem d_M_below_51 : decode (z_c m_M_below) 51 = .ok (.if_icmp .ge 36, 3) := by decide +kernel
theorem d_M_below_54 : decode (z_c m_M_below) 54 = .ok (.aload_n 0, 1) := by decide +kernel
theorem d_M_below_55 : decode (z_c m_M_below) 55 = .ok (.getfield 44, 3) := by decide +kernel
theorem d_M_below_58 : decode (z_c m_M_below) 58 = .ok (.iload 4, 2) := by decide +kernel
theorem d_M_below_60 : decode (z_c m_M_below) 60 = .ok (.iaload, 1) := by decide +kernel
theorem d_M_below_61 : decode (z_c m_M_below) 61 = .ok (.i2l, 1) := by decide +kernel
theorem d_M_below_62 : decode (z_c m_M_below) 62 = .ok (.lload_n 1, 1) := by decide +kernel
theorem d_M_below_63 : decode (z_c m_M_below) 63 = .ok (.aload_n 0, 1) := by decide +kernel
theorem d_M_below_64 : decode (z_c m_M_below) 64 = .ok (.getfield 47, 3) := by decide +kernel
theorem d_M_below_67 : decode (z_c m_M_below) 67 = .ok (.iload 4, 2) := by decide +kernel
theorem d_M_below_69 : decode (z_c m_M_below) 69 = .ok (.iaload, 1) := by decide +kernel
theorem d_M_below_70 : decode (z_c m_M_below) 70 = .ok (.i2l, 1) := by decide +kernel
theorem d_M_below_71 : decode (z_c m_M_below) 71 = .ok (.lmul, 1) := by decide +kernel
theorem d_M_below_72 : decode (z_c m_M_below) 72 = .ok (.lconst 1, 1) := by decide +kernel
theorem d_M_below_73 : decode (z_c m_M_below) 73 = .ok (.lsub, 1) := by decide +kernel
theorem d_M_below_74 : decode (z_c m_M_below) 74 = .ok (.iload_n 3, 1) := by decide +kernel
theorem d_M_below_75 : decode (z_c m_M_below) 75 = .ok (.ineg, 1) := by decide +kernel
theorem d_M_below_76 : decode (z_c m_M_below) 76 = .ok (.lshr, 1) := by decide +kernel
theorem d_M_below_77 : decode (z_c m_M_below) 77 = .ok (.lcmp, 1) := by decide +kernel
theorem d_M_below_78 : decode (z_c m_M_below) 78 = .ok (.ifCond .gt 9, 3) := by decide +kernel
theorem d_M_below_81 : decode (z_c m_M_below) 81 = .ok (.iinc 4 1, 3) := by decide +kernel
theorem d_M_below_84 : decode (z_c m_M_below) 84 = .ok (.goto (-39), 3) := by decide +kernel
theorem d_M_below_87 : decode (z_c m_M_below) 87 = .ok (.aload_n 0, 1) := by decide +kernel
theorem d_M_below_88 : decode (z_c m_M_below) 88 = .ok (.iload 4, 2) := by decide +kernel
theorem d_M_below_90 : decode (z_c m_M_below) 90 = .ok (.invokevirtual 91, 3) := by decide +kernel
theorem d_M_below_93 : decode (z_c m_M_below) 93 = .ok (.ireturn, 1) := by decide +kernel
abbrev L_M_below_45 (X : z_X) (N : Nat) (σ : z_G) (x1 x3 x4 : Int) (g : z_G) (Q : z_P) : Prop := z_U X 4 m_M_below 45 [(0, (2, 0)), (1, (1, x1)), (3, (0, x3)), (4, (0, x4))] [] N σ g Q
set_option maxRecDepth 8000 in
theorem b_M_below_0 {X : z_X} {N : Nat} {σ g : z_G} {Q : z_P} {a1 a3 : Int} (hx : z_lay X N σ 0 z_SM z_RM) (h : ((a1 < 0) → Q (-1) (z_up g 0 1 1)) ∧ (¬ (a1 < 0) → (((9007199254740992 < a1) → Q (-1) (z_up g 0 1 1)) ∧ (¬ (9007199254740992 < a1) → (((a3 < (-60)) → Q (-1) (z_up g 0 1 1)) ∧ (¬ (a3 < (-60)) → (((0 < a3) → Q (-1) (z_up g 0 1 1)) ∧ (¬ (0 < a3) → ((-2147483648 ≤ (-a3) ∧ (-a3) ≤ 2147483647) ∧ (((a1 ≤ (Int64.toInt (Int64.ofInt 1 <<< ((Int32.ofInt (-a3)).toInt64 &&& 63)))) → (z_O X 2 m_M_lays [(2, 0), (0, g 1 1)] N σ g (fun r0 g0 => L_M_below_45 X N σ a1 a3 0 g0 Q))) ∧ (¬ (a1 ≤ (Int64.toInt (Int64.ofInt 1 <<< ((Int32.ofInt (-a3)).toInt64 &&& 63)))) → Q (-1) (z_up g 0 1 1)))))))))))) : z_O X 4 m_M_below [(2, 0), (1, a1), (0, a3)] N σ g Q := by
  refine z_Oenter mi_M_below rfl (fun _ => ?_)
  show z_U X 4 m_M_below 0 [(0, (2, 0)), (1, (1, a1)), (3, (0, a3))] [] N σ g Q
  refine z_lload_n (i := 1) 1 d_M_below_0 rfl rfl ?_
  refine z_lconst (v := 0) d_M_below_1 (by decide) (by decide) ?_
  refine z_ldc2 (v := 9007199254740992) d_M_below_2 kc_M_281 (by decide) ?_
  refine z_cS (as := [(1, a1), (1, 0), (1, 9007199254740992)]) (d' := 1) (st := []) d_M_below_5 mi_M_isFrom ml_M_265 ms_M_isFrom rfl rfl rfl rfl rfl (b_M_isFrom_0  ?_)
  refine ⟨fun c1 => ?_, fun c1 => ?_⟩
  · have h := h.1 c1
    intro _
    show z_U X 4 m_M_below 8 [(0, (2, 0)), (1, (1, a1)), (3, (0, a3))] [(0, 0)] N σ g Q
    refine z_if_eq (tgt := 32) d_M_below_8 (by decide) (fun _ => ?_) (fun c => absurd (by decide) c)
    refine z_aload_n (i := 0) (c := 0) 0 d_M_below_32 rfl rfl rfl ?_
    refine z_iconst (n := 1) d_M_below_33 (by decide) ?_
    refine z_cV (c := 0) (as := [(0, 1)]) (d' := 1) (st := []) d_M_below_34 mi_M_refuse ml_M_87 mv_M_refuse se_M_refuse rfl rfl rfl rfl (ks_M_0 hx) rfl rfl (kl_M_0 hx) rfl rfl (b_M_refuse_0 hx ?_)
    intro _
    show z_U X 4 m_M_below 37 [(0, (2, 0)), (1, (1, a1)), (3, (0, a3))] [(0, (-1))] N σ (z_up g 0 1 1) Q
    exact z_iret d_M_below_37 rfl (by decide) (by decide) ⟨rfl, rfl, h⟩
  · have h := h.2 c1
    refine ⟨fun c2 => ?_, fun c2 => ?_⟩
    · have h := h.1 c2
      intro _
      show z_U X 4 m_M_below 8 [(0, (2, 0)), (1, (1, a1)), (3, (0, a3))] [(0, 0)] N σ g Q
      refine z_if_eq (tgt := 32) d_M_below_8 (by decide) (fun _ => ?_) (fun c => absurd (by decide) c)
      refine z_aload_n (i := 0) (c := 0) 0 d_M_below_32 rfl rfl rfl ?_
      refine z_iconst (n := 1) d_M_below_33 (by decide) ?_
      refine z_cV (c := 0) (as := [(0, 1)]) (d' := 1) (st := []) d_M_below_34 mi_M_refuse ml_M_87 mv_M_refuse se_M_refuse rfl rfl rfl rfl (ks_M_0 hx) rfl rfl (kl_M_0 hx) rfl rfl (b_M_refuse_0 hx ?_)
      intro _
      show z_U X 4 m_M_below 37 [(0, (2, 0)), (1, (1, a1)), (3, (0, a3))] [(0, (-1))] N σ (z_up g 0 1 1) Q
      exact z_iret d_M_below_37 rfl (by decide) (by decide) ⟨rfl, rfl, h⟩
    · have h := h.2 c2
      intro _
      show z_U X 4 m_M_below 8 [(0, (2, 0)), (1, (1, a1)), (3, (0, a3))] [(0, 1)] N σ g Q
      refine z_if_eq (tgt := 32) d_M_below_8 (by decide) (fun c => absurd c (by decide)) (fun _ => ?_)
      refine z_iload_n (i := 3) 2 d_M_below_11 rfl rfl ?_
      refine z_i2l d_M_below_12 ?_
      refine z_ldc2 (v := (-60)) d_M_below_13 kc_M_283 (by decide) ?_
      refine z_lconst (v := 0) d_M_below_16 (by decide) (by decide) ?_
      refine z_cS (as := [(1, a3), (1, (-60)), (1, 0)]) (d' := 1) (st := []) d_M_below_17 mi_M_isFrom ml_M_265 ms_M_isFrom rfl rfl rfl rfl rfl (b_M_isFrom_0  ?_)
      refine ⟨fun c3 => ?_, fun c3 => ?_⟩
      · have h := h.1 c3
        intro _
        show z_U X 4 m_M_below 20 [(0, (2, 0)), (1, (1, a1)), (3, (0, a3))] [(0, 0)] N σ g Q
        refine z_if_eq (tgt := 32) d_M_below_20 (by decide) (fun _ => ?_) (fun c => absurd (by decide) c)
        refine z_aload_n (i := 0) (c := 0) 0 d_M_below_32 rfl rfl rfl ?_
        refine z_iconst (n := 1) d_M_below_33 (by decide) ?_
        refine z_cV (c := 0) (as := [(0, 1)]) (d' := 1) (st := []) d_M_below_34 mi_M_refuse ml_M_87 mv_M_refuse se_M_refuse rfl rfl rfl rfl (ks_M_0 hx) rfl rfl (kl_M_0 hx) rfl rfl (b_M_refuse_0 hx ?_)
        intro _
        show z_U X 4 m_M_below 37 [(0, (2, 0)), (1, (1, a1)), (3, (0, a3))] [(0, (-1))] N σ (z_up g 0 1 1) Q
        exact z_iret d_M_below_37 rfl (by decide) (by decide) ⟨rfl, rfl, h⟩
      · have h := h.2 c3
        refine ⟨fun c4 => ?_, fun c4 => ?_⟩
        · have h := h.1 c4
          intro _
          show z_U X 4 m_M_below 20 [(0, (2, 0)), (1, (1, a1)), (3, (0, a3))] [(0, 0)] N σ g Q
          refine z_if_eq (tgt := 32) d_M_below_20 (by decide) (fun _ => ?_) (fun c => absurd (by decide) c)
          refine z_aload_n (i := 0) (c := 0) 0 d_M_below_32 rfl rfl rfl ?_
          refine z_iconst (n := 1) d_M_below_33 (by decide) ?_
          refine z_cV (c := 0) (as := [(0, 1)]) (d' := 1) (st := []) d_M_below_34 mi_M_refuse ml_M_87 mv_M_refuse se_M_refuse rfl rfl rfl rfl (ks_M_0 hx) rfl rfl (kl_M_0 hx) rfl rfl (b_M_refuse_0 hx ?_)
          intro _
          show z_U X 4 m_M_below 37 [(0, (2, 0)), (1, (1, a1)), (3, (0, a3))] [(0, (-1))] N σ (z_up g 0 1 1) Q
          exact z_iret d_M_below_37 rfl (by decide) (by decide) ⟨rfl, rfl, h⟩
        · have h := h.2 c4
          intro _
          show z_U X 4 m_M_below 20 [(0, (2, 0)), (1, (1, a1)), (3, (0, a3))] [(0, 1)] N σ g Q
          refine z_if_eq (tgt := 32) d_M_below_20 (by decide) (fun c => absurd c (by decide)) (fun _ => ?_)
          refine z_lload_n (i := 1) 1 d_M_below_23 rfl rfl ?_
          refine z_lconst (v := 1) d_M_below_24 (by decide) (by decide) ?_
          refine z_iload_n (i := 3) 2 d_M_below_25 rfl rfl ?_
          obtain ⟨c5, h⟩ := h
          refine z_ineg d_M_below_26 c5 ?_
          refine z_lshl d_M_below_27 ?_
          refine z_lcmp_le (tgt := 38) d_M_below_28 d_M_below_29 (by decide) (fun c6 => ?_) (fun c6 => ?_)
          · have h := h.1 c6
            refine z_aload_n (i := 0) (c := 0) 0 d_M_below_38 rfl rfl rfl ?_
            refine z_cV (c := 0) (as := []) (d' := 3) (st := []) d_M_below_39 mi_M_laysRow ml_M_250 mv_M_laysRow se_M_laysRow rfl rfl rfl rfl (ks_M_0 hx) rfl rfl (kl_M_0 hx) rfl rfl (b_M_laysRow_0 hx ?_)
            refine z_Omono h (fun r0 g0 _ h => ?_)
            intro _
            show z_U X 4 m_M_below 42 [(0, (2, 0)), (1, (1, a1)), (3, (0, a3))] [] N σ g0 Q
            refine z_iconst (n := 0) d_M_below_42 (by decide) ?_
            refine z_istore (ls' := [(4, (0, 0)), (0, (2, 0)), (1, (1, a1)), (3, (0, a3))]) d_M_below_43 rfl rfl ?_
            refine z_sub (ls' := [(0, (2, 0)), (1, (1, a1)), (3, (0, a3)), (4, (0, 0))]) [1, 2, 3, 0] rfl ?_
            exact h
          · have h := h.2 c6
            refine z_aload_n (i := 0) (c := 0) 0 d_M_below_32 rfl rfl rfl ?_
            refine z_iconst (n := 1) d_M_below_33 (by decide) ?_
            refine z_cV (c := 0) (as := [(0, 1)]) (d' := 1) (st := []) d_M_below_34 mi_M_refuse ml_M_87 mv_M_refuse se_M_refuse rfl rfl rfl rfl (ks_M_0 hx) rfl rfl (kl_M_0 hx) rfl rfl (b_M_refuse_0 hx ?_)
            intro _
            show z_U X 4 m_M_below 37 [(0, (2, 0)), (1, (1, a1)), (3, (0, a3))] [(0, (-1))] N σ (z_up g 0 1 1) Q
            exact z_iret d_M_below_37 rfl (by decide) (by decide) ⟨rfl, rfl, h⟩
set_option maxRecDepth 8000 in
theorem b_M_below_45 {X : z_X} {N : Nat} {σ g : z_G} {Q : z_P} {x1 x3 x4 : Int} (hx : z_lay X N σ 0 z_SM z_RM) (h : (((g 0 24) ≤ x4) → Q x4 (z_up g 0 1 0)) ∧ (¬ ((g 0 24) ≤ x4) → ((0 ≤ x4 ∧ x4 < 12233) ∧ ((-9223372036854775808 ≤ (x1 * (g 9 x4)) ∧ (x1 * (g 9 x4)) ≤ 9223372036854775807) ∧ ((-9223372036854775808 ≤ ((x1 * (g 9 x4)) - 1) ∧ ((x1 * (g 9 x4)) - 1) ≤ 9223372036854775807) ∧ ((-2147483648 ≤ (-x3) ∧ (-x3) ≤ 2147483647) ∧ ((((Int64.toInt (Int64.ofInt ((x1 * (g 9 x4)) - 1) >>> ((Int32.ofInt (-x3)).toInt64 &&& 63))) < (g 8 x4)) → Q x4 (z_up g 0 1 0)) ∧ (¬ ((Int64.toInt (Int64.ofInt ((x1 * (g 9 x4)) - 1) >>> ((Int32.ofInt (-x3)).toInt64 &&& 63))) < (g 8 x4)) → ((-2147483648 ≤ (x4 + 1) ∧ (x4 + 1) ≤ 2147483647) ∧ L_M_below_45 X N σ x1 x3 (x4 + 1) g Q))))))))) : L_M_below_45 X N σ x1 x3 x4 g Q := by
  refine z_iload 3 d_M_below_45 rfl ?_
  refine z_aload_n (i := 0) (c := 0) 0 d_M_below_47 rfl rfl rfl ?_
  refine z_geti (c := 0) (kI := 24) d_M_below_48 fd_M_many fl_M_237 (Or.inl rfl) rfl rfl (ks_M_0 hx) (kl_M_0 hx) ?_
  refine z_icmp_ge (tgt := 87) d_M_below_51 (by decide) (fun c1 => ?_) (fun c1 => ?_)
  · have h := h.1 c1
    refine z_aload_n (i := 0) (c := 0) 0 d_M_below_87 rfl rfl rfl ?_
    refine z_iload 3 d_M_below_88 rfl ?_
    refine z_cV (c := 0) (as := [(0, x4)]) (d' := 1) (st := []) d_M_below_90 mi_M_gives ml_M_91 mv_M_gives se_M_gives rfl rfl rfl rfl (ks_M_0 hx) rfl rfl (kl_M_0 hx) rfl rfl (b_M_gives_0 hx ?_)
    intro _
    show z_U X 4 m_M_below 93 [(0, (2, 0)), (1, (1, x1)), (3, (0, x3)), (4, (0, x4))] [(0, x4)] N σ (z_up g 0 1 0) Q
    exact z_iret d_M_below_93 rfl (by decide) (by decide) ⟨rfl, rfl, h⟩
  · have h := h.2 c1
    refine z_aload_n (i := 0) (c := 0) 0 d_M_below_54 rfl rfl rfl ?_
    refine z_getr (c := 0) (kI := 22) (r2 := 8) d_M_below_55 fd_M_topBy fl_M_44 rfl rfl rfl (ks_M_0 hx) (kl_M_0 hx) (kr_M_0_22 hx) ?_
    refine z_iload 3 d_M_below_58 rfl ?_
    obtain ⟨c2, h⟩ := h
    refine z_iald (c := 8) (m := 12233) d_M_below_60 rfl (ks_M_8 hx) (kl_M_8 hx) rfl (by decide) c2 ?_
    refine z_i2l d_M_below_61 ?_
    refine z_lload_n (i := 1) 1 d_M_below_62 rfl rfl ?_
    refine z_aload_n (i := 0) (c := 0) 0 d_M_below_63 rfl rfl rfl ?_
    refine z_getr (c := 0) (kI := 23) (r2 := 9) d_M_below_64 fd_M_bottomBy fl_M_47 rfl rfl rfl (ks_M_0 hx) (kl_M_0 hx) (kr_M_0_23 hx) ?_
    refine z_iload 3 d_M_below_67 rfl ?_
    refine z_iald (c := 9) (m := 12233) d_M_below_69 rfl (ks_M_9 hx) (kl_M_9 hx) rfl (by decide) c2 ?_
    refine z_i2l d_M_below_70 ?_
    obtain ⟨c3, h⟩ := h
    refine z_lmul d_M_below_71 c3 ?_
    refine z_lconst (v := 1) d_M_below_72 (by decide) (by decide) ?_
    obtain ⟨c4, h⟩ := h
    refine z_lsub d_M_below_73 c4 ?_
    refine z_iload_n (i := 3) 2 d_M_below_74 rfl rfl ?_
    obtain ⟨c5, h⟩ := h
    refine z_ineg d_M_below_75 c5 ?_
    refine z_lshr d_M_below_76 ?_
    refine z_lcmp_gt (tgt := 87) d_M_below_77 d_M_below_78 (by decide) (fun c6 => ?_) (fun c6 => ?_)
    · have h := h.1 c6
      refine z_aload_n (i := 0) (c := 0) 0 d_M_below_87 rfl rfl rfl ?_
      refine z_iload 3 d_M_below_88 rfl ?_
      refine z_cV (c := 0) (as := [(0, x4)]) (d' := 1) (st := []) d_M_below_90 mi_M_gives ml_M_91 mv_M_gives se_M_gives rfl rfl rfl rfl (ks_M_0 hx) rfl rfl (kl_M_0 hx) rfl rfl (b_M_gives_0 hx ?_)
      intro _
      show z_U X 4 m_M_below 93 [(0, (2, 0)), (1, (1, x1)), (3, (0, x3)), (4, (0, x4))] [(0, x4)] N σ (z_up g 0 1 0) Q
      exact z_iret d_M_below_93 rfl (by decide) (by decide) ⟨rfl, rfl, h⟩
    · have h := h.2 c6
      obtain ⟨c7, h⟩ := h
      refine z_iinc (n := 1) (ls' := [(4, (0, x4 + 1)), (0, (2, 0)), (1, (1, x1)), (3, (0, x3))]) 3 d_M_below_81 rfl c7 rfl rfl ?_
      refine z_goto (tgt := 45) d_M_below_84 (by decide) ?_
      refine z_sub (ls' := [(0, (2, 0)), (1, (1, x1)), (3, (0, x3)), (4, (0, x4 + 1))]) [1, 2, 3, 0] rfl ?_
      exact h
theorem d_M_between_0 : decode (z_c m_M_between) 0 = .ok (.iload_n 1, 1) := by decide +kernel
theorem d_M_between_1 : decode (z_c m_M_between) 1 = .ok (.iload_n 2, 1) := by decide +kernel
theorem d_M_between_2 : decode (z_c m_M_between) 2 = .ok (.invokestatic 272, 3) := by decide +kernel
theorem d_M_between_5 : decode (z_c m_M_between) 5 = .ok (.ifCond .eq 12, 3) := by decide +kernel
theorem d_M_between_8 : decode (z_c m_M_between) 8 = .ok (.iload_n 3, 1) := by decide +kernel
theorem d_M_between_9 : decode (z_c m_M_between) 9 = .ok (.iload 4, 2) := by decide +kernel
theorem d_M_between_11 : decode (z_c m_M_between) 11 = .ok (.invokestatic 272, 3) := by decide +kernel
theorem d_M_between_14 : decode (z_c m_M_between) 14 = .ok (.ifCond .ne 9, 3) := by decide +kernel
theorem d_M_between_17 : decode (z_c m_M_between) 17 = .ok (.aload_n 0, 1) := by decide +kernel
theorem d_M_between_18 : decode (z_c m_M_between) 18 = .ok (.iconst 1, 1) := by decide +kernel
theorem d_M_between_19 : decode (z_c m_M_between) 19 = .ok (.invokevirtual 87, 3) := by decide +kernel
theorem d_M_between_22 : decode (z_c m_M_between) 22 = .ok (.ireturn, 1) := by decide +kernel
theorem d_M_between_23 : decode (z_c m_M_between) 23 = .ok (.aload_n 0, 1) := by decide +kernel
theorem d_M_between_24 : decode (z_c m_M_between) 24 = .ok (.invokevirtual 250, 3) := by decide +kernel
theorem d_M_between_27 : decode (z_c m_M_between) 27 = .ok (.iconst 0, 1) := by decide +kernel
theorem d_M_between_28 : decode (z_c m_M_between) 28 = .ok (.istore 5, 2) := by decide +kernel
theorem d_M_between_30 : decode (z_c m_M_between) 30 = .ok (.iconst 0, 1) := by decide +kernel
theorem d_M_between_31 : decode (z_c m_M_between) 31 = .ok (.istore 6, 2) := by decide +kernel
theorem d_M_between_33 : decode (z_c m_M_between) 33 = .ok (.iload 6, 2) := by decide +kernel
theorem d_M_between_35 : decode (z_c m_M_between) 35 = .ok (.aload_n 0, 1) := by decide +kernel
theorem d_M_between_36 : decode (z_c m_M_between) 36 = .ok (.getfield 237, 3) := by decide +kernel
theorem d_M_between_39 : decode (z_c m_M_between) 39 = .ok (.if_icmp .ge 82, 3) := by decide +kernel
theorem d_M_between_42 : decode (z_c m_M_between) 42 = .ok (.aload_n 0, 1) := by decide +kernel
theorem d_M_between_43 : decode (z_c m_M_between) 43 = .ok (.getfield 44, 3) := by decide +kernel
theorem d_M_between_46 : decode (z_c m_M_between) 46 = .ok (.iload 6, 2) := by decide +kernel
theorem d_M_between_48 : decode (z_c m_M_between) 48 = .ok (.iaload, 1) := by decide +kernel
theorem d_M_between_49 : decode (z_c m_M_between) 49 = .ok (.iload_n 2, 1) := by decide +kernel
theorem d_M_between_50 : decode (z_c m_M_between) 50 = .ok (.imul, 1) := by decide +kernel
theorem d_M_between_51 : decode (z_c m_M_between) 51 = .ok (.iload_n 1, 1) := by decide +kernel
theorem d_M_between_52 : decode (z_c m_M_between) 52 = .ok (.aload_n 0, 1) := by decide +kernel
theorem d_M_between_53 : decode (z_c m_M_between) 53 = .ok (.getfield 47, 3) := by decide +kernel
theorem d_M_between_56 : decode (z_c m_M_between) 56 = .ok (.iload 6, 2) := by decide +kernel
theorem d_M_between_58 : decode (z_c m_M_between) 58 = .ok (.iaload, 1) := by decide +kernel
theorem d_M_between_59 : decode (z_c m_M_between) 59 = .ok (.imul, 1) := by decide +kernel
theorem d_M_between_60 : decode (z_c m_M_between) 60 = .ok (.isub, 1) := by decide +kernel
theorem d_M_between_61 : decode (z_c m_M_between) 61 = .ok (.istore 7, 2) := by decide +kernel
theorem d_M_between_63 : decode (z_c m_M_between) 63 = .ok (.aload_n 0, 1) := by decide +kernel
theorem d_M_between_64 : decode (z_c m_M_between) 64 = .ok (.getfield 44, 3) := by decide +kernel
theorem d_M_between_67 : decode (z_c m_M_between) 67 = .ok (.iload 6, 2) := by decide +kernel
theorem d_M_between_69 : decode (z_c m_M_between) 69 = .ok (.iaload, 1) := by decide +kernel
theorem d_M_between_70 : decode (z_c m_M_between) 70 = .ok (.iload 4, 2) := by decide +kernel
theorem d_M_between_72 : decode (z_c m_M_between) 72 = .ok (.imul, 1) := by decide +kernel
theorem d_M_between_73 : decode (z_c m_M_between) 73 = .ok (.iload_n 3, 1) := by decide +kernel
theorem d_M_between_74 : decode (z_c m_M_between) 74 = .ok (.aload_n 0, 1) := by decide +kernel
theorem d_M_between_75 : decode (z_c m_M_between) 75 = .ok (.getfield 47, 3) := by decide +kernel
theorem d_M_between_78 : decode (z_c m_M_between) 78 = .ok (.iload 6, 2) := by decide +kernel
theorem d_M_between_80 : decode (z_c m_M_between) 80 = .ok (.iaload, 1) := by decide +kernel
theorem d_M_between_81 : decode (z_c m_M_between) 81 = .ok (.imul, 1) := by decide +kernel
theorem d_M_between_82 : decode (z_c m_M_between) 82 = .ok (.isub, 1) := by decide +kernel
theorem d_M_between_83 : decode (z_c m_M_between) 83 = .ok (.istore 8, 2) := by decide +kernel
theorem d_M_between_85 : decode (z_c m_M_between) 85 = .ok (.iload 5, 2) := by decide +kernel
theorem d_M_between_87 : decode (z_c m_M_between) 87 = .ok (.iload 7, 2) := by decide +kernel
theorem d_M_between_89 : decode (z_c m_M_between) 89 = .ok (.ifCond .le 8, 3) := by decide +kernel
theorem d_M_between_92 : decode (z_c m_M_between) 92 = .ok (.iload 8, 2) := by decide +kernel
theorem d_M_between_94 : decode (z_c m_M_between) 94 = .ok (.ifCond .lt 13, 3) := by decide +kernel
theorem d_M_between_97 : decode (z_c m_M_between) 97 = .ok (.iload 7, 2) := by decide +kernel
theorem d_M_between_99 : decode (z_c m_M_between) 99 = .ok (.ifCond .ge 12, 3) := by decide +kernel
theorem d_M_between_102 : decode (z_c m_M_between) 102 = .ok (.iload 8, 2) := by decide +kernel
theorem d_M_between_104 : decode (z_c m_M_between) 104 = .ok (.ifCond .le 7, 3) := by decide +kernel
theorem d_M_between_107 : decode (z_c m_M_between) 107 = .ok (.iconst 1, 1) := by decide +kernel
theorem d_M_between_108 : decode (z_c m_M_between) 108 = .ok (.goto 4, 3) := by decide +kernel
theorem d_M_between_111 : decode (z_c m_M_between) 111 = .ok (.iconst 0, 1) := by decide +kernel
theorem d_M_between_112 : decode (z_c m_M_between) 112 = .ok (.iadd, 1) := by decide +kernel
theorem d_M_between_113 : decode (z_c m_M_between) 113 = .ok (.istore 5, 2) := by decide +kernel
theorem d_M_between_115 : decode (z_c m_M_between) 115 = .ok (.iinc 6 1, 3) := by decide +kernel
theorem d_M_between_118 : decode (z_c m_M_between) 118 = .ok (.goto (-85), 3) := by decide +kernel
theorem d_M_between_121 : decode (z_c m_M_between) 121 = .ok (.aload_n 0, 1) := by decide +kernel
theorem d_M_between_122 : decode (z_c m_M_between) 122 = .ok (.iload 5, 2) := by decide +kernel
theorem d_M_between_124 : decode (z_c m_M_between) 124 = .ok (.invokevirtual 91, 3) := by decide +kernel
theorem d_M_between_127 : decode (z_c m_M_between) 127 = .ok (.ireturn, 1) := by decide +kernel
abbrev L_M_between_33 (X : z_X) (N : Nat) (σ : z_G) (x1 x2 x3 x4 x5 x6 : Int) (g : z_G) (Q : z_P) : Prop := z_U X 4 m_M_between 33 [(0, (2, 0)), (1, (0, x1)), (2, (0, x2)), (3, (0, x3)), (4, (0, x4)), (5, (0, x5)), (6, (0, x6))] [] N σ g Q
set_option maxRecDepth 8000 in
theorem b_M_between_0 {X : z_X} {N : Nat} {σ g : z_G} {Q : z_P} {a1 a2 a3 a4 : Int} (hx : z_lay X N σ 0 z_SM z_RM) (h : ((a2 < 1) → Q (-1) (z_up g 0 1 1)) ∧ (¬ (a2 < 1) → (((9999 < a2) → Q (-1) (z_up g 0 1 1)) ∧ (¬ (9999 < a2) → (((a1 < 0) → Q (-1) (z_up g 0 1 1)) ∧ (¬ (a1 < 0) → (((a2 < a1) → Q (-1) (z_up g 0 1 1)) ∧ (¬ (a2 < a1) → (((a4 < 1) → Q (-1) (z_up g 0 1 1)) ∧ (¬ (a4 < 1) → (((9999 < a4) → Q (-1) (z_up g 0 1 1)) ∧ (¬ (9999 < a4) → (((a3 < 0) → Q (-1) (z_up g 0 1 1)) ∧ (¬ (a3 < 0) → (((a4 < a3) → Q (-1) (z_up g 0 1 1)) ∧ (¬ (a4 < a3) → (z_O X 2 m_M_lays [(2, 0), (0, g 1 1)] N σ g (fun r0 g0 => L_M_between_33 X N σ a1 a2 a3 a4 0 0 g0 Q)))))))))))))))))) : z_O X 4 m_M_between [(2, 0), (0, a1), (0, a2), (0, a3), (0, a4)] N σ g Q := by
  refine z_Oenter mi_M_between rfl (fun _ => ?_)
  show z_U X 4 m_M_between 0 [(0, (2, 0)), (1, (0, a1)), (2, (0, a2)), (3, (0, a3)), (4, (0, a4))] [] N σ g Q
  refine z_iload_n (i := 1) 1 d_M_between_0 rfl rfl ?_
  refine z_iload_n (i := 2) 2 d_M_between_1 rfl rfl ?_
  refine z_cS (as := [(0, a1), (0, a2)]) (d' := 1) (st := []) d_M_between_2 mi_M_isValue ml_M_272 ms_M_isValue rfl rfl rfl rfl rfl (b_M_isValue_0  ?_)
  refine ⟨fun c1 => ?_, fun c1 => ?_⟩
  · have h := h.1 c1
    intro _
    show z_U X 4 m_M_between 5 [(0, (2, 0)), (1, (0, a1)), (2, (0, a2)), (3, (0, a3)), (4, (0, a4))] [(0, 0)] N σ g Q
    refine z_if_eq (tgt := 17) d_M_between_5 (by decide) (fun _ => ?_) (fun c => absurd (by decide) c)
    refine z_aload_n (i := 0) (c := 0) 0 d_M_between_17 rfl rfl rfl ?_
    refine z_iconst (n := 1) d_M_between_18 (by decide) ?_
    refine z_cV (c := 0) (as := [(0, 1)]) (d' := 1) (st := []) d_M_between_19 mi_M_refuse ml_M_87 mv_M_refuse se_M_refuse rfl rfl rfl rfl (ks_M_0 hx) rfl rfl (kl_M_0 hx) rfl rfl (b_M_refuse_0 hx ?_)
    intro _
    show z_U X 4 m_M_between 22 [(0, (2, 0)), (1, (0, a1)), (2, (0, a2)), (3, (0, a3)), (4, (0, a4))] [(0, (-1))] N σ (z_up g 0 1 1) Q
    exact z_iret d_M_between_22 rfl (by decide) (by decide) ⟨rfl, rfl, h⟩
  · have h := h.2 c1
    refine ⟨fun c2 => ?_, fun c2 => ?_⟩
    · have h := h.1 c2
      intro _
      show z_U X 4 m_M_between 5 [(0, (2, 0)), (1, (0, a1)), (2, (0, a2)), (3, (0, a3)), (4, (0, a4))] [(0, 0)] N σ g Q
      refine z_if_eq (tgt := 17) d_M_between_5 (by decide) (fun _ => ?_) (fun c => absurd (by decide) c)
      refine z_aload_n (i := 0) (c := 0) 0 d_M_between_17 rfl rfl rfl ?_
      refine z_iconst (n := 1) d_M_between_18 (by decide) ?_
      refine z_cV (c := 0) (as := [(0, 1)]) (d' := 1) (st := []) d_M_between_19 mi_M_refuse ml_M_87 mv_M_refuse se_M_refuse rfl rfl rfl rfl (ks_M_0 hx) rfl rfl (kl_M_0 hx) rfl rfl (b_M_refuse_0 hx ?_)
      intro _
      show z_U X 4 m_M_between 22 [(0, (2, 0)), (1, (0, a1)), (2, (0, a2)), (3, (0, a3)), (4, (0, a4))] [(0, (-1))] N σ (z_up g 0 1 1) Q
      exact z_iret d_M_between_22 rfl (by decide) (by decide) ⟨rfl, rfl, h⟩
    · have h := h.2 c2
      refine ⟨fun c3 => ?_, fun c3 => ?_⟩
      · have h := h.1 c3
        intro _
        show z_U X 4 m_M_between 5 [(0, (2, 0)), (1, (0, a1)), (2, (0, a2)), (3, (0, a3)), (4, (0, a4))] [(0, 0)] N σ g Q
        refine z_if_eq (tgt := 17) d_M_between_5 (by decide) (fun _ => ?_) (fun c => absurd (by decide) c)
        refine z_aload_n (i := 0) (c := 0) 0 d_M_between_17 rfl rfl rfl ?_
        refine z_iconst (n := 1) d_M_between_18 (by decide) ?_
        refine z_cV (c := 0) (as := [(0, 1)]) (d' := 1) (st := []) d_M_between_19 mi_M_refuse ml_M_87 mv_M_refuse se_M_refuse rfl rfl rfl rfl (ks_M_0 hx) rfl rfl (kl_M_0 hx) rfl rfl (b_M_refuse_0 hx ?_)
        intro _
        show z_U X 4 m_M_between 22 [(0, (2, 0)), (1, (0, a1)), (2, (0, a2)), (3, (0, a3)), (4, (0, a4))] [(0, (-1))] N σ (z_up g 0 1 1) Q
        exact z_iret d_M_between_22 rfl (by decide) (by decide) ⟨rfl, rfl, h⟩
      · have h := h.2 c3
        refine ⟨fun c4 => ?_, fun c4 => ?_⟩
        · have h := h.1 c4
          intro _
          show z_U X 4 m_M_between 5 [(0, (2, 0)), (1, (0, a1)), (2, (0, a2)), (3, (0, a3)), (4, (0, a4))] [(0, 0)] N σ g Q
          refine z_if_eq (tgt := 17) d_M_between_5 (by decide) (fun _ => ?_) (fun c => absurd (by decide) c)
          refine z_aload_n (i := 0) (c := 0) 0 d_M_between_17 rfl rfl rfl ?_
          refine z_iconst (n := 1) d_M_between_18 (by decide) ?_
          refine z_cV (c := 0) (as := [(0, 1)]) (d' := 1) (st := []) d_M_between_19 mi_M_refuse ml_M_87 mv_M_refuse se_M_refuse rfl rfl rfl rfl (ks_M_0 hx) rfl rfl (kl_M_0 hx) rfl rfl (b_M_refuse_0 hx ?_)
          intro _
          show z_U X 4 m_M_between 22 [(0, (2, 0)), (1, (0, a1)), (2, (0, a2)), (3, (0, a3)), (4, (0, a4))] [(0, (-1))] N σ (z_up g 0 1 1) Q
          exact z_iret d_M_between_22 rfl (by decide) (by decide) ⟨rfl, rfl, h⟩
        · have h := h.2 c4
          intro _
          show z_U X 4 m_M_between 5 [(0, (2, 0)), (1, (0, a1)), (2, (0, a2)), (3, (0, a3)), (4, (0, a4))] [(0, 1)] N σ g Q
          refine z_if_eq (tgt := 17) d_M_between_5 (by decide) (fun c => absurd c (by decide)) (fun _ => ?_)
          refine z_iload_n (i := 3) 3 d_M_between_8 rfl rfl ?_
          refine z_iload 4 d_M_between_9 rfl ?_
          refine z_cS (as := [(0, a3), (0, a4)]) (d' := 1) (st := []) d_M_between_11 mi_M_isValue ml_M_272 ms_M_isValue rfl rfl rfl rfl rfl (b_M_isValue_0  ?_)
          refine ⟨fun c5 => ?_, fun c5 => ?_⟩
          · have h := h.1 c5
            intro _
            show z_U X 4 m_M_between 14 [(0, (2, 0)), (1, (0, a1)), (2, (0, a2)), (3, (0, a3)), (4, (0, a4))] [(0, 0)] N σ g Q
            refine z_if_ne (tgt := 23) d_M_between_14 (by decide) (fun c => absurd (by decide) c) (fun _ => ?_)
            refine z_aload_n (i := 0) (c := 0) 0 d_M_between_17 rfl rfl rfl ?_
            refine z_iconst (n := 1) d_M_between_18 (by decide) ?_
            refine z_cV (c := 0) (as := [(0, 1)]) (d' := 1) (st := []) d_M_between_19 mi_M_refuse ml_M_87 mv_M_refuse se_M_refuse rfl rfl rfl rfl (ks_M_0 hx) rfl rfl (kl_M_0 hx) rfl rfl (b_M_refuse_0 hx ?_)
            intro _
            show z_U X 4 m_M_between 22 [(0, (2, 0)), (1, (0, a1)), (2, (0, a2)), (3, (0, a3)), (4, (0, a4))] [(0, (-1))] N σ (z_up g 0 1 1) Q
            exact z_iret d_M_between_22 rfl (by decide) (by decide) ⟨rfl, rfl, h⟩
          · have h := h.2 c5
            refine ⟨fun c6 => ?_, fun c6 => ?_⟩
            · have h := h.1 c6
              intro _
              show z_U X 4 m_M_between 14 [(0, (2, 0)), (1, (0, a1)), (2, (0, a2)), (3, (0, a3)), (4, (0, a4))] [(0, 0)] N σ g Q
              refine z_if_ne (tgt := 23) d_M_between_14 (by decide) (fun c => absurd (by decide) c) (fun _ => ?_)
              refine z_aload_n (i := 0) (c := 0) 0 d_M_between_17 rfl rfl rfl ?_
              refine z_iconst (n := 1) d_M_between_18 (by decide) ?_
              refine z_cV (c := 0) (as := [(0, 1)]) (d' := 1) (st := []) d_M_between_19 mi_M_refuse ml_M_87 mv_M_refuse se_M_refuse rfl rfl rfl rfl (ks_M_0 hx) rfl rfl (kl_M_0 hx) rfl rfl (b_M_refuse_0 hx ?_)
              intro _
              show z_U X 4 m_M_between 22 [(0, (2, 0)), (1, (0, a1)), (2, (0, a2)), (3, (0, a3)), (4, (0, a4))] [(0, (-1))] N σ (z_up g 0 1 1) Q
              exact z_iret d_M_between_22 rfl (by decide) (by decide) ⟨rfl, rfl, h⟩
            · have h := h.2 c6
              refine ⟨fun c7 => ?_, fun c7 => ?_⟩
              · have h := h.1 c7
                intro _
                show z_U X 4 m_M_between 14 [(0, (2, 0)), (1, (0, a1)), (2, (0, a2)), (3, (0, a3)), (4, (0, a4))] [(0, 0)] N σ g Q
                refine z_if_ne (tgt := 23) d_M_between_14 (by decide) (fun c => absurd (by decide) c) (fun _ => ?_)
                refine z_aload_n (i := 0) (c := 0) 0 d_M_between_17 rfl rfl rfl ?_
                refine z_iconst (n := 1) d_M_between_18 (by decide) ?_
                refine z_cV (c := 0) (as := [(0, 1)]) (d' := 1) (st := []) d_M_between_19 mi_M_refuse ml_M_87 mv_M_refuse se_M_refuse rfl rfl rfl rfl (ks_M_0 hx) rfl rfl (kl_M_0 hx) rfl rfl (b_M_refuse_0 hx ?_)
                intro _
                show z_U X 4 m_M_between 22 [(0, (2, 0)), (1, (0, a1)), (2, (0, a2)), (3, (0, a3)), (4, (0, a4))] [(0, (-1))] N σ (z_up g 0 1 1) Q
                exact z_iret d_M_between_22 rfl (by decide) (by decide) ⟨rfl, rfl, h⟩
              · have h := h.2 c7
                refine ⟨fun c8 => ?_, fun c8 => ?_⟩
                · have h := h.1 c8
                  intro _
                  show z_U X 4 m_M_between 14 [(0, (2, 0)), (1, (0, a1)), (2, (0, a2)), (3, (0, a3)), (4, (0, a4))] [(0, 0)] N σ g Q
                  refine z_if_ne (tgt := 23) d_M_between_14 (by decide) (fun c => absurd (by decide) c) (fun _ => ?_)
                  refine z_aload_n (i := 0) (c := 0) 0 d_M_between_17 rfl rfl rfl ?_
                  refine z_iconst (n := 1) d_M_between_18 (by decide) ?_
                  refine z_cV (c := 0) (as := [(0, 1)]) (d' := 1) (st := []) d_M_between_19 mi_M_refuse ml_M_87 mv_M_refuse se_M_refuse rfl rfl rfl rfl (ks_M_0 hx) rfl rfl (kl_M_0 hx) rfl rfl (b_M_refuse_0 hx ?_)
                  intro _
                  show z_U X 4 m_M_between 22 [(0, (2, 0)), (1, (0, a1)), (2, (0, a2)), (3, (0, a3)), (4, (0, a4))] [(0, (-1))] N σ (z_up g 0 1 1) Q
                  exact z_iret d_M_between_22 rfl (by decide) (by decide) ⟨rfl, rfl, h⟩
                · have h := h.2 c8
                  intro _
                  show z_U X 4 m_M_between 14 [(0, (2, 0)), (1, (0, a1)), (2, (0, a2)), (3, (0, a3)), (4, (0, a4))] [(0, 1)] N σ g Q
                  refine z_if_ne (tgt := 23) d_M_between_14 (by decide) (fun _ => ?_) (fun c => absurd c (by decide))
                  refine z_aload_n (i := 0) (c := 0) 0 d_M_between_23 rfl rfl rfl ?_
                  refine z_cV (c := 0) (as := []) (d' := 3) (st := []) d_M_between_24 mi_M_laysRow ml_M_250 mv_M_laysRow se_M_laysRow rfl rfl rfl rfl (ks_M_0 hx) rfl rfl (kl_M_0 hx) rfl rfl (b_M_laysRow_0 hx ?_)
                  refine z_Omono h (fun r0 g0 _ h => ?_)
                  intro _
                  show z_U X 4 m_M_between 27 [(0, (2, 0)), (1, (0, a1)), (2, (0, a2)), (3, (0, a3)), (4, (0, a4))] [] N σ g0 Q
                  refine z_iconst (n := 0) d_M_between_27 (by decide) ?_
                  refine z_istore (ls' := [(5, (0, 0)), (0, (2, 0)), (1, (0, a1)), (2, (0, a2)), (3, (0, a3)), (4, (0, a4))]) d_M_between_28 rfl rfl ?_
                  refine z_iconst (n := 0) d_M_between_30 (by decide) ?_
                  refine z_istore (ls' := [(6, (0, 0)), (5, (0, 0)), (0, (2, 0)), (1, (0, a1)), (2, (0, a2)), (3, (0, a3)), (4, (0, a4))]) d_M_between_31 rfl rfl ?_
                  refine z_sub (ls' := [(0, (2, 0)), (1, (0, a1)), (2, (0, a2)), (3, (0, a3)), (4, (0, a4)), (5, (0, 0)), (6, (0, 0))]) [2, 3, 4, 5, 6, 1, 0] rfl ?_
                  exact h
set_option maxRecDepth 8000 in
theorem b_M_between_33 {X : z_X} {N : Nat} {σ g : z_G} {Q : z_P} {x1 x2 x3 x4 x5 x6 : Int} (hx : z_lay X N σ 0 z_SM z_RM) (h : (((g 0 24) ≤ x6) → Q x5 (z_up g 0 1 0)) ∧ (¬ ((g 0 24) ≤ x6) → ((0 ≤ x6 ∧ x6 < 12233) ∧ ((-2147483648 ≤ ((g 8 x6) * x2) ∧ ((g 8 x6) * x2) ≤ 2147483647) ∧ ((-2147483648 ≤ (x1 * (g 9 x6)) ∧ (x1 * (g 9 x6)) ≤ 2147483647) ∧ ((-2147483648 ≤ (((g 8 x6) * x2) - (x1 * (g 9 x6))) ∧ (((g 8 x6) * x2) - (x1 * (g 9 x6))) ≤ 2147483647) ∧ ((-2147483648 ≤ ((g 8 x6) * x4) ∧ ((g 8 x6) * x4) ≤ 2147483647) ∧ ((-2147483648 ≤ (x3 * (g 9 x6)) ∧ (x3 * (g 9 x6)) ≤ 2147483647) ∧ ((-2147483648 ≤ (((g 8 x6) * x4) - (x3 * (g 9 x6))) ∧ (((g 8 x6) * x4) - (x3 * (g 9 x6))) ≤ 2147483647) ∧ ((((((g 8 x6) * x2) - (x1 * (g 9 x6))) ≤ 0) → (((0 ≤ (((g 8 x6) * x2) - (x1 * (g 9 x6)))) → ((-2147483648 ≤ (x5 + 0) ∧ (x5 + 0) ≤ 2147483647) ∧ ((-2147483648 ≤ (x6 + 1) ∧ (x6 + 1) ≤ 2147483647) ∧ L_M_between_33 X N σ x1 x2 x3 x4 (x5 + 0) (x6 + 1) g Q))) ∧ (¬ (0 ≤ (((g 8 x6) * x2) - (x1 * (g 9 x6)))) → ((((((g 8 x6) * x4) - (x3 * (g 9 x6))) ≤ 0) → ((-2147483648 ≤ (x5 + 0) ∧ (x5 + 0) ≤ 2147483647) ∧ ((-2147483648 ≤ (x6 + 1) ∧ (x6 + 1) ≤ 2147483647) ∧ L_M_between_33 X N σ x1 x2 x3 x4 (x5 + 0) (x6 + 1) g Q))) ∧ (¬ ((((g 8 x6) * x4) - (x3 * (g 9 x6))) ≤ 0) → ((-2147483648 ≤ (x5 + 1) ∧ (x5 + 1) ≤ 2147483647) ∧ ((-2147483648 ≤ (x6 + 1) ∧ (x6 + 1) ≤ 2147483647) ∧ L_M_between_33 X N σ x1 x2 x3 x4 (x5 + 1) (x6 + 1) g Q))))))) ∧ (¬ ((((g 8 x6) * x2) - (x1 * (g 9 x6))) ≤ 0) → ((((((g 8 x6) * x4) - (x3 * (g 9 x6))) < 0) → ((-2147483648 ≤ (x5 + 1) ∧ (x5 + 1) ≤ 2147483647) ∧ ((-2147483648 ≤ (x6 + 1) ∧ (x6 + 1) ≤ 2147483647) ∧ L_M_between_33 X N σ x1 x2 x3 x4 (x5 + 1) (x6 + 1) g Q))) ∧ (¬ ((((g 8 x6) * x4) - (x3 * (g 9 x6))) < 0) → (((0 ≤ (((g 8 x6) * x2) - (x1 * (g 9 x6)))) → ((-2147483648 ≤ (x5 + 0) ∧ (x5 + 0) ≤ 2147483647) ∧ ((-2147483648 ≤ (x6 + 1) ∧ (x6 + 1) ≤ 2147483647) ∧ L_M_between_33 X N σ x1 x2 x3 x4 (x5 + 0) (x6 + 1) g Q))) ∧ (¬ (0 ≤ (((g 8 x6) * x2) - (x1 * (g 9 x6)))) → ((((((g 8 x6) * x4) - (x3 * (g 9 x6))) ≤ 0) → ((-2147483648 ≤ (x5 + 0) ∧ (x5 + 0) ≤ 2147483647) ∧ ((-2147483648 ≤ (x6 + 1) ∧ (x6 + 1) ≤ 2147483647) ∧ L_M_between_33 X N σ x1 x2 x3 x4 (x5 + 0) (x6 + 1) g Q))) ∧ (¬ ((((g 8 x6) * x4) - (x3 * (g 9 x6))) ≤ 0) → ((-2147483648 ≤ (x5 + 1) ∧ (x5 + 1) ≤ 2147483647) ∧ ((-2147483648 ≤ (x6 + 1) ∧ (x6 + 1) ≤ 2147483647) ∧ L_M_between_33 X N σ x1 x2 x3 x4 (x5 + 1) (x6 + 1) g Q))))))))))))))))))) : L_M_between_33 X N σ x1 x2 x3 x4 x5 x6 g Q := by
  refine z_iload 6 d_M_between_33 rfl ?_
  refine z_aload_n (i := 0) (c := 0) 0 d_M_between_35 rfl rfl rfl ?_
  refine z_geti (c := 0) (kI := 24) d_M_between_36 fd_M_many fl_M_237 (Or.inl rfl) rfl rfl (ks_M_0 hx) (kl_M_0 hx) ?_
  refine z_icmp_ge (tgt := 121) d_M_between_39 (by decide) (fun c1 => ?_) (fun c1 => ?_)
  · have h := h.1 c1
    refine z_aload_n (i := 0) (c := 0) 0 d_M_between_121 rfl rfl rfl ?_
    refine z_iload 5 d_M_between_122 rfl ?_
    refine z_cV (c := 0) (as := [(0, x5)]) (d' := 1) (st := []) d_M_between_124 mi_M_gives ml_M_91 mv_M_gives se_M_gives rfl rfl rfl rfl (ks_M_0 hx) rfl rfl (kl_M_0 hx) rfl rfl (b_M_gives_0 hx ?_)
    intro _
    show z_U X 4 m_M_between 127 [(0, (2, 0)), (1, (0, x1)), (2, (0, x2)), (3, (0, x3)), (4, (0, x4)), (5, (0, x5)), (6, (0, x6))] [(0, x5)] N σ (z_up g 0 1 0) Q
    exact z_iret d_M_between_127 rfl (by decide) (by decide) ⟨rfl, rfl, h⟩
  · have h := h.2 c1
    refine z_aload_n (i := 0) (c := 0) 0 d_M_between_42 rfl rfl rfl ?_
    refine z_getr (c := 0) (kI := 22) (r2 := 8) d_M_between_43 fd_M_topBy fl_M_44 rfl rfl rfl (ks_M_0 hx) (kl_M_0 hx) (kr_M_0_22 hx) ?_
    refine z_iload 6 d_M_between_46 rfl ?_
    obtain ⟨c2, h⟩ := h
    refine z_iald (c := 8) (m := 12233) d_M_between_48 rfl (ks_M_8 hx) (kl_M_8 hx) rfl (by decide) c2 ?_
    refine z_iload_n (i := 2) 2 d_M_between_49 rfl rfl ?_
    obtain ⟨c3, h⟩ := h
    refine z_imul d_M_between_50 c3 ?_
    refine z_iload_n (i := 1) 1 d_M_between_51 rfl rfl ?_
    refine z_aload_n (i := 0) (c := 0) 0 d_M_between_52 rfl rfl rfl ?_
    refine z_getr (c := 0) (kI := 23) (r2 := 9) d_M_between_53 fd_M_bottomBy fl_M_47 rfl rfl rfl (ks_M_0 hx) (kl_M_0 hx) (kr_M_0_23 hx) ?_
    refine z_iload 6 d_M_between_56 rfl ?_
    refine z_iald (c := 9) (m := 12233) d_M_between_58 rfl (ks_M_9 hx) (kl_M_9 hx) rfl (by decide) c2 ?_
    obtain ⟨c4, h⟩ := h
    refine z_imul d_M_between_59 c4 ?_
    obtain ⟨c5, h⟩ := h
    refine z_isub d_M_between_60 c5 ?_
    refine z_istore (ls' := [(7, (0, ((g 8 x6) * x2) - (x1 * (g 9 x6)))), (0, (2, 0)), (1, (0, x1)), (2, (0, x2)), (3, (0, x3)), (4, (0, x4)), (5, (0, x5)), (6, (0, x6))]) d_M_between_61 rfl rfl ?_
    refine z_aload_n (i := 0) (c := 0) 1 d_M_between_63 rfl rfl rfl ?_
    refine z_getr (c := 0) (kI := 22) (r2 := 8) d_M_between_64 fd_M_topBy fl_M_44 rfl rfl rfl (ks_M_0 hx) (kl_M_0 hx) (kr_M_0_22 hx) ?_
    refine z_iload 7 d_M_between_67 rfl ?_
    refine z_iald (c := 8) (m := 12233) d_M_between_69 rfl (ks_M_8 hx) (kl_M_8 hx) rfl (by decide) c2 ?_
    refine z_iload 5 d_M_between_70 rfl ?_
    obtain ⟨c6, h⟩ := h
    refine z_imul d_M_between_72 c6 ?_
    refine z_iload_n (i := 3) 4 d_M_between_73 rfl rfl ?_
    refine z_aload_n (i := 0) (c := 0) 1 d_M_between_74 rfl rfl rfl ?_
    refine z_getr (c := 0) (kI := 23) (r2 := 9) d_M_between_75 fd_M_bottomBy fl_M_47 rfl rfl rfl (ks_M_0 hx) (kl_M_0 hx) (kr_M_0_23 hx) ?_
    refine z_iload 7 d_M_between_78 rfl ?_
    refine z_iald (c := 9) (m := 12233) d_M_between_80 rfl (ks_M_9 hx) (kl_M_9 hx) rfl (by decide) c2 ?_
    obtain ⟨c7, h⟩ := h
    refine z_imul d_M_between_81 c7 ?_
    obtain ⟨c8, h⟩ := h
    refine z_isub d_M_between_82 c8 ?_
    refine z_istore (ls' := [(8, (0, ((g 8 x6) * x4) - (x3 * (g 9 x6)))), (7, (0, ((g 8 x6) * x2) - (x1 * (g 9 x6)))), (0, (2, 0)), (1, (0, x1)), (2, (0, x2)), (3, (0, x3)), (4, (0, x4)), (5, (0, x5)), (6, (0, x6))]) d_M_between_83 rfl rfl ?_
    refine z_iload 7 d_M_between_85 rfl ?_
    refine z_iload 1 d_M_between_87 rfl ?_
    refine z_if_le (tgt := 97) d_M_between_89 (by decide) (fun c9 => ?_) (fun c9 => ?_)
    · have h := h.1 c9
      refine z_iload 1 d_M_between_97 rfl ?_
      refine z_if_ge (tgt := 111) d_M_between_99 (by decide) (fun c10 => ?_) (fun c10 => ?_)
      · have h := h.1 c10
        refine z_iconst (n := 0) d_M_between_111 (by decide) ?_
        obtain ⟨c11, h⟩ := h
        refine z_iadd d_M_between_112 c11 ?_
        refine z_istore (ls' := [(5, (0, x5 + 0)), (8, (0, ((g 8 x6) * x4) - (x3 * (g 9 x6)))), (7, (0, ((g 8 x6) * x2) - (x1 * (g 9 x6)))), (0, (2, 0)), (1, (0, x1)), (2, (0, x2)), (3, (0, x3)), (4, (0, x4)), (6, (0, x6))]) d_M_between_113 rfl rfl ?_
        obtain ⟨c12, h⟩ := h
        refine z_iinc (n := 1) (ls' := [(6, (0, x6 + 1)), (5, (0, x5 + 0)), (8, (0, ((g 8 x6) * x4) - (x3 * (g 9 x6)))), (7, (0, ((g 8 x6) * x2) - (x1 * (g 9 x6)))), (0, (2, 0)), (1, (0, x1)), (2, (0, x2)), (3, (0, x3)), (4, (0, x4))]) 8 d_M_between_115 rfl c12 rfl rfl ?_
        refine z_goto (tgt := 33) d_M_between_118 (by decide) ?_
        refine z_sub (ls' := [(0, (2, 0)), (1, (0, x1)), (2, (0, x2)), (3, (0, x3)), (4, (0, x4)), (5, (0, x5 + 0)), (6, (0, x6 + 1))]) [4, 5, 6, 7, 8, 1, 0] rfl ?_
        exact h
      · have h := h.2 c10
        refine z_iload 0 d_M_between_102 rfl ?_
        refine z_if_le (tgt := 111) d_M_between_104 (by decide) (fun c13 => ?_) (fun c13 => ?_)
        · have h := h.1 c13
          refine z_iconst (n := 0) d_M_between_111 (by decide) ?_
          obtain ⟨c14, h⟩ := h
          refine z_iadd d_M_between_112 c14 ?_
          refine z_istore (ls' := [(5, (0, x5 + 0)), (8, (0, ((g 8 x6) * x4) - (x3 * (g 9 x6)))), (7, (0, ((g 8 x6) * x2) - (x1 * (g 9 x6)))), (0, (2, 0)), (1, (0, x1)), (2, (0, x2)), (3, (0, x3)), (4, (0, x4)), (6, (0, x6))]) d_M_between_113 rfl rfl ?_
          obtain ⟨c15, h⟩ := h
          refine z_iinc (n := 1) (ls' := [(6, (0, x6 + 1)), (5, (0, x5 + 0)), (8, (0, ((g 8 x6) * x4) - (x3 * (g 9 x6)))), (7, (0, ((g 8 x6) * x2) - (x1 * (g 9 x6)))), (0, (2, 0)), (1, (0, x1)), (2, (0, x2)), (3, (0, x3)), (4, (0, x4))]) 8 d_M_between_115 rfl c15 rfl rfl ?_
          refine z_goto (tgt := 33) d_M_between_118 (by decide) ?_
          refine z_sub (ls' := [(0, (2, 0)), (1, (0, x1)), (2, (0, x2)), (3, (0, x3)), (4, (0, x4)), (5, (0, x5 + 0)), (6, (0, x6 + 1))]) [4, 5, 6, 7, 8, 1, 0] rfl ?_
          exact h
        · have h := h.2 c13
          refine z_iconst (n := 1) d_M_between_107 (by decide) ?_
          refine z_goto (tgt := 112) d_M_between_108 (by decide) ?_
          obtain ⟨c16, h⟩ := h
          refine z_iadd d_M_between_112 c16 ?_
          refine z_istore (ls' := [(5, (0, x5 + 1)), (8, (0, ((g 8 x6) * x4) - (x3 * (g 9 x6)))), (7, (0, ((g 8 x6) * x2) - (x1 * (g 9 x6)))), (0, (2, 0)), (1, (0, x1)), (2, (0, x2)), (3, (0, x3)), (4, (0, x4)), (6, (0, x6))]) d_M_between_113 rfl rfl ?_
          obtain ⟨c17, h⟩ := h
          refine z_iinc (n := 1) (ls' := [(6, (0, x6 + 1)), (5, (0, x5 + 1)), (8, (0, ((g 8 x6) * x4) - (x3 * (g 9 x6)))), (7, (0, ((g 8 x6) * x2) - (x1 * (g 9 x6)))), (0, (2, 0)), (1, (0, x1)), (2, (0, x2)), (3, (0, x3)), (4, (0, x4))]) 8 d_M_between_115 rfl c17 rfl rfl ?_
          refine z_goto (tgt := 33) d_M_between_118 (by decide) ?_
          refine z_sub (ls' := [(0, (2, 0)), (1, (0, x1)), (2, (0, x2)), (3, (0, x3)), (4, (0, x4)), (5, (0, x5 + 1)), (6, (0, x6 + 1))]) [4, 5, 6, 7, 8, 1, 0] rfl ?_
          exact h
    · have h := h.2 c9
      refine z_iload 0 d_M_between_92 rfl ?_
      refine z_if_lt (tgt := 107) d_M_between_94 (by decide) (fun c18 => ?_) (fun c18 => ?_)
      · have h := h.1 c18
        refine z_iconst (n := 1) d_M_between_107 (by decide) ?_
        refine z_goto (tgt := 112) d_M_between_108 (by decide) ?_
        obtain ⟨c19, h⟩ := h
        refine z_iadd d_M_between_112 c19 ?_
        refine z_istore (ls' := [(5, (0, x5 + 1)), (8, (0, ((g 8 x6) * x4) - (x3 * (g 9 x6)))), (7, (0, ((g 8 x6) * x2) - (x1 * (g 9 x6)))), (0, (2, 0)), (1, (0, x1)), (2, (0, x2)), (3, (0, x3)), (4, (0, x4)), (6, (0, x6))]) d_M_between_113 rfl rfl ?_
        obtain ⟨c20, h⟩ := h
        refine z_iinc (n := 1) (ls' := [(6, (0, x6 + 1)), (5, (0, x5 + 1)), (8, (0, ((g 8 x6) * x4) - (x3 * (g 9 x6)))), (7, (0, ((g 8 x6) * x2) - (x1 * (g 9 x6)))), (0, (2, 0)), (1, (0, x1)), (2, (0, x2)), (3, (0, x3)), (4, (0, x4))]) 8 d_M_between_115 rfl c20 rfl rfl ?_
        refine z_goto (tgt := 33) d_M_between_118 (by decide) ?_
        refine z_sub (ls' := [(0, (2, 0)), (1, (0, x1)), (2, (0, x2)), (3, (0, x3)), (4, (0, x4)), (5, (0, x5 + 1)), (6, (0, x6 + 1))]) [4, 5, 6, 7, 8, 1, 0] rfl ?_
        exact h
      · have h := h.2 c18
        refine z_iload 1 d_M_between_97 rfl ?_
        refine z_if_ge (tgt := 111) d_M_between_99 (by decide) (fun c21 => ?_) (fun c21 => ?_)
        · have h := h.1 c21
          refine z_iconst (n := 0) d_M_between_111 (by decide) ?_
          obtain ⟨c22, h⟩ := h
          refine z_iadd d_M_between_112 c22 ?_
          refine z_istore (ls' := [(5, (0, x5 + 0)), (8, (0, ((g 8 x6) * x4) - (x3 * (g 9 x6)))), (7, (0, ((g 8 x6) * x2) - (x1 * (g 9 x6)))), (0, (2, 0)), (1, (0, x1)), (2, (0, x2)), (3, (0, x3)), (4, (0, x4)), (6, (0, x6))]) d_M_between_113 rfl rfl ?_
          obtain ⟨c23, h⟩ := h
          refine z_iinc (n := 1) (ls' := [(6, (0, x6 + 1)), (5, (0, x5 + 0)), (8, (0, ((g 8 x6) * x4) - (x3 * (g 9 x6)))), (7, (0, ((g 8 x6) * x2) - (x1 * (g 9 x6)))), (0, (2, 0)), (1, (0, x1)), (2, (0, x2)), (3, (0, x3)), (4, (0, x4))]) 8 d_M_between_115 rfl c23 rfl rfl ?_
          refine z_goto (tgt := 33) d_M_between_118 (by decide) ?_
          refine z_sub (ls' := [(0, (2, 0)), (1, (0, x1)), (2, (0, x2)), (3, (0, x3)), (4, (0, x4)), (5, (0, x5 + 0)), (6, (0, x6 + 1))]) [4, 5, 6, 7, 8, 1, 0] rfl ?_
          exact h
        · have h := h.2 c21
          refine z_iload 0 d_M_between_102 rfl ?_
          refine z_if_le (tgt := 111) d_M_between_104 (by decide) (fun c24 => ?_) (fun c24 => ?_)
          · have h := h.1 c24
            refine z_iconst (n := 0) d_M_between_111 (by decide) ?_
            obtain ⟨c25, h⟩ := h
            refine z_iadd d_M_between_112 c25 ?_
            refine z_istore (ls' := [(5, (0, x5 + 0)), (8, (0, ((g 8 x6) * x4) - (x3 * (g 9 x6)))), (7, (0, ((g 8 x6) * x2) - (x1 * (g 9 x6)))), (0, (2, 0)), (1, (0, x1)), (2, (0, x2)), (3, (0, x3)), (4, (0, x4)), (6, (0, x6))]) d_M_between_113 rfl rfl ?_
            obtain ⟨c26, h⟩ := h
            refine z_iinc (n := 1) (ls' := [(6, (0, x6 + 1)), (5, (0, x5 + 0)), (8, (0, ((g 8 x6) * x4) - (x3 * (g 9 x6)))), (7, (0, ((g 8 x6) * x2) - (x1 * (g 9 x6)))), (0, (2, 0)), (1, (0, x1)), (2, (0, x2)), (3, (0, x3)), (4, (0, x4))]) 8 d_M_between_115 rfl c26 rfl rfl ?_
            refine z_goto (tgt := 33) d_M_between_118 (by decide) ?_
            refine z_sub (ls' := [(0, (2, 0)), (1, (0, x1)), (2, (0, x2)), (3, (0, x3)), (4, (0, x4)), (5, (0, x5 + 0)), (6, (0, x6 + 1))]) [4, 5, 6, 7, 8, 1, 0] rfl ?_
            exact h
          · have h := h.2 c24
            refine z_iconst (n := 1) d_M_between_107 (by decide) ?_
            refine z_goto (tgt := 112) d_M_between_108 (by decide) ?_
            obtain ⟨c27, h⟩ := h
            refine z_iadd d_M_between_112 c27 ?_
            refine z_istore (ls' := [(5, (0, x5 + 1)), (8, (0, ((g 8 x6) * x4) - (x3 * (g 9 x6)))), (7, (0, ((g 8 x6) * x2) - (x1 * (g 9 x6)))), (0, (2, 0)), (1, (0, x1)), (2, (0, x2)), (3, (0, x3)), (4, (0, x4)), (6, (0, x6))]) d_M_between_113 rfl rfl ?_
            obtain ⟨c28, h⟩ := h
            refine z_iinc (n := 1) (ls' := [(6, (0, x6 + 1)), (5, (0, x5 + 1)), (8, (0, ((g 8 x6) * x4) - (x3 * (g 9 x6)))), (7, (0, ((g 8 x6) * x2) - (x1 * (g 9 x6)))), (0, (2, 0)), (1, (0, x1)), (2, (0, x2)), (3, (0, x3)), (4, (0, x4))]) 8 d_M_between_115 rfl c28 rfl rfl ?_
            refine z_goto (tgt := 33) d_M_between_118 (by decide) ?_
            refine z_sub (ls' := [(0, (2, 0)), (1, (0, x1)), (2, (0, x2)), (3, (0, x3)), (4, (0, x4)), (5, (0, x5 + 1)), (6, (0, x6 + 1))]) [4, 5, 6, 7, 8, 1, 0] rfl ?_
            exact h
theorem d_M_doesAny_0 : decode (z_c m_M_doesAny) 0 = .ok (.aload_n 0, 1) := by decide +kernel
theorem d_M_doesAny_1 : decode (z_c m_M_doesAny) 1 = .ok (.iconst 2, 1) := by decide +kernel
theorem d_M_doesAny_2 : decode (z_c m_M_doesAny) 2 = .ok (.invokevirtual 396, 3) := by decide +kernel
theorem d_M_doesAny_5 : decode (z_c m_M_doesAny) 5 = .ok (.istore_n 1, 1) := by decide +kernel
theorem d_M_doesAny_6 : decode (z_c m_M_doesAny) 6 = .ok (.aload_n 0, 1) := by decide +kernel
theorem d_M_doesAny_7 : decode (z_c m_M_doesAny) 7 = .ok (.bipush 16, 2) := by decide +kernel
theorem d_M_doesAny_9 : decode (z_c m_M_doesAny) 9 = .ok (.invokevirtual 396, 3) := by decide +kernel
theorem d_M_doesAny_12 : decode (z_c m_M_doesAny) 12 = .ok (.aload_n 0, 1) := by decide +kernel
theorem d_M_doesAny_13 : decode (z_c m_M_doesAny) 13 = .ok (.getfield 7, 3) := by decide +kernel
theorem d_M_doesAny_16 : decode (z_c m_M_doesAny) 16 = .ok (.iconst 0, 1) := by decide +kernel
theorem d_M_doesAny_17 : decode (z_c m_M_doesAny) 17 = .ok (.iaload, 1) := by decide +kernel
theorem d_M_doesAny_18 : decode (z_c m_M_doesAny) 18 = .ok (.if_icmp .ge 15, 3) := by decide +kernel
theorem d_M_doesAny_21 : decode (z_c m_M_doesAny) 21 = .ok (.aload_n 0, 1) := by decide +kernel
theorem d_M_doesAny_22 : decode (z_c m_M_doesAny) 22 = .ok (.iconst 1, 1) := by decide +kernel
theorem d_M_doesAny_23 : decode (z_c m_M_doesAny) 23 = .ok (.aload_n 0, 1) := by decide +kernel
theorem d_M_doesAny_24 : decode (z_c m_M_doesAny) 24 = .ok (.invokevirtual 338, 3) := by decide +kernel
theorem d_M_doesAny_27 : decode (z_c m_M_doesAny) 27 = .ok (.invokevirtual 399, 3) := by decide +kernel
theorem d_M_doesAny_30 : decode (z_c m_M_doesAny) 30 = .ok (.goto 13, 3) := by decide +kernel
theorem d_M_doesAny_33 : decode (z_c m_M_doesAny) 33 = .ok (.aload_n 0, 1) := by decide +kernel
theorem d_M_doesAny_34 : decode (z_c m_M_doesAny) 34 = .ok (.iconst 1, 1) := by decide +kernel
theorem d_M_doesAny_35 : decode (z_c m_M_doesAny) 35 = .ok (.aload_n 0, 1) := by decide +kernel
theorem d_M_doesAny_36 : decode (z_c m_M_doesAny) 36 = .ok (.iload_n 1, 1) := by decide +kernel
theorem d_M_doesAny_37 : decode (z_c m_M_doesAny) 37 = .ok (.invokevirtual 332, 3) := by decide +kernel
theorem d_M_doesAny_40 : decode (z_c m_M_doesAny) 40 = .ok (.invokevirtual 399, 3) := by decide +kernel
theorem d_M_doesAny_43 : decode (z_c m_M_doesAny) 43 = .ok (.ireturn, 1) := by decide +kernel
set_option maxRecDepth 8000 in
theorem b_M_doesAny_0 {X : z_X} {N : Nat} {σ g : z_G} {Q : z_P} (hx : z_lay X N σ 0 z_SM z_RM) (h : z_O X 1 m_M_draw [(2, 0), (0, 2)] N σ g (fun r0 g0 => (z_O X 1 m_M_draw [(2, 0), (0, 16)] N σ g0 (fun r1 g1 => ((((g1 1 0) ≤ r1) → (z_O X 3 m_M_goes [(2, 0), (0, r0)] N σ g1 (fun r2 g2 => (r2 = 0 ∨ r2 = 1) → (((r2 = 0) → ((r2 = 0 ∨ r2 = 1) ∧ Q r2 g2)) ∧ (¬ (r2 = 0) → ((-2147483648 ≤ ((g2 16 1) + 1) ∧ ((g2 16 1) + 1) ≤ 2147483647) ∧ ((r2 = 0 ∨ r2 = 1) ∧ Q r2 (z_up g2 16 1 ((g2 16 1) + 1))))))))) ∧ (¬ ((g1 1 0) ≤ r1) → (z_O X 3 m_M_goesUp [(2, 0)] N σ g1 (fun r5 g5 => (r5 = 0 ∨ r5 = 1) → (((r5 = 0) → ((r5 = 0 ∨ r5 = 1) ∧ Q r5 g5)) ∧ (¬ (r5 = 0) → ((-2147483648 ≤ ((g5 16 1) + 1) ∧ ((g5 16 1) + 1) ≤ 2147483647) ∧ ((r5 = 0 ∨ r5 = 1) ∧ Q r5 (z_up g5 16 1 ((g5 16 1) + 1)))))))))))))) : z_O X 4 m_M_doesAny [(2, 0)] N σ g Q := by
  refine z_Oenter mi_M_doesAny rfl (fun _ => ?_)
  show z_U X 4 m_M_doesAny 0 [(0, (2, 0))] [] N σ g Q
  refine z_aload_n (i := 0) (c := 0) 0 d_M_doesAny_0 rfl rfl rfl ?_
  refine z_iconst (n := 2) d_M_doesAny_1 (by decide) ?_
  refine z_cV (c := 0) (as := [(0, 2)]) (d' := 1) (st := []) d_M_doesAny_2 mi_M_draw ml_M_396 mv_M_draw se_M_draw rfl rfl rfl rfl (ks_M_0 hx) rfl rfl (kl_M_0 hx) rfl rfl (z_Omono h (fun r0 g0 _ h hro => ?_))
  show z_U X 4 m_M_doesAny 5 [(0, (2, 0))] [(0, r0)] N σ g0 Q
  refine z_istore_n (i := 1) (ls' := [(1, (0, r0)), (0, (2, 0))]) d_M_doesAny_5 rfl rfl rfl ?_
  refine z_aload_n (i := 0) (c := 0) 1 d_M_doesAny_6 rfl rfl rfl ?_
  refine z_bipush (n := 16) d_M_doesAny_7 (by decide) (by decide) ?_
  refine z_cV (c := 0) (as := [(0, 16)]) (d' := 1) (st := []) d_M_doesAny_9 mi_M_draw ml_M_396 mv_M_draw se_M_draw rfl rfl rfl rfl (ks_M_0 hx) rfl rfl (kl_M_0 hx) rfl rfl (z_Omono h (fun r1 g1 _ h hro => ?_))
  show z_U X 4 m_M_doesAny 12 [(1, (0, r0)), (0, (2, 0))] [(0, r1)] N σ g1 Q
  refine z_aload_n (i := 0) (c := 0) 1 d_M_doesAny_12 rfl rfl rfl ?_
  refine z_getr (c := 0) (kI := 0) (r2 := 1) d_M_doesAny_13 fd_M_at fl_M_7 rfl rfl rfl (ks_M_0 hx) (kl_M_0 hx) (kr_M_0_0 hx) ?_
  refine z_iconst (n := 0) d_M_doesAny_16 (by decide) ?_
  refine z_iald (c := 1) (m := 3296) d_M_doesAny_17 rfl (ks_M_1 hx) (kl_M_1 hx) rfl (by decide) (by decide) ?_
  refine z_icmp_ge (tgt := 33) d_M_doesAny_18 (by decide) (fun c1 => ?_) (fun c1 => ?_)
  · have h := h.1 c1
    refine z_aload_n (i := 0) (c := 0) 1 d_M_doesAny_33 rfl rfl rfl ?_
    refine z_iconst (n := 1) d_M_doesAny_34 (by decide) ?_
    refine z_aload_n (i := 0) (c := 0) 1 d_M_doesAny_35 rfl rfl rfl ?_
    refine z_iload_n (i := 1) 0 d_M_doesAny_36 rfl rfl ?_
    refine z_cV (c := 0) (as := [(0, r0)]) (d' := 3) (st := [(0, 1), (2, 0)]) d_M_doesAny_37 mi_M_goes ml_M_332 mv_M_goes se_M_goes rfl rfl rfl rfl (ks_M_0 hx) rfl rfl (kl_M_0 hx) rfl rfl (z_Omono h (fun r2 g2 _ h hro => ?_))
    have h := h (z_b01 hro)
    have hzr2 := z_b01 hro
    show z_U X 4 m_M_doesAny 40 [(1, (0, r0)), (0, (2, 0))] [(0, r2), (0, 1), (2, 0)] N σ g2 Q
    refine z_cV (c := 0) (as := [(0, 1), (0, r2)]) (d' := 1) (st := []) d_M_doesAny_40 mi_M_ranIf ml_M_399 mv_M_ranIf se_M_ranIf rfl rfl rfl rfl (ks_M_0 hx) rfl rfl (kl_M_0 hx) rfl rfl (b_M_ranIf_0 hx ?_)
    refine ⟨fun c2 => ?_, fun c2 => ?_⟩
    · have h := h.1 c2
      obtain ⟨c3, h⟩ := h
      refine ⟨c3, ?_⟩
      intro hro3
      show z_U X 4 m_M_doesAny 43 [(1, (0, r0)), (0, (2, 0))] [(0, r2)] N σ g2 Q
      exact z_zret d_M_doesAny_43 rfl (by decide) (by decide) (z_b01 hro3) ⟨rfl, rfl, h⟩
    · have h := h.2 c2
      refine ⟨by decide, ?_⟩
      obtain ⟨c4, h⟩ := h
      refine ⟨c4, ?_⟩
      obtain ⟨c5, h⟩ := h
      refine ⟨c5, ?_⟩
      intro hro4
      show z_U X 4 m_M_doesAny 43 [(1, (0, r0)), (0, (2, 0))] [(0, r2)] N σ (z_up g2 16 1 ((g2 16 1) + 1)) Q
      exact z_zret d_M_doesAny_43 rfl (by decide) (by decide) (z_b01 hro4) ⟨rfl, rfl, h⟩
  · have h := h.2 c1
    refine z_aload_n (i := 0) (c := 0) 1 d_M_doesAny_21 rfl rfl rfl ?_
    refine z_iconst (n := 1) d_M_doesAny_22 (by decide) ?_
    refine z_aload_n (i := 0) (c := 0) 1 d_M_doesAny_23 rfl rfl rfl ?_
    refine z_cV (c := 0) (as := []) (d' := 3) (st := [(0, 1), (2, 0)]) d_M_doesAny_24 mi_M_goesUp ml_M_338 mv_M_goesUp se_M_goesUp rfl rfl rfl rfl (ks_M_0 hx) rfl rfl (kl_M_0 hx) rfl rfl (z_Omono h (fun r5 g5 _ h hro => ?_))
    have h := h (z_b01 hro)
    have hzr5 := z_b01 hro
    show z_U X 4 m_M_doesAny 27 [(1, (0, r0)), (0, (2, 0))] [(0, r5), (0, 1), (2, 0)] N σ g5 Q
    refine z_cV (c := 0) (as := [(0, 1), (0, r5)]) (d' := 1) (st := []) d_M_doesAny_27 mi_M_ranIf ml_M_399 mv_M_ranIf se_M_ranIf rfl rfl rfl rfl (ks_M_0 hx) rfl rfl (kl_M_0 hx) rfl rfl (b_M_ranIf_0 hx ?_)
    refine ⟨fun c6 => ?_, fun c6 => ?_⟩
    · have h := h.1 c6
      obtain ⟨c7, h⟩ := h
      refine ⟨c7, ?_⟩
      intro hro6
      show z_U X 4 m_M_doesAny 30 [(1, (0, r0)), (0, (2, 0))] [(0, r5)] N σ g5 Q
      refine z_goto (tgt := 43) d_M_doesAny_30 (by decide) ?_
      exact z_zret d_M_doesAny_43 rfl (by decide) (by decide) (z_b01 hro6) ⟨rfl, rfl, h⟩
    · have h := h.2 c6
      refine ⟨by decide, ?_⟩
      obtain ⟨c8, h⟩ := h
      refine ⟨c8, ?_⟩
      obtain ⟨c9, h⟩ := h
      refine ⟨c9, ?_⟩
      intro hro7
      show z_U X 4 m_M_doesAny 30 [(1, (0, r0)), (0, (2, 0))] [(0, r5)] N σ (z_up g5 16 1 ((g5 16 1) + 1)) Q
      refine z_goto (tgt := 43) d_M_doesAny_30 (by decide) ?_
      exact z_zret d_M_doesAny_43 rfl (by decide) (by decide) (z_b01 hro7) ⟨rfl, rfl, h⟩
theorem d_M_flip_0 : decode (z_c m_M_flip) 0 = .ok (.aload_n 0, 1) := by decide +kernel
theorem d_M_flip_1 : decode (z_c m_M_flip) 1 = .ok (.invokevirtual 341, 3) := by decide +kernel
theorem d_M_flip_4 : decode (z_c m_M_flip) 4 = .ok (.aload_n 0, 1) := by decide +kernel
theorem d_M_flip_5 : decode (z_c m_M_flip) 5 = .ok (.aload_n 0, 1) := by decide +kernel
theorem d_M_flip_6 : decode (z_c m_M_flip) 6 = .ok (.invokevirtual 335, 3) := by decide +kernel
theorem d_M_flip_9 : decode (z_c m_M_flip) 9 = .ok (.invokevirtual 91, 3) := by decide +kernel
theorem d_M_flip_12 : decode (z_c m_M_flip) 12 = .ok (.ireturn, 1) := by decide +kernel
set_option maxRecDepth 8000 in
theorem b_M_flip_0 {X : z_X} {N : Nat} {σ g : z_G} {Q : z_P} (hx : z_lay X N σ 0 z_SM z_RM) (h : z_O X 3 m_M_flips [(2, 0)] N σ g (fun r0 g0 => (z_O X 2 m_M_depthOf [(2, 0), (0, g0 1 2), (0, g0 1 3)] N σ g0 (fun r1 g1 => Q r1 (z_up g1 0 1 0))))) : z_O X 4 m_M_flip [(2, 0)] N σ g Q := by
  refine z_Oenter mi_M_flip rfl (fun _ => ?_)
  show z_U X 4 m_M_flip 0 [(0, (2, 0))] [] N σ g Q
  refine z_aload_n (i := 0) (c := 0) 0 d_M_flip_0 rfl rfl rfl ?_
  refine z_cV (c := 0) (as := []) (d' := 3) (st := []) d_M_flip_1 mi_M_flips ml_M_341 mv_M_flips se_M_flips rfl rfl rfl rfl (ks_M_0 hx) rfl rfl (kl_M_0 hx) rfl rfl (z_Omono h (fun r0 g0 _ h hro => ?_))
  show z_U X 4 m_M_flip 4 [(0, (2, 0))] [] N σ g0 Q
  refine z_aload_n (i := 0) (c := 0) 0 d_M_flip_4 rfl rfl rfl ?_
  refine z_aload_n (i := 0) (c := 0) 0 d_M_flip_5 rfl rfl rfl ?_
  refine z_cV (c := 0) (as := []) (d' := 3) (st := [(2, 0)]) d_M_flip_6 mi_M_depthNow ml_M_335 mv_M_depthNow se_M_depthNow rfl rfl rfl rfl (ks_M_0 hx) rfl rfl (kl_M_0 hx) rfl rfl (b_M_depthNow_0 hx ?_)
  refine z_Omono h (fun r1 g1 _ h => ?_)
  intro _
  show z_U X 4 m_M_flip 9 [(0, (2, 0))] [(0, r1), (2, 0)] N σ g1 Q
  refine z_cV (c := 0) (as := [(0, r1)]) (d' := 1) (st := []) d_M_flip_9 mi_M_gives ml_M_91 mv_M_gives se_M_gives rfl rfl rfl rfl (ks_M_0 hx) rfl rfl (kl_M_0 hx) rfl rfl (b_M_gives_0 hx ?_)
  intro _
  show z_U X 4 m_M_flip 12 [(0, (2, 0))] [(0, r1)] N σ (z_up g1 0 1 0) Q
  exact z_iret d_M_flip_12 rfl (by decide) (by decide) ⟨rfl, rfl, h⟩
theorem d_M_fraction_0 : decode (z_c m_M_fraction) 0 = .ok (.iload_n 1, 1) := by decide +kernel
theorem d_M_fraction_1 : decode (z_c m_M_fraction) 1 = .ok (.ifCond .ge 9, 3) := by decide +kernel
theorem d_M_fraction_4 : decode (z_c m_M_fraction) 4 = .ok (.aload_n 0, 1) := by decide +kernel
theorem d_M_fraction_5 : decode (z_c m_M_fraction) 5 = .ok (.iconst 1, 1) := by decide +kernel
theorem d_M_fraction_6 : decode (z_c m_M_fraction) 6 = .ok (.invokevirtual 94, 3) := by decide +kernel
theorem d_M_fraction_9 : decode (z_c m_M_fraction) 9 = .ok (.ireturn, 1) := by decide +kernel
theorem d_M_fraction_10 : decode (z_c m_M_fraction) 10 = .ok (.aload_n 0, 1) := by decide +kernel
theorem d_M_fraction_11 : decode (z_c m_M_fraction) 11 = .ok (.invokevirtual 250, 3) := by decide +kernel
theorem d_M_fraction_14 : decode (z_c m_M_fraction) 14 = .ok (.aload_n 0, 1) := by decide +kernel
theorem d_M_fraction_15 : decode (z_c m_M_fraction) 15 = .ok (.iload_n 1, 1) := by decide +kernel
theorem d_M_fraction_16 : decode (z_c m_M_fraction) 16 = .ok (.invokevirtual 269, 3) := by decide +kernel
theorem d_M_fraction_19 : decode (z_c m_M_fraction) 19 = .ok (.ireturn, 1) := by decide +kernel
set_option maxRecDepth 8000 in
theorem b_M_fraction_0 {X : z_X} {N : Nat} {σ g : z_G} {Q : z_P} {a1 : Int} (hx : z_lay X N σ 0 z_SM z_RM) (h : ((0 ≤ a1) → (z_O X 2 m_M_lays [(2, 0), (0, g 1 1)] N σ g (fun r0 g0 => (z_O X 3 m_M_tellsRow [(2, 0), (0, a1)] N σ g0 (fun r1 g1 => (r1 = 0 ∨ r1 = 1) → Q r1 g1))))) ∧ (¬ (0 ≤ a1) → Q 0 (z_up g 0 1 1))) : z_O X 4 m_M_fraction [(2, 0), (0, a1)] N σ g Q := by
  refine z_Oenter mi_M_fraction rfl (fun _ => ?_)
  show z_U X 4 m_M_fraction 0 [(0, (2, 0)), (1, (0, a1))] [] N σ g Q
  refine z_iload_n (i := 1) 1 d_M_fraction_0 rfl rfl ?_
  refine z_if_ge (tgt := 10) d_M_fraction_1 (by decide) (fun c1 => ?_) (fun c1 => ?_)
  · have h := h.1 c1
    refine z_aload_n (i := 0) (c := 0) 0 d_M_fraction_10 rfl rfl rfl ?_
    refine z_cV (c := 0) (as := []) (d' := 3) (st := []) d_M_fraction_11 mi_M_laysRow ml_M_250 mv_M_laysRow se_M_laysRow rfl rfl rfl rfl (ks_M_0 hx) rfl rfl (kl_M_0 hx) rfl rfl (b_M_laysRow_0 hx ?_)
    refine z_Omono h (fun r0 g0 _ h => ?_)
    intro _
    show z_U X 4 m_M_fraction 14 [(0, (2, 0)), (1, (0, a1))] [] N σ g0 Q
    refine z_aload_n (i := 0) (c := 0) 0 d_M_fraction_14 rfl rfl rfl ?_
    refine z_iload_n (i := 1) 1 d_M_fraction_15 rfl rfl ?_
    refine z_cV (c := 0) (as := [(0, a1)]) (d' := 3) (st := []) d_M_fraction_16 mi_M_tellsRow ml_M_269 mv_M_tellsRow se_M_tellsRow rfl rfl rfl rfl (ks_M_0 hx) rfl rfl (kl_M_0 hx) rfl rfl (z_Omono h (fun r1 g1 _ h hro => ?_))
    have h := h (z_b01 hro)
    have hzr1 := z_b01 hro
    show z_U X 4 m_M_fraction 19 [(0, (2, 0)), (1, (0, a1))] [(0, r1)] N σ g1 Q
    exact z_zret d_M_fraction_19 rfl (by decide) (by decide) hzr1 ⟨rfl, rfl, h⟩
  · have h := h.2 c1
    refine z_aload_n (i := 0) (c := 0) 0 d_M_fraction_4 rfl rfl rfl ?_
    refine z_iconst (n := 1) d_M_fraction_5 (by decide) ?_
    refine z_cV (c := 0) (as := [(0, 1)]) (d' := 1) (st := []) d_M_fraction_6 mi_M_is ml_M_94 mv_M_is se_M_is rfl rfl rfl rfl (ks_M_0 hx) rfl rfl (kl_M_0 hx) rfl rfl (b_M_is_0 hx ?_)
    refine ⟨fun c => absurd c (by decide), fun _ => ?_⟩
    intro _
    show z_U X 4 m_M_fraction 9 [(0, (2, 0)), (1, (0, a1))] [(0, 0)] N σ (z_up g 0 1 1) Q
    exact z_zret d_M_fraction_9 rfl (by decide) (by decide) (by decide) ⟨rfl, rfl, h⟩
theorem d_M_go_0 : decode (z_c m_M_go) 0 = .ok (.iload_n 1, 1) := by decide +kernel
theorem d_M_go_1 : decode (z_c m_M_go) 1 = .ok (.ifCond .lt 8, 3) := by decide +kernel
theorem d_M_go_4 : decode (z_c m_M_go) 4 = .ok (.iload_n 1, 1) := by decide +kernel
theorem d_M_go_5 : decode (z_c m_M_go) 5 = .ok (.iconst 1, 1) := by decide +kernel
theorem d_M_go_6 : decode (z_c m_M_go) 6 = .ok (.if_icmp .le 9, 3) := by decide +kernel
theorem d_M_go_9 : decode (z_c m_M_go) 9 = .ok (.aload_n 0, 1) := by decide +kernel
theorem d_M_go_10 : decode (z_c m_M_go) 10 = .ok (.iconst 1, 1) := by decide +kernel
theorem d_M_go_11 : decode (z_c m_M_go) 11 = .ok (.invokevirtual 87, 3) := by decide +kernel
theorem d_M_go_14 : decode (z_c m_M_go) 14 = .ok (.ireturn, 1) := by decide +kernel
theorem d_M_go_15 : decode (z_c m_M_go) 15 = .ok (.aload_n 0, 1) := by decide +kernel
theorem d_M_go_16 : decode (z_c m_M_go) 16 = .ok (.iload_n 1, 1) := by decide +kernel
theorem d_M_go_17 : decode (z_c m_M_go) 17 = .ok (.invokevirtual 332, 3) := by decide +kernel
theorem d_M_go_20 : decode (z_c m_M_go) 20 = .ok (.ifCond .eq 14, 3) := by decide +kernel
theorem d_M_go_23 : decode (z_c m_M_go) 23 = .ok (.aload_n 0, 1) := by decide +kernel
theorem d_M_go_24 : decode (z_c m_M_go) 24 = .ok (.aload_n 0, 1) := by decide +kernel
theorem d_M_go_25 : decode (z_c m_M_go) 25 = .ok (.invokevirtual 335, 3) := by decide +kernel
theorem d_M_go_28 : decode (z_c m_M_go) 28 = .ok (.invokevirtual 91, 3) := by decide +kernel
theorem d_M_go_31 : decode (z_c m_M_go) 31 = .ok (.goto 9, 3) := by decide +kernel
theorem d_M_go_34 : decode (z_c m_M_go) 34 = .ok (.aload_n 0, 1) := by decide +kernel
theorem d_M_go_35 : decode (z_c m_M_go) 35 = .ok (.bipush 7, 2) := by decide +kernel
theorem d_M_go_37 : decode (z_c m_M_go) 37 = .ok (.invokevirtual 87, 3) := by decide +kernel
theorem d_M_go_40 : decode (z_c m_M_go) 40 = .ok (.ireturn, 1) := by decide +kernel
set_option maxRecDepth 8000 in
theorem b_M_go_0 {X : z_X} {N : Nat} {σ g : z_G} {Q : z_P} {a1 : Int} (hx : z_lay X N σ 0 z_SM z_RM) (h : ((a1 < 0) → Q (-1) (z_up g 0 1 1)) ∧ (¬ (a1 < 0) → (((a1 ≤ 1) → (z_O X 3 m_M_goes [(2, 0), (0, a1)] N σ g (fun r0 g0 => (r0 = 0 ∨ r0 = 1) → (((r0 = 0) → Q (-1) (z_up g0 0 1 7)) ∧ (¬ (r0 = 0) → (z_O X 2 m_M_depthOf [(2, 0), (0, g0 1 2), (0, g0 1 3)] N σ g0 (fun r1 g1 => Q r1 (z_up g1 0 1 0)))))))) ∧ (¬ (a1 ≤ 1) → Q (-1) (z_up g 0 1 1))))) : z_O X 4 m_M_go [(2, 0), (0, a1)] N σ g Q := by
  refine z_Oenter mi_M_go rfl (fun _ => ?_)
  show z_U X 4 m_M_go 0 [(0, (2, 0)), (1, (0, a1))] [] N σ g Q
  refine z_iload_n (i := 1) 1 d_M_go_0 rfl rfl ?_
  refine z_if_lt (tgt := 9) d_M_go_1 (by decide) (fun c1 => ?_) (fun c1 => ?_)
  · have h := h.1 c1
    refine z_aload_n (i := 0) (c := 0) 0 d_M_go_9 rfl rfl rfl ?_
    refine z_iconst (n := 1) d_M_go_10 (by decide) ?_
    refine z_cV (c := 0) (as := [(0, 1)]) (d' := 1) (st := []) d_M_go_11 mi_M_refuse ml_M_87 mv_M_refuse se_M_refuse rfl rfl rfl rfl (ks_M_0 hx) rfl rfl (kl_M_0 hx) rfl rfl (b_M_refuse_0 hx ?_)
    intro _
    show z_U X 4 m_M_go 14 [(0, (2, 0)), (1, (0, a1))] [(0, (-1))] N σ (z_up g 0 1 1) Q
    exact z_iret d_M_go_14 rfl (by decide) (by decide) ⟨rfl, rfl, h⟩
  · have h := h.2 c1
    refine z_iload_n (i := 1) 1 d_M_go_4 rfl rfl ?_
    refine z_iconst (n := 1) d_M_go_5 (by decide) ?_
    refine z_icmp_le (tgt := 15) d_M_go_6 (by decide) (fun c2 => ?_) (fun c2 => ?_)
    · have h := h.1 c2
      refine z_aload_n (i := 0) (c := 0) 0 d_M_go_15 rfl rfl rfl ?_
      refine z_iload_n (i := 1) 1 d_M_go_16 rfl rfl ?_
      refine z_cV (c := 0) (as := [(0, a1)]) (d' := 3) (st := []) d_M_go_17 mi_M_goes ml_M_332 mv_M_goes se_M_goes rfl rfl rfl rfl (ks_M_0 hx) rfl rfl (kl_M_0 hx) rfl rfl (z_Omono h (fun r0 g0 _ h hro => ?_))
      have h := h (z_b01 hro)
      have hzr0 := z_b01 hro
      show z_U X 4 m_M_go 20 [(0, (2, 0)), (1, (0, a1))] [(0, r0)] N σ g0 Q
      refine z_if_eq (tgt := 34) d_M_go_20 (by decide) (fun c3 => ?_) (fun c3 => ?_)
      · have h := h.1 c3
        refine z_aload_n (i := 0) (c := 0) 0 d_M_go_34 rfl rfl rfl ?_
        refine z_bipush (n := 7) d_M_go_35 (by decide) (by decide) ?_
        refine z_cV (c := 0) (as := [(0, 7)]) (d' := 1) (st := []) d_M_go_37 mi_M_refuse ml_M_87 mv_M_refuse se_M_refuse rfl rfl rfl rfl (ks_M_0 hx) rfl rfl (kl_M_0 hx) rfl rfl (b_M_refuse_0 hx ?_)
        intro _
        show z_U X 4 m_M_go 40 [(0, (2, 0)), (1, (0, a1))] [(0, (-1))] N σ (z_up g0 0 1 7) Q
        exact z_iret d_M_go_40 rfl (by decide) (by decide) ⟨rfl, rfl, h⟩
      · have h := h.2 c3
        refine z_aload_n (i := 0) (c := 0) 0 d_M_go_23 rfl rfl rfl ?_
        refine z_aload_n (i := 0) (c := 0) 0 d_M_go_24 rfl rfl rfl ?_
        refine z_cV (c := 0) (as := []) (d' := 3) (st := [(2, 0)]) d_M_go_25 mi_M_depthNow ml_M_335 mv_M_depthNow se_M_depthNow rfl rfl rfl rfl (ks_M_0 hx) rfl rfl (kl_M_0 hx) rfl rfl (b_M_depthNow_0 hx ?_)
        refine z_Omono h (fun r1 g1 _ h => ?_)
        intro _
        show z_U X 4 m_M_go 28 [(0, (2, 0)), (1, (0, a1))] [(0, r1), (2, 0)] N σ g1 Q
        refine z_cV (c := 0) (as := [(0, r1)]) (d' := 1) (st := []) d_M_go_28 mi_M_gives ml_M_91 mv_M_gives se_M_gives rfl rfl rfl rfl (ks_M_0 hx) rfl rfl (kl_M_0 hx) rfl rfl (b_M_gives_0 hx ?_)
        intro _
        show z_U X 4 m_M_go 31 [(0, (2, 0)), (1, (0, a1))] [(0, r1)] N σ (z_up g1 0 1 0) Q
        refine z_goto (tgt := 40) d_M_go_31 (by decide) ?_
        exact z_iret d_M_go_40 rfl (by decide) (by decide) ⟨rfl, rfl, h⟩
    · have h := h.2 c2
      refine z_aload_n (i := 0) (c := 0) 0 d_M_go_9 rfl rfl rfl ?_
      refine z_iconst (n := 1) d_M_go_10 (by decide) ?_
      refine z_cV (c := 0) (as := [(0, 1)]) (d' := 1) (st := []) d_M_go_11 mi_M_refuse ml_M_87 mv_M_refuse se_M_refuse rfl rfl rfl rfl (ks_M_0 hx) rfl rfl (kl_M_0 hx) rfl rfl (b_M_refuse_0 hx ?_)
      intro _
      show z_U X 4 m_M_go 14 [(0, (2, 0)), (1, (0, a1))] [(0, (-1))] N σ (z_up g 0 1 1) Q
      exact z_iret d_M_go_14 rfl (by decide) (by decide) ⟨rfl, rfl, h⟩
theorem d_M_holds_0 : decode (z_c m_M_holds) 0 = .ok (.aload_n 0, 1) := by decide +kernel
theorem d_M_holds_1 : decode (z_c m_M_holds) 1 = .ok (.getfield 7, 3) := by decide +kernel
theorem d_M_holds_4 : decode (z_c m_M_holds) 4 = .ok (.iload_n 1, 1) := by decide +kernel
theorem d_M_holds_5 : decode (z_c m_M_holds) 5 = .ok (.iaload, 1) := by decide +kernel
theorem d_M_holds_6 : decode (z_c m_M_holds) 6 = .ok (.sipush 1200, 3) := by decide +kernel
theorem d_M_holds_9 : decode (z_c m_M_holds) 9 = .ok (.isub, 1) := by decide +kernel
theorem d_M_holds_10 : decode (z_c m_M_holds) 10 = .ok (.istore_n 2, 1) := by decide +kernel
theorem d_M_holds_11 : decode (z_c m_M_holds) 11 = .ok (.iload_n 2, 1) := by decide +kernel
theorem d_M_holds_12 : decode (z_c m_M_holds) 12 = .ok (.bipush 17, 2) := by decide +kernel
theorem d_M_holds_14 : decode (z_c m_M_holds) 14 = .ok (.if_icmp .ne 29, 3) := by decide +kernel
theorem d_M_holds_17 : decode (z_c m_M_holds) 17 = .ok (.aload_n 0, 1) := by decide +kernel
theorem d_M_holds_18 : decode (z_c m_M_holds) 18 = .ok (.aload_n 0, 1) := by decide +kernel
theorem d_M_holds_19 : decode (z_c m_M_holds) 19 = .ok (.getfield 7, 3) := by decide +kernel
theorem d_M_holds_22 : decode (z_c m_M_holds) 22 = .ok (.iconst 2, 1) := by decide +kernel
theorem d_M_holds_23 : decode (z_c m_M_holds) 23 = .ok (.iaload, 1) := by decide +kernel
theorem d_M_holds_24 : decode (z_c m_M_holds) 24 = .ok (.aload_n 0, 1) := by decide +kernel
theorem d_M_holds_25 : decode (z_c m_M_holds) 25 = .ok (.getfield 7, 3) := by decide +kernel
theorem d_M_holds_28 : decode (z_c m_M_holds) 28 = .ok (.iconst 3, 1) := by decide +kernel
theorem d_M_holds_29 : decode (z_c m_M_holds) 29 = .ok (.iaload, 1) := by decide +kernel
theorem d_M_holds_30 : decode (z_c m_M_holds) 30 = .ok (.invokevirtual 349, 3) := by decide +kernel
theorem d_M_holds_33 : decode (z_c m_M_holds) 33 = .ok (.iconst (-1), 1) := by decide +kernel
theorem d_M_holds_34 : decode (z_c m_M_holds) 34 = .ok (.if_icmp .eq 7, 3) := by decide +kernel
theorem d_M_holds_37 : decode (z_c m_M_holds) 37 = .ok (.iconst 1, 1) := by decide +kernel
theorem d_M_holds_38 : decode (z_c m_M_holds) 38 = .ok (.goto 4, 3) := by decide +kernel
theorem d_M_holds_41 : decode (z_c m_M_holds) 41 = .ok (.iconst 0, 1) := by decide +kernel
theorem d_M_holds_42 : decode (z_c m_M_holds) 42 = .ok (.ireturn, 1) := by decide +kernel
theorem d_M_holds_43 : decode (z_c m_M_holds) 43 = .ok (.iload_n 2, 1) := by decide +kernel
theorem d_M_holds_44 : decode (z_c m_M_holds) 44 = .ok (.bipush 16, 2) := by decide +kernel
theorem d_M_holds_46 : decode (z_c m_M_holds) 46 = .ok (.if_icmp .ne 43, 3) := by decide +kernel
theorem d_M_holds_49 : decode (z_c m_M_holds) 49 = .ok (.aload_n 0, 1) := by decide +kernel
theorem d_M_holds_50 : decode (z_c m_M_holds) 50 = .ok (.getfield 7, 3) := by decide +kernel
theorem d_M_holds_53 : decode (z_c m_M_holds) 53 = .ok (.iconst 2, 1) := by decide +kernel
theorem d_M_holds_54 : decode (z_c m_M_holds) 54 = .ok (.iaload, 1) := by decide +kernel
theorem d_M_holds_55 : decode (z_c m_M_holds) 55 = .ok (.aload_n 0, 1) := by decide +kernel
theorem d_M_holds_56 : decode (z_c m_M_holds) 56 = .ok (.getfield 7, 3) := by decide +kernel
theorem d_M_holds_59 : decode (z_c m_M_holds) 59 = .ok (.iload_n 1, 1) := by decide +kernel
theorem d_M_holds_60 : decode (z_c m_M_holds) 60 = .ok (.iconst 1, 1) := by decide +kernel
theorem d_M_holds_61 : decode (z_c m_M_holds) 61 = .ok (.iadd, 1) := by decide +kernel
theorem d_M_holds_62 : decode (z_c m_M_holds) 62 = .ok (.iaload, 1) := by decide +kernel
theorem d_M_holds_63 : decode (z_c m_M_holds) 63 = .ok (.if_icmp .ne 24, 3) := by decide +kernel
theorem d_M_holds_66 : decode (z_c m_M_holds) 66 = .ok (.aload_n 0, 1) := by decide +kernel
theorem d_M_holds_67 : decode (z_c m_M_holds) 67 = .ok (.getfield 7, 3) := by decide +kernel
theorem d_M_holds_70 : decode (z_c m_M_holds) 70 = .ok (.iconst 3, 1) := by decide +kernel
theorem d_M_holds_71 : decode (z_c m_M_holds) 71 = .ok (.iaload, 1) := by decide +kernel
theorem d_M_holds_72 : decode (z_c m_M_holds) 72 = .ok (.aload_n 0, 1) := by decide +kernel
theorem d_M_holds_73 : decode (z_c m_M_holds) 73 = .ok (.getfield 7, 3) := by decide +kernel
theorem d_M_holds_76 : decode (z_c m_M_holds) 76 = .ok (.iload_n 1, 1) := by decide +kernel
theorem d_M_holds_77 : decode (z_c m_M_holds) 77 = .ok (.iconst 2, 1) := by decide +kernel
theorem d_M_holds_78 : decode (z_c m_M_holds) 78 = .ok (.iadd, 1) := by decide +kernel
theorem d_M_holds_79 : decode (z_c m_M_holds) 79 = .ok (.iaload, 1) := by decide +kernel
theorem d_M_holds_80 : decode (z_c m_M_holds) 80 = .ok (.if_icmp .ne 7, 3) := by decide +kernel
theorem d_M_holds_83 : decode (z_c m_M_holds) 83 = .ok (.iconst 1, 1) := by decide +kernel
theorem d_M_holds_84 : decode (z_c m_M_holds) 84 = .ok (.goto 4, 3) := by decide +kernel
theorem d_M_holds_87 : decode (z_c m_M_holds) 87 = .ok (.iconst 0, 1) := by decide +kernel
theorem d_M_holds_88 : decode (z_c m_M_holds) 88 = .ok (.ireturn, 1) := by decide +kernel
theorem d_M_holds_89 : decode (z_c m_M_holds) 89 = .ok (.iload_n 2, 1) := by decide +kernel
theorem d_M_holds_90 : decode (z_c m_M_holds) 90 = .ok (.bipush 18, 2) := by decide +kernel
theorem d_M_holds_92 : decode (z_c m_M_holds) 92 = .ok (.if_icmp .ne 10, 3) := by decide +kernel
theorem d_M_holds_95 : decode (z_c m_M_holds) 95 = .ok (.aload_n 0, 1) := by decide +kernel
theorem d_M_holds_96 : decode (z_c m_M_holds) 96 = .ok (.invokevirtual 335, 3) := by decide +kernel
theorem d_M_holds_99 : decode (z_c m_M_holds) 99 = .ok (.goto 9, 3) := by decide +kernel
theorem d_M_holds_102 : decode (z_c m_M_holds) 102 = .ok (.aload_n 0, 1) := by decide +kernel
theorem d_M_holds_103 : decode (z_c m_M_holds) 103 = .ok (.getfield 7, 3) := by decide +kernel
theorem d_M_holds_106 : decode (z_c m_M_holds) 106 = .ok (.iconst 3, 1) := by decide +kernel
theorem d_M_holds_107 : decode (z_c m_M_holds) 107 = .ok (.iaload, 1) := by decide +kernel
theorem d_M_holds_108 : decode (z_c m_M_holds) 108 = .ok (.istore_n 3, 1) := by decide +kernel
theorem d_M_holds_109 : decode (z_c m_M_holds) 109 = .ok (.aload_n 0, 1) := by decide +kernel
theorem d_M_holds_110 : decode (z_c m_M_holds) 110 = .ok (.getfield 7, 3) := by decide +kernel
theorem d_M_holds_113 : decode (z_c m_M_holds) 113 = .ok (.iload_n 1, 1) := by decide +kernel
theorem d_M_holds_114 : decode (z_c m_M_holds) 114 = .ok (.iconst 5, 1) := by decide +kernel
theorem d_M_holds_115 : decode (z_c m_M_holds) 115 = .ok (.iadd, 1) := by decide +kernel
theorem d_M_holds_116 : decode (z_c m_M_holds) 116 = .ok (.iaload, 1) := by decide +kernel
theorem d_M_holds_117 : decode (z_c m_M_holds) 117 = .ok (.bipush 60, 2) := by decide +kernel
theorem d_M_holds_119 : decode (z_c m_M_holds) 119 = .ok (.if_icmp .ne 23, 3) := by decide +kernel
theorem d_M_holds_122 : decode (z_c m_M_holds) 122 = .ok (.iload_n 3, 1) := by decide +kernel
theorem d_M_holds_123 : decode (z_c m_M_holds) 123 = .ok (.aload_n 0, 1) := by decide +kernel
theorem d_M_holds_124 : decode (z_c m_M_holds) 124 = .ok (.getfield 7, 3) := by decide +kernel
theorem d_M_holds_127 : decode (z_c m_M_holds) 127 = .ok (.iload_n 1, 1) := by decide +kernel
theorem d_M_holds_128 : decode (z_c m_M_holds) 128 = .ok (.iconst 1, 1) := by decide +kernel
theorem d_M_holds_129 : decode (z_c m_M_holds) 129 = .ok (.iadd, 1) := by decide +kernel
theorem d_M_holds_130 : decode (z_c m_M_holds) 130 = .ok (.iaload, 1) := by decide +kernel
theorem d_M_holds_131 : decode (z_c m_M_holds) 131 = .ok (.if_icmp .ge 7, 3) := by decide +kernel
theorem d_M_holds_134 : decode (z_c m_M_holds) 134 = .ok (.iconst 1, 1) := by decide +kernel
theorem d_M_holds_135 : decode (z_c m_M_holds) 135 = .ok (.goto 57, 3) := by decide +kernel
theorem d_M_holds_138 : decode (z_c m_M_holds) 138 = .ok (.iconst 0, 1) := by decide +kernel
theorem d_M_holds_139 : decode (z_c m_M_holds) 139 = .ok (.goto 53, 3) := by decide +kernel
theorem d_M_holds_142 : decode (z_c m_M_holds) 142 = .ok (.aload_n 0, 1) := by decide +kernel
theorem d_M_holds_143 : decode (z_c m_M_holds) 143 = .ok (.getfield 7, 3) := by decide +kernel
theorem d_M_holds_146 : decode (z_c m_M_holds) 146 = .ok (.iload_n 1, 1) := by decide +kernel
theorem d_M_holds_147 : decode (z_c m_M_holds) 147 = .ok (.iconst 5, 1) := by decide +kernel
theorem d_M_holds_148 : decode (z_c m_M_holds) 148 = .ok (.iadd, 1) := by decide +kernel
theorem d_M_holds_149 : decode (z_c m_M_holds) 149 = .ok (.iaload, 1) := by decide +kernel
theorem d_M_holds_150 : decode (z_c m_M_holds) 150 = .ok (.bipush 62, 2) := by decide +kernel
theorem d_M_holds_152 : decode (z_c m_M_holds) 152 = .ok (.if_icmp .ne 23, 3) := by decide +kernel
theorem d_M_holds_155 : decode (z_c m_M_holds) 155 = .ok (.iload_n 3, 1) := by decide +kernel
theorem d_M_holds_156 : decode (z_c m_M_holds) 156 = .ok (.aload_n 0, 1) := by decide +kernel
theorem d_M_holds_157 : decode (z_c m_M_holds) 157 = .ok (.getfield 7, 3) := by decide +kernel
theorem d_M_holds_160 : decode (z_c m_M_holds) 160 = .ok (.iload_n 1, 1) := by decide +kernel
theorem d_M_holds_161 : decode (z_c m_M_holds) 161 = .ok (.iconst 1, 1) := by decide +kernel
theorem d_M_holds_162 : decode (z_c m_M_holds) 162 = .ok (.iadd, 1) := by decide +kernel
theorem d_M_holds_163 : decode (z_c m_M_holds) 163 = .ok (.iaload, 1) := by decide +kernel
theorem d_M_holds_164 : decode (z_c m_M_holds) 164 = .ok (.if_icmp .le 7, 3) := by decide +kernel
theorem d_M_holds_167 : decode (z_c m_M_holds) 167 = .ok (.iconst 1, 1) := by decide +kernel
theorem d_M_holds_168 : decode (z_c m_M_holds) 168 = .ok (.goto 24, 3) := by decide +kernel
theorem d_M_holds_171 : decode (z_c m_M_holds) 171 = .ok (.iconst 0, 1) := by decide +kernel
theorem d_M_holds_172 : decode (z_c m_M_holds) 172 = .ok (.goto 20, 3) := by decide +kernel
theorem d_M_holds_175 : decode (z_c m_M_holds) 175 = .ok (.iload_n 3, 1) := by decide +kernel
theorem d_M_holds_176 : decode (z_c m_M_holds) 176 = .ok (.aload_n 0, 1) := by decide +kernel
theorem d_M_holds_177 : decode (z_c m_M_holds) 177 = .ok (.getfield 7, 3) := by decide +kernel
theorem d_M_holds_180 : decode (z_c m_M_holds) 180 = .ok (.iload_n 1, 1) := by decide +kernel
theorem d_M_holds_181 : decode (z_c m_M_holds) 181 = .ok (.iconst 1, 1) := by decide +kernel
theorem d_M_holds_182 : decode (z_c m_M_holds) 182 = .ok (.iadd, 1) := by decide +kernel
theorem d_M_holds_183 : decode (z_c m_M_holds) 183 = .ok (.iaload, 1) := by decide +kernel
theorem d_M_holds_184 : decode (z_c m_M_holds) 184 = .ok (.if_icmp .ne 7, 3) := by decide +kernel
theorem d_M_holds_187 : decode (z_c m_M_holds) 187 = .ok (.iconst 1, 1) := by decide +kernel
theorem d_M_holds_188 : decode (z_c m_M_holds) 188 = .ok (.goto 4, 3) := by decide +kernel
theorem d_M_holds_191 : decode (z_c m_M_holds) 191 = .ok (.iconst 0, 1) := by decide +kernel
theorem d_M_holds_192 : decode (z_c m_M_holds) 192 = .ok (.ireturn, 1) := by decide +kernel
set_option maxRecDepth 8000 in
theorem b_M_holds_0 {X : z_X} {N : Nat} {σ g : z_G} {Q : z_P} {a1 : Int} (hx : z_lay X N σ 0 z_SM z_RM) (h : (0 ≤ a1 ∧ a1 < 3296) ∧ ((-2147483648 ≤ ((g 1 a1) - 1200) ∧ ((g 1 a1) - 1200) ≤ 2147483647) ∧ (((((g 1 a1) - 1200) = 17) → (z_O X 2 m_M_pinOf [(2, 0), (0, g 1 2), (0, g 1 3)] N σ g (fun r1 g1 => (((r1 = (-1)) → Q 0 g1) ∧ (¬ (r1 = (-1)) → Q 1 g1))))) ∧ (¬ (((g 1 a1) - 1200) = 17) → (((((g 1 a1) - 1200) = 16) → ((-2147483648 ≤ (a1 + 1) ∧ (a1 + 1) ≤ 2147483647) ∧ ((0 ≤ (a1 + 1) ∧ (a1 + 1) < 3296) ∧ ((((g 1 2) = (g 1 (a1 + 1))) → ((-2147483648 ≤ (a1 + 2) ∧ (a1 + 2) ≤ 2147483647) ∧ ((0 ≤ (a1 + 2) ∧ (a1 + 2) < 3296) ∧ ((((g 1 3) = (g 1 (a1 + 2))) → Q 1 g) ∧ (¬ ((g 1 3) = (g 1 (a1 + 2))) → Q 0 g))))) ∧ (¬ ((g 1 2) = (g 1 (a1 + 1))) → Q 0 g))))) ∧ (¬ (((g 1 a1) - 1200) = 16) → (((((g 1 a1) - 1200) = 18) → (z_O X 2 m_M_depthOf [(2, 0), (0, g 1 2), (0, g 1 3)] N σ g (fun r0 g0 => ((-2147483648 ≤ (a1 + 5) ∧ (a1 + 5) ≤ 2147483647) ∧ ((0 ≤ (a1 + 5) ∧ (a1 + 5) < 3296) ∧ ((((g0 1 (a1 + 5)) = 60) → ((-2147483648 ≤ (a1 + 1) ∧ (a1 + 1) ≤ 2147483647) ∧ ((0 ≤ (a1 + 1) ∧ (a1 + 1) < 3296) ∧ ((((g0 1 (a1 + 1)) ≤ r0) → Q 0 g0) ∧ (¬ ((g0 1 (a1 + 1)) ≤ r0) → Q 1 g0))))) ∧ (¬ ((g0 1 (a1 + 5)) = 60) → ((((g0 1 (a1 + 5)) = 62) → ((-2147483648 ≤ (a1 + 1) ∧ (a1 + 1) ≤ 2147483647) ∧ ((0 ≤ (a1 + 1) ∧ (a1 + 1) < 3296) ∧ (((r0 ≤ (g0 1 (a1 + 1))) → Q 0 g0) ∧ (¬ (r0 ≤ (g0 1 (a1 + 1))) → Q 1 g0))))) ∧ (¬ ((g0 1 (a1 + 5)) = 62) → ((-2147483648 ≤ (a1 + 1) ∧ (a1 + 1) ≤ 2147483647) ∧ ((0 ≤ (a1 + 1) ∧ (a1 + 1) < 3296) ∧ (((r0 = (g0 1 (a1 + 1))) → Q 1 g0) ∧ (¬ (r0 = (g0 1 (a1 + 1))) → Q 0 g0))))))))))))) ∧ (¬ (((g 1 a1) - 1200) = 18) → ((-2147483648 ≤ (a1 + 5) ∧ (a1 + 5) ≤ 2147483647) ∧ ((0 ≤ (a1 + 5) ∧ (a1 + 5) < 3296) ∧ ((((g 1 (a1 + 5)) = 60) → ((-2147483648 ≤ (a1 + 1) ∧ (a1 + 1) ≤ 2147483647) ∧ ((0 ≤ (a1 + 1) ∧ (a1 + 1) < 3296) ∧ ((((g 1 (a1 + 1)) ≤ (g 1 3)) → Q 0 g) ∧ (¬ ((g 1 (a1 + 1)) ≤ (g 1 3)) → Q 1 g))))) ∧ (¬ ((g 1 (a1 + 5)) = 60) → ((((g 1 (a1 + 5)) = 62) → ((-2147483648 ≤ (a1 + 1) ∧ (a1 + 1) ≤ 2147483647) ∧ ((0 ≤ (a1 + 1) ∧ (a1 + 1) < 3296) ∧ ((((g 1 3) ≤ (g 1 (a1 + 1))) → Q 0 g) ∧ (¬ ((g 1 3) ≤ (g 1 (a1 + 1))) → Q 1 g))))) ∧ (¬ ((g 1 (a1 + 5)) = 62) → ((-2147483648 ≤ (a1 + 1) ∧ (a1 + 1) ≤ 2147483647) ∧ ((0 ≤ (a1 + 1) ∧ (a1 + 1) < 3296) ∧ ((((g 1 3) = (g 1 (a1 + 1))) → Q 1 g) ∧ (¬ ((g 1 3) = (g 1 (a1 + 1))) → Q 0 g)))))))))))))))))) : z_O X 4 m_M_holds [(2, 0), (0, a1)] N σ g Q := by
  refine z_Oenter mi_M_holds rfl (fun _ => ?_)
  show z_U X 4 m_M_holds 0 [(0, (2, 0)), (1, (0, a1))] [] N σ g Q
  refine z_aload_n (i := 0) (c := 0) 0 d_M_holds_0 rfl rfl rfl ?_
  refine z_getr (c := 0) (kI := 0) (r2 := 1) d_M_holds_1 fd_M_at fl_M_7 rfl rfl rfl (ks_M_0 hx) (kl_M_0 hx) (kr_M_0_0 hx) ?_
  refine z_iload_n (i := 1) 1 d_M_holds_4 rfl rfl ?_
  obtain ⟨c1, h⟩ := h
  refine z_iald (c := 1) (m := 3296) d_M_holds_5 rfl (ks_M_1 hx) (kl_M_1 hx) rfl (by decide) c1 ?_
  refine z_sipush (n := 1200) d_M_holds_6 (by decide) (by decide) ?_
  obtain ⟨c2, h⟩ := h
  refine z_isub d_M_holds_9 c2 ?_
  refine z_istore_n (i := 2) (ls' := [(2, (0, (g 1 a1) - 1200)), (0, (2, 0)), (1, (0, a1))]) d_M_holds_10 rfl rfl rfl ?_
  refine z_iload_n (i := 2) 0 d_M_holds_11 rfl rfl ?_
  refine z_bipush (n := 17) d_M_holds_12 (by decide) (by decide) ?_
  refine z_icmp_ne (tgt := 43) d_M_holds_14 (by decide) (fun c3 => ?_) (fun c3 => ?_)
  · have h := h.2 c3
    refine z_iload_n (i := 2) 0 d_M_holds_43 rfl rfl ?_
    refine z_bipush (n := 16) d_M_holds_44 (by decide) (by decide) ?_
    refine z_icmp_ne (tgt := 89) d_M_holds_46 (by decide) (fun c4 => ?_) (fun c4 => ?_)
    · have h := h.2 c4
      refine z_iload_n (i := 2) 0 d_M_holds_89 rfl rfl ?_
      refine z_bipush (n := 18) d_M_holds_90 (by decide) (by decide) ?_
      refine z_icmp_ne (tgt := 102) d_M_holds_92 (by decide) (fun c5 => ?_) (fun c5 => ?_)
      · have h := h.2 c5
        refine z_aload_n (i := 0) (c := 0) 1 d_M_holds_102 rfl rfl rfl ?_
        refine z_getr (c := 0) (kI := 0) (r2 := 1) d_M_holds_103 fd_M_at fl_M_7 rfl rfl rfl (ks_M_0 hx) (kl_M_0 hx) (kr_M_0_0 hx) ?_
        refine z_iconst (n := 3) d_M_holds_106 (by decide) ?_
        refine z_iald (c := 1) (m := 3296) d_M_holds_107 rfl (ks_M_1 hx) (kl_M_1 hx) rfl (by decide) (by decide) ?_
        refine z_istore_n (i := 3) (ls' := [(3, (0, g 1 3)), (2, (0, (g 1 a1) - 1200)), (0, (2, 0)), (1, (0, a1))]) d_M_holds_108 rfl rfl rfl ?_
        refine z_aload_n (i := 0) (c := 0) 2 d_M_holds_109 rfl rfl rfl ?_
        refine z_getr (c := 0) (kI := 0) (r2 := 1) d_M_holds_110 fd_M_at fl_M_7 rfl rfl rfl (ks_M_0 hx) (kl_M_0 hx) (kr_M_0_0 hx) ?_
        refine z_iload_n (i := 1) 3 d_M_holds_113 rfl rfl ?_
        refine z_iconst (n := 5) d_M_holds_114 (by decide) ?_
        obtain ⟨c6, h⟩ := h
        refine z_iadd d_M_holds_115 c6 ?_
        obtain ⟨c7, h⟩ := h
        refine z_iald (c := 1) (m := 3296) d_M_holds_116 rfl (ks_M_1 hx) (kl_M_1 hx) rfl (by decide) c7 ?_
        refine z_bipush (n := 60) d_M_holds_117 (by decide) (by decide) ?_
        refine z_icmp_ne (tgt := 142) d_M_holds_119 (by decide) (fun c8 => ?_) (fun c8 => ?_)
        · have h := h.2 c8
          refine z_aload_n (i := 0) (c := 0) 2 d_M_holds_142 rfl rfl rfl ?_
          refine z_getr (c := 0) (kI := 0) (r2 := 1) d_M_holds_143 fd_M_at fl_M_7 rfl rfl rfl (ks_M_0 hx) (kl_M_0 hx) (kr_M_0_0 hx) ?_
          refine z_iload_n (i := 1) 3 d_M_holds_146 rfl rfl ?_
          refine z_iconst (n := 5) d_M_holds_147 (by decide) ?_
          refine z_iadd d_M_holds_148 c6 ?_
          refine z_iald (c := 1) (m := 3296) d_M_holds_149 rfl (ks_M_1 hx) (kl_M_1 hx) rfl (by decide) c7 ?_
          refine z_bipush (n := 62) d_M_holds_150 (by decide) (by decide) ?_
          refine z_icmp_ne (tgt := 175) d_M_holds_152 (by decide) (fun c9 => ?_) (fun c9 => ?_)
          · have h := h.2 c9
            refine z_iload_n (i := 3) 0 d_M_holds_175 rfl rfl ?_
            refine z_aload_n (i := 0) (c := 0) 2 d_M_holds_176 rfl rfl rfl ?_
            refine z_getr (c := 0) (kI := 0) (r2 := 1) d_M_holds_177 fd_M_at fl_M_7 rfl rfl rfl (ks_M_0 hx) (kl_M_0 hx) (kr_M_0_0 hx) ?_
            refine z_iload_n (i := 1) 3 d_M_holds_180 rfl rfl ?_
            refine z_iconst (n := 1) d_M_holds_181 (by decide) ?_
            obtain ⟨c10, h⟩ := h
            refine z_iadd d_M_holds_182 c10 ?_
            obtain ⟨c11, h⟩ := h
            refine z_iald (c := 1) (m := 3296) d_M_holds_183 rfl (ks_M_1 hx) (kl_M_1 hx) rfl (by decide) c11 ?_
            refine z_icmp_ne (tgt := 191) d_M_holds_184 (by decide) (fun c12 => ?_) (fun c12 => ?_)
            · have h := h.2 c12
              refine z_iconst (n := 0) d_M_holds_191 (by decide) ?_
              exact z_zret d_M_holds_192 rfl (by decide) (by decide) (by decide) ⟨rfl, rfl, h⟩
            · have h := h.1 c12
              refine z_iconst (n := 1) d_M_holds_187 (by decide) ?_
              refine z_goto (tgt := 192) d_M_holds_188 (by decide) ?_
              exact z_zret d_M_holds_192 rfl (by decide) (by decide) (by decide) ⟨rfl, rfl, h⟩
          · have h := h.1 c9
            refine z_iload_n (i := 3) 0 d_M_holds_155 rfl rfl ?_
            refine z_aload_n (i := 0) (c := 0) 2 d_M_holds_156 rfl rfl rfl ?_
            refine z_getr (c := 0) (kI := 0) (r2 := 1) d_M_holds_157 fd_M_at fl_M_7 rfl rfl rfl (ks_M_0 hx) (kl_M_0 hx) (kr_M_0_0 hx) ?_
            refine z_iload_n (i := 1) 3 d_M_holds_160 rfl rfl ?_
            refine z_iconst (n := 1) d_M_holds_161 (by decide) ?_
            obtain ⟨c13, h⟩ := h
            refine z_iadd d_M_holds_162 c13 ?_
            obtain ⟨c14, h⟩ := h
            refine z_iald (c := 1) (m := 3296) d_M_holds_163 rfl (ks_M_1 hx) (kl_M_1 hx) rfl (by decide) c14 ?_
            refine z_icmp_le (tgt := 171) d_M_holds_164 (by decide) (fun c15 => ?_) (fun c15 => ?_)
            · have h := h.1 c15
              refine z_iconst (n := 0) d_M_holds_171 (by decide) ?_
              refine z_goto (tgt := 192) d_M_holds_172 (by decide) ?_
              exact z_zret d_M_holds_192 rfl (by decide) (by decide) (by decide) ⟨rfl, rfl, h⟩
            · have h := h.2 c15
              refine z_iconst (n := 1) d_M_holds_167 (by decide) ?_
              refine z_goto (tgt := 192) d_M_holds_168 (by decide) ?_
              exact z_zret d_M_holds_192 rfl (by decide) (by decide) (by decide) ⟨rfl, rfl, h⟩
        · have h := h.1 c8
          refine z_iload_n (i := 3) 0 d_M_holds_122 rfl rfl ?_
          refine z_aload_n (i := 0) (c := 0) 2 d_M_holds_123 rfl rfl rfl ?_
          refine z_getr (c := 0) (kI := 0) (r2 := 1) d_M_holds_124 fd_M_at fl_M_7 rfl rfl rfl (ks_M_0 hx) (kl_M_0 hx) (kr_M_0_0 hx) ?_
          refine z_iload_n (i := 1) 3 d_M_holds_127 rfl rfl ?_
          refine z_iconst (n := 1) d_M_holds_128 (by decide) ?_
          obtain ⟨c16, h⟩ := h
          refine z_iadd d_M_holds_129 c16 ?_
          obtain ⟨c17, h⟩ := h
          refine z_iald (c := 1) (m := 3296) d_M_holds_130 rfl (ks_M_1 hx) (kl_M_1 hx) rfl (by decide) c17 ?_
          refine z_icmp_ge (tgt := 138) d_M_holds_131 (by decide) (fun c18 => ?_) (fun c18 => ?_)
          · have h := h.1 c18
            refine z_iconst (n := 0) d_M_holds_138 (by decide) ?_
            refine z_goto (tgt := 192) d_M_holds_139 (by decide) ?_
            exact z_zret d_M_holds_192 rfl (by decide) (by decide) (by decide) ⟨rfl, rfl, h⟩
          · have h := h.2 c18
            refine z_iconst (n := 1) d_M_holds_134 (by decide) ?_
            refine z_goto (tgt := 192) d_M_holds_135 (by decide) ?_
            exact z_zret d_M_holds_192 rfl (by decide) (by decide) (by decide) ⟨rfl, rfl, h⟩
      · have h := h.1 c5
        refine z_aload_n (i := 0) (c := 0) 1 d_M_holds_95 rfl rfl rfl ?_
        refine z_cV (c := 0) (as := []) (d' := 3) (st := []) d_M_holds_96 mi_M_depthNow ml_M_335 mv_M_depthNow se_M_depthNow rfl rfl rfl rfl (ks_M_0 hx) rfl rfl (kl_M_0 hx) rfl rfl (b_M_depthNow_0 hx ?_)
        refine z_Omono h (fun r0 g0 _ h => ?_)
        intro _
        show z_U X 4 m_M_holds 99 [(2, (0, (g 1 a1) - 1200)), (0, (2, 0)), (1, (0, a1))] [(0, r0)] N σ g0 Q
        refine z_goto (tgt := 108) d_M_holds_99 (by decide) ?_
        refine z_istore_n (i := 3) (ls' := [(3, (0, r0)), (2, (0, (g 1 a1) - 1200)), (0, (2, 0)), (1, (0, a1))]) d_M_holds_108 rfl rfl rfl ?_
        refine z_aload_n (i := 0) (c := 0) 2 d_M_holds_109 rfl rfl rfl ?_
        refine z_getr (c := 0) (kI := 0) (r2 := 1) d_M_holds_110 fd_M_at fl_M_7 rfl rfl rfl (ks_M_0 hx) (kl_M_0 hx) (kr_M_0_0 hx) ?_
        refine z_iload_n (i := 1) 3 d_M_holds_113 rfl rfl ?_
        refine z_iconst (n := 5) d_M_holds_114 (by decide) ?_
        obtain ⟨c19, h⟩ := h
        refine z_iadd d_M_holds_115 c19 ?_
        obtain ⟨c20, h⟩ := h
        refine z_iald (c := 1) (m := 3296) d_M_holds_116 rfl (ks_M_1 hx) (kl_M_1 hx) rfl (by decide) c20 ?_
        refine z_bipush (n := 60) d_M_holds_117 (by decide) (by decide) ?_
        refine z_icmp_ne (tgt := 142) d_M_holds_119 (by decide) (fun c21 => ?_) (fun c21 => ?_)
        · have h := h.2 c21
          refine z_aload_n (i := 0) (c := 0) 2 d_M_holds_142 rfl rfl rfl ?_
          refine z_getr (c := 0) (kI := 0) (r2 := 1) d_M_holds_143 fd_M_at fl_M_7 rfl rfl rfl (ks_M_0 hx) (kl_M_0 hx) (kr_M_0_0 hx) ?_
          refine z_iload_n (i := 1) 3 d_M_holds_146 rfl rfl ?_
          refine z_iconst (n := 5) d_M_holds_147 (by decide) ?_
          refine z_iadd d_M_holds_148 c19 ?_
          refine z_iald (c := 1) (m := 3296) d_M_holds_149 rfl (ks_M_1 hx) (kl_M_1 hx) rfl (by decide) c20 ?_
          refine z_bipush (n := 62) d_M_holds_150 (by decide) (by decide) ?_
          refine z_icmp_ne (tgt := 175) d_M_holds_152 (by decide) (fun c22 => ?_) (fun c22 => ?_)
          · have h := h.2 c22
            refine z_iload_n (i := 3) 0 d_M_holds_175 rfl rfl ?_
            refine z_aload_n (i := 0) (c := 0) 2 d_M_holds_176 rfl rfl rfl ?_
            refine z_getr (c := 0) (kI := 0) (r2 := 1) d_M_holds_177 fd_M_at fl_M_7 rfl rfl rfl (ks_M_0 hx) (kl_M_0 hx) (kr_M_0_0 hx) ?_
            refine z_iload_n (i := 1) 3 d_M_holds_180 rfl rfl ?_
            refine z_iconst (n := 1) d_M_holds_181 (by decide) ?_
            obtain ⟨c23, h⟩ := h
            refine z_iadd d_M_holds_182 c23 ?_
            obtain ⟨c24, h⟩ := h
            refine z_iald (c := 1) (m := 3296) d_M_holds_183 rfl (ks_M_1 hx) (kl_M_1 hx) rfl (by decide) c24 ?_
            refine z_icmp_ne (tgt := 191) d_M_holds_184 (by decide) (fun c25 => ?_) (fun c25 => ?_)
            · have h := h.2 c25
              refine z_iconst (n := 0) d_M_holds_191 (by decide) ?_
              exact z_zret d_M_holds_192 rfl (by decide) (by decide) (by decide) ⟨rfl, rfl, h⟩
            · have h := h.1 c25
              refine z_iconst (n := 1) d_M_holds_187 (by decide) ?_
              refine z_goto (tgt := 192) d_M_holds_188 (by decide) ?_
              exact z_zret d_M_holds_192 rfl (by decide) (by decide) (by decide) ⟨rfl, rfl, h⟩
          · have h := h.1 c22
            refine z_iload_n (i := 3) 0 d_M_holds_155 rfl rfl ?_
            refine z_aload_n (i := 0) (c := 0) 2 d_M_holds_156 rfl rfl rfl ?_
            refine z_getr (c := 0) (kI := 0) (r2 := 1) d_M_holds_157 fd_M_at fl_M_7 rfl rfl rfl (ks_M_0 hx) (kl_M_0 hx) (kr_M_0_0 hx) ?_
            refine z_iload_n (i := 1) 3 d_M_holds_160 rfl rfl ?_
            refine z_iconst (n := 1) d_M_holds_161 (by decide) ?_
            obtain ⟨c26, h⟩ := h
            refine z_iadd d_M_holds_162 c26 ?_
            obtain ⟨c27, h⟩ := h
            refine z_iald (c := 1) (m := 3296) d_M_holds_163 rfl (ks_M_1 hx) (kl_M_1 hx) rfl (by decide) c27 ?_
            refine z_icmp_le (tgt := 171) d_M_holds_164 (by decide) (fun c28 => ?_) (fun c28 => ?_)
            · have h := h.1 c28
              refine z_iconst (n := 0) d_M_holds_171 (by decide) ?_
              refine z_goto (tgt := 192) d_M_holds_172 (by decide) ?_
              exact z_zret d_M_holds_192 rfl (by decide) (by decide) (by decide) ⟨rfl, rfl, h⟩
            · have h := h.2 c28
              refine z_iconst (n := 1) d_M_holds_167 (by decide) ?_
              refine z_goto (tgt := 192) d_M_holds_168 (by decide) ?_
              exact z_zret d_M_holds_192 rfl (by decide) (by decide) (by decide) ⟨rfl, rfl, h⟩
        · have h := h.1 c21
          refine z_iload_n (i := 3) 0 d_M_holds_122 rfl rfl ?_
          refine z_aload_n (i := 0) (c := 0) 2 d_M_holds_123 rfl rfl rfl ?_
          refine z_getr (c := 0) (kI := 0) (r2 := 1) d_M_holds_124 fd_M_at fl_M_7 rfl rfl rfl (ks_M_0 hx) (kl_M_0 hx) (kr_M_0_0 hx) ?_
          refine z_iload_n (i := 1) 3 d_M_holds_127 rfl rfl ?_
          refine z_iconst (n := 1) d_M_holds_128 (by decide) ?_
          obtain ⟨c29, h⟩ := h
          refine z_iadd d_M_holds_129 c29 ?_
          obtain ⟨c30, h⟩ := h
          refine z_iald (c := 1) (m := 3296) d_M_holds_130 rfl (ks_M_1 hx) (kl_M_1 hx) rfl (by decide) c30 ?_
          refine z_icmp_ge (tgt := 138) d_M_holds_131 (by decide) (fun c31 => ?_) (fun c31 => ?_)
          · have h := h.1 c31
            refine z_iconst (n := 0) d_M_holds_138 (by decide) ?_
            refine z_goto (tgt := 192) d_M_holds_139 (by decide) ?_
            exact z_zret d_M_holds_192 rfl (by decide) (by decide) (by decide) ⟨rfl, rfl, h⟩
          · have h := h.2 c31
            refine z_iconst (n := 1) d_M_holds_134 (by decide) ?_
            refine z_goto (tgt := 192) d_M_holds_135 (by decide) ?_
            exact z_zret d_M_holds_192 rfl (by decide) (by decide) (by decide) ⟨rfl, rfl, h⟩
    · have h := h.1 c4
      refine z_aload_n (i := 0) (c := 0) 1 d_M_holds_49 rfl rfl rfl ?_
      refine z_getr (c := 0) (kI := 0) (r2 := 1) d_M_holds_50 fd_M_at fl_M_7 rfl rfl rfl (ks_M_0 hx) (kl_M_0 hx) (kr_M_0_0 hx) ?_
      refine z_iconst (n := 2) d_M_holds_53 (by decide) ?_
      refine z_iald (c := 1) (m := 3296) d_M_holds_54 rfl (ks_M_1 hx) (kl_M_1 hx) rfl (by decide) (by decide) ?_
      refine z_aload_n (i := 0) (c := 0) 1 d_M_holds_55 rfl rfl rfl ?_
      refine z_getr (c := 0) (kI := 0) (r2 := 1) d_M_holds_56 fd_M_at fl_M_7 rfl rfl rfl (ks_M_0 hx) (kl_M_0 hx) (kr_M_0_0 hx) ?_
      refine z_iload_n (i := 1) 2 d_M_holds_59 rfl rfl ?_
      refine z_iconst (n := 1) d_M_holds_60 (by decide) ?_
      obtain ⟨c32, h⟩ := h
      refine z_iadd d_M_holds_61 c32 ?_
      obtain ⟨c33, h⟩ := h
      refine z_iald (c := 1) (m := 3296) d_M_holds_62 rfl (ks_M_1 hx) (kl_M_1 hx) rfl (by decide) c33 ?_
      refine z_icmp_ne (tgt := 87) d_M_holds_63 (by decide) (fun c34 => ?_) (fun c34 => ?_)
      · have h := h.2 c34
        refine z_iconst (n := 0) d_M_holds_87 (by decide) ?_
        exact z_zret d_M_holds_88 rfl (by decide) (by decide) (by decide) ⟨rfl, rfl, h⟩
      · have h := h.1 c34
        refine z_aload_n (i := 0) (c := 0) 1 d_M_holds_66 rfl rfl rfl ?_
        refine z_getr (c := 0) (kI := 0) (r2 := 1) d_M_holds_67 fd_M_at fl_M_7 rfl rfl rfl (ks_M_0 hx) (kl_M_0 hx) (kr_M_0_0 hx) ?_
        refine z_iconst (n := 3) d_M_holds_70 (by decide) ?_
        refine z_iald (c := 1) (m := 3296) d_M_holds_71 rfl (ks_M_1 hx) (kl_M_1 hx) rfl (by decide) (by decide) ?_
        refine z_aload_n (i := 0) (c := 0) 1 d_M_holds_72 rfl rfl rfl ?_
        refine z_getr (c := 0) (kI := 0) (r2 := 1) d_M_holds_73 fd_M_at fl_M_7 rfl rfl rfl (ks_M_0 hx) (kl_M_0 hx) (kr_M_0_0 hx) ?_
        refine z_iload_n (i := 1) 2 d_M_holds_76 rfl rfl ?_
        refine z_iconst (n := 2) d_M_holds_77 (by decide) ?_
        obtain ⟨c35, h⟩ := h
        refine z_iadd d_M_holds_78 c35 ?_
        obtain ⟨c36, h⟩ := h
        refine z_iald (c := 1) (m := 3296) d_M_holds_79 rfl (ks_M_1 hx) (kl_M_1 hx) rfl (by decide) c36 ?_
        refine z_icmp_ne (tgt := 87) d_M_holds_80 (by decide) (fun c37 => ?_) (fun c37 => ?_)
        · have h := h.2 c37
          refine z_iconst (n := 0) d_M_holds_87 (by decide) ?_
          exact z_zret d_M_holds_88 rfl (by decide) (by decide) (by decide) ⟨rfl, rfl, h⟩
        · have h := h.1 c37
          refine z_iconst (n := 1) d_M_holds_83 (by decide) ?_
          refine z_goto (tgt := 88) d_M_holds_84 (by decide) ?_
          exact z_zret d_M_holds_88 rfl (by decide) (by decide) (by decide) ⟨rfl, rfl, h⟩
  · have h := h.1 c3
    refine z_aload_n (i := 0) (c := 0) 1 d_M_holds_17 rfl rfl rfl ?_
    refine z_aload_n (i := 0) (c := 0) 1 d_M_holds_18 rfl rfl rfl ?_
    refine z_getr (c := 0) (kI := 0) (r2 := 1) d_M_holds_19 fd_M_at fl_M_7 rfl rfl rfl (ks_M_0 hx) (kl_M_0 hx) (kr_M_0_0 hx) ?_
    refine z_iconst (n := 2) d_M_holds_22 (by decide) ?_
    refine z_iald (c := 1) (m := 3296) d_M_holds_23 rfl (ks_M_1 hx) (kl_M_1 hx) rfl (by decide) (by decide) ?_
    refine z_aload_n (i := 0) (c := 0) 1 d_M_holds_24 rfl rfl rfl ?_
    refine z_getr (c := 0) (kI := 0) (r2 := 1) d_M_holds_25 fd_M_at fl_M_7 rfl rfl rfl (ks_M_0 hx) (kl_M_0 hx) (kr_M_0_0 hx) ?_
    refine z_iconst (n := 3) d_M_holds_28 (by decide) ?_
    refine z_iald (c := 1) (m := 3296) d_M_holds_29 rfl (ks_M_1 hx) (kl_M_1 hx) rfl (by decide) (by decide) ?_
    refine z_cV (c := 0) (as := [(0, g 1 2), (0, g 1 3)]) (d' := 2) (st := []) d_M_holds_30 mi_M_pinOf ml_M_349 mv_M_pinOf se_M_pinOf rfl rfl rfl rfl (ks_M_0 hx) rfl rfl (kl_M_0 hx) rfl rfl (z_Omono h (fun r1 g1 _ h hro => ?_))
    show z_U X 4 m_M_holds 33 [(2, (0, (g 1 a1) - 1200)), (0, (2, 0)), (1, (0, a1))] [(0, r1)] N σ g1 Q
    refine z_iconst (n := (-1)) d_M_holds_33 (by decide) ?_
    refine z_icmp_eq (tgt := 41) d_M_holds_34 (by decide) (fun c38 => ?_) (fun c38 => ?_)
    · have h := h.1 c38
      refine z_iconst (n := 0) d_M_holds_41 (by decide) ?_
      exact z_zret d_M_holds_42 rfl (by decide) (by decide) (by decide) ⟨rfl, rfl, h⟩
    · have h := h.2 c38
      refine z_iconst (n := 1) d_M_holds_37 (by decide) ?_
      refine z_goto (tgt := 42) d_M_holds_38 (by decide) ?_
      exact z_zret d_M_holds_42 rfl (by decide) (by decide) (by decide) ⟨rfl, rfl, h⟩
theorem d_M_jump_0 : decode (z_c m_M_jump) 0 = .ok (.iload_n 1, 1) := by decide +kernel
theorem d_M_jump_1 : decode (z_c m_M_jump) 1 = .ok (.iload_n 2, 1) := by decide +kernel
theorem d_M_jump_2 : decode (z_c m_M_jump) 2 = .ok (.invokestatic 272, 3) := by decide +kernel
theorem d_M_jump_5 : decode (z_c m_M_jump) 5 = .ok (.ifCond .ne 9, 3) := by decide +kernel
theorem d_M_jump_8 : decode (z_c m_M_jump) 8 = .ok (.aload_n 0, 1) := by decide +kernel
theorem d_M_jump_9 : decode (z_c m_M_jump) 9 = .ok (.iconst 1, 1) := by decide +kernel
theorem d_M_jump_10 : decode (z_c m_M_jump) 10 = .ok (.invokevirtual 87, 3) := by decide +kernel
theorem d_M_jump_13 : decode (z_c m_M_jump) 13 = .ok (.ireturn, 1) := by decide +kernel
theorem d_M_jump_14 : decode (z_c m_M_jump) 14 = .ok (.iload_n 1, 1) := by decide +kernel
theorem d_M_jump_15 : decode (z_c m_M_jump) 15 = .ok (.iload_n 2, 1) := by decide +kernel
theorem d_M_jump_16 : decode (z_c m_M_jump) 16 = .ok (.invokestatic 297, 3) := by decide +kernel
theorem d_M_jump_19 : decode (z_c m_M_jump) 19 = .ok (.ifCond .ne 10, 3) := by decide +kernel
theorem d_M_jump_22 : decode (z_c m_M_jump) 22 = .ok (.aload_n 0, 1) := by decide +kernel
theorem d_M_jump_23 : decode (z_c m_M_jump) 23 = .ok (.bipush 7, 2) := by decide +kernel
theorem d_M_jump_25 : decode (z_c m_M_jump) 25 = .ok (.invokevirtual 87, 3) := by decide +kernel
theorem d_M_jump_28 : decode (z_c m_M_jump) 28 = .ok (.ireturn, 1) := by decide +kernel
theorem d_M_jump_29 : decode (z_c m_M_jump) 29 = .ok (.iload_n 1, 1) := by decide +kernel
theorem d_M_jump_30 : decode (z_c m_M_jump) 30 = .ok (.iload_n 2, 1) := by decide +kernel
theorem d_M_jump_31 : decode (z_c m_M_jump) 31 = .ok (.invokestatic 182, 3) := by decide +kernel
theorem d_M_jump_34 : decode (z_c m_M_jump) 34 = .ok (.istore_n 3, 1) := by decide +kernel
theorem d_M_jump_35 : decode (z_c m_M_jump) 35 = .ok (.aload_n 0, 1) := by decide +kernel
theorem d_M_jump_36 : decode (z_c m_M_jump) 36 = .ok (.iload_n 1, 1) := by decide +kernel
theorem d_M_jump_37 : decode (z_c m_M_jump) 37 = .ok (.iload_n 3, 1) := by decide +kernel
theorem d_M_jump_38 : decode (z_c m_M_jump) 38 = .ok (.idiv, 1) := by decide +kernel
theorem d_M_jump_39 : decode (z_c m_M_jump) 39 = .ok (.iload_n 2, 1) := by decide +kernel
theorem d_M_jump_40 : decode (z_c m_M_jump) 40 = .ok (.iload_n 3, 1) := by decide +kernel
theorem d_M_jump_41 : decode (z_c m_M_jump) 41 = .ok (.idiv, 1) := by decide +kernel
theorem d_M_jump_42 : decode (z_c m_M_jump) 42 = .ok (.invokevirtual 329, 3) := by decide +kernel
theorem d_M_jump_45 : decode (z_c m_M_jump) 45 = .ok (.aload_n 0, 1) := by decide +kernel
theorem d_M_jump_46 : decode (z_c m_M_jump) 46 = .ok (.aload_n 0, 1) := by decide +kernel
theorem d_M_jump_47 : decode (z_c m_M_jump) 47 = .ok (.invokevirtual 335, 3) := by decide +kernel
theorem d_M_jump_50 : decode (z_c m_M_jump) 50 = .ok (.invokevirtual 91, 3) := by decide +kernel
theorem d_M_jump_53 : decode (z_c m_M_jump) 53 = .ok (.ireturn, 1) := by decide +kernel
set_option maxRecDepth 8000 in
theorem b_M_jump_0 {X : z_X} {N : Nat} {σ g : z_G} {Q : z_P} {a1 a2 : Int} (hx : z_lay X N σ 0 z_SM z_RM) (h : ((a2 < 1) → Q (-1) (z_up g 0 1 1)) ∧ (¬ (a2 < 1) → (((9999 < a2) → Q (-1) (z_up g 0 1 1)) ∧ (¬ (9999 < a2) → (((a1 < 0) → Q (-1) (z_up g 0 1 1)) ∧ (¬ (a1 < 0) → (((a2 < a1) → Q (-1) (z_up g 0 1 1)) ∧ (¬ (a2 < a1) → (((a1 ≤ 0) → Q (-1) (z_up g 0 1 7)) ∧ (¬ (a1 ≤ 0) → (((a2 ≤ a1) → Q (-1) (z_up g 0 1 7)) ∧ (¬ (a2 ≤ a1) → (z_O X 1 m_M_common [(0, a1), (0, a2)] N σ g (fun r0 g0 => ((0 < r0) ∧ (z_O X 2 m_M_comes [(2, 0), (0, Int.tdiv a1 r0), (0, Int.tdiv a2 r0)] N σ g0 (fun r1 g1 => (z_O X 2 m_M_depthOf [(2, 0), (0, g1 1 2), (0, g1 1 3)] N σ g1 (fun r2 g2 => Q r2 (z_up g2 0 1 0)))))))))))))))))))) : z_O X 4 m_M_jump [(2, 0), (0, a1), (0, a2)] N σ g Q := by
  refine z_Oenter mi_M_jump rfl (fun _ => ?_)
  show z_U X 4 m_M_jump 0 [(0, (2, 0)), (1, (0, a1)), (2, (0, a2))] [] N σ g Q
  refine z_iload_n (i := 1) 1 d_M_jump_0 rfl rfl ?_
  refine z_iload_n (i := 2) 2 d_M_jump_1 rfl rfl ?_
  refine z_cS (as := [(0, a1), (0, a2)]) (d' := 1) (st := []) d_M_jump_2 mi_M_isValue ml_M_272 ms_M_isValue rfl rfl rfl rfl rfl (b_M_isValue_0  ?_)
  refine ⟨fun c1 => ?_, fun c1 => ?_⟩
  · have h := h.1 c1
    intro _
    show z_U X 4 m_M_jump 5 [(0, (2, 0)), (1, (0, a1)), (2, (0, a2))] [(0, 0)] N σ g Q
    refine z_if_ne (tgt := 14) d_M_jump_5 (by decide) (fun c => absurd (by decide) c) (fun _ => ?_)
    refine z_aload_n (i := 0) (c := 0) 0 d_M_jump_8 rfl rfl rfl ?_
    refine z_iconst (n := 1) d_M_jump_9 (by decide) ?_
    refine z_cV (c := 0) (as := [(0, 1)]) (d' := 1) (st := []) d_M_jump_10 mi_M_refuse ml_M_87 mv_M_refuse se_M_refuse rfl rfl rfl rfl (ks_M_0 hx) rfl rfl (kl_M_0 hx) rfl rfl (b_M_refuse_0 hx ?_)
    intro _
    show z_U X 4 m_M_jump 13 [(0, (2, 0)), (1, (0, a1)), (2, (0, a2))] [(0, (-1))] N σ (z_up g 0 1 1) Q
    exact z_iret d_M_jump_13 rfl (by decide) (by decide) ⟨rfl, rfl, h⟩
  · have h := h.2 c1
    refine ⟨fun c2 => ?_, fun c2 => ?_⟩
    · have h := h.1 c2
      intro _
      show z_U X 4 m_M_jump 5 [(0, (2, 0)), (1, (0, a1)), (2, (0, a2))] [(0, 0)] N σ g Q
      refine z_if_ne (tgt := 14) d_M_jump_5 (by decide) (fun c => absurd (by decide) c) (fun _ => ?_)
      refine z_aload_n (i := 0) (c := 0) 0 d_M_jump_8 rfl rfl rfl ?_
      refine z_iconst (n := 1) d_M_jump_9 (by decide) ?_
      refine z_cV (c := 0) (as := [(0, 1)]) (d' := 1) (st := []) d_M_jump_10 mi_M_refuse ml_M_87 mv_M_refuse se_M_refuse rfl rfl rfl rfl (ks_M_0 hx) rfl rfl (kl_M_0 hx) rfl rfl (b_M_refuse_0 hx ?_)
      intro _
      show z_U X 4 m_M_jump 13 [(0, (2, 0)), (1, (0, a1)), (2, (0, a2))] [(0, (-1))] N σ (z_up g 0 1 1) Q
      exact z_iret d_M_jump_13 rfl (by decide) (by decide) ⟨rfl, rfl, h⟩
    · have h := h.2 c2
      refine ⟨fun c3 => ?_, fun c3 => ?_⟩
      · have h := h.1 c3
        intro _
        show z_U X 4 m_M_jump 5 [(0, (2, 0)), (1, (0, a1)), (2, (0, a2))] [(0, 0)] N σ g Q
        refine z_if_ne (tgt := 14) d_M_jump_5 (by decide) (fun c => absurd (by decide) c) (fun _ => ?_)
        refine z_aload_n (i := 0) (c := 0) 0 d_M_jump_8 rfl rfl rfl ?_
        refine z_iconst (n := 1) d_M_jump_9 (by decide) ?_
        refine z_cV (c := 0) (as := [(0, 1)]) (d' := 1) (st := []) d_M_jump_10 mi_M_refuse ml_M_87 mv_M_refuse se_M_refuse rfl rfl rfl rfl (ks_M_0 hx) rfl rfl (kl_M_0 hx) rfl rfl (b_M_refuse_0 hx ?_)
        intro _
        show z_U X 4 m_M_jump 13 [(0, (2, 0)), (1, (0, a1)), (2, (0, a2))] [(0, (-1))] N σ (z_up g 0 1 1) Q
        exact z_iret d_M_jump_13 rfl (by decide) (by decide) ⟨rfl, rfl, h⟩
      · have h := h.2 c3
        refine ⟨fun c4 => ?_, fun c4 => ?_⟩
        · have h := h.1 c4
          intro _
          show z_U X 4 m_M_jump 5 [(0, (2, 0)), (1, (0, a1)), (2, (0, a2))] [(0, 0)] N σ g Q
          refine z_if_ne (tgt := 14) d_M_jump_5 (by decide) (fun c => absurd (by decide) c) (fun _ => ?_)
          refine z_aload_n (i := 0) (c := 0) 0 d_M_jump_8 rfl rfl rfl ?_
          refine z_iconst (n := 1) d_M_jump_9 (by decide) ?_
          refine z_cV (c := 0) (as := [(0, 1)]) (d' := 1) (st := []) d_M_jump_10 mi_M_refuse ml_M_87 mv_M_refuse se_M_refuse rfl rfl rfl rfl (ks_M_0 hx) rfl rfl (kl_M_0 hx) rfl rfl (b_M_refuse_0 hx ?_)
          intro _
          show z_U X 4 m_M_jump 13 [(0, (2, 0)), (1, (0, a1)), (2, (0, a2))] [(0, (-1))] N σ (z_up g 0 1 1) Q
          exact z_iret d_M_jump_13 rfl (by decide) (by decide) ⟨rfl, rfl, h⟩
        · have h := h.2 c4
          intro _
          show z_U X 4 m_M_jump 5 [(0, (2, 0)), (1, (0, a1)), (2, (0, a2))] [(0, 1)] N σ g Q
          refine z_if_ne (tgt := 14) d_M_jump_5 (by decide) (fun _ => ?_) (fun c => absurd c (by decide))
          refine z_iload_n (i := 1) 1 d_M_jump_14 rfl rfl ?_
          refine z_iload_n (i := 2) 2 d_M_jump_15 rfl rfl ?_
          refine z_cS (as := [(0, a1), (0, a2)]) (d' := 1) (st := []) d_M_jump_16 mi_M_isOfTree ml_M_297 ms_M_isOfTree rfl rfl rfl rfl rfl (b_M_isOfTree_0  ?_)
          refine ⟨fun c5 => ?_, fun c5 => ?_⟩
          · have h := h.1 c5
            intro _
            show z_U X 4 m_M_jump 19 [(0, (2, 0)), (1, (0, a1)), (2, (0, a2))] [(0, 0)] N σ g Q
            refine z_if_ne (tgt := 29) d_M_jump_19 (by decide) (fun c => absurd (by decide) c) (fun _ => ?_)
            refine z_aload_n (i := 0) (c := 0) 0 d_M_jump_22 rfl rfl rfl ?_
            refine z_bipush (n := 7) d_M_jump_23 (by decide) (by decide) ?_
            refine z_cV (c := 0) (as := [(0, 7)]) (d' := 1) (st := []) d_M_jump_25 mi_M_refuse ml_M_87 mv_M_refuse se_M_refuse rfl rfl rfl rfl (ks_M_0 hx) rfl rfl (kl_M_0 hx) rfl rfl (b_M_refuse_0 hx ?_)
            intro _
            show z_U X 4 m_M_jump 28 [(0, (2, 0)), (1, (0, a1)), (2, (0, a2))] [(0, (-1))] N σ (z_up g 0 1 7) Q
            exact z_iret d_M_jump_28 rfl (by decide) (by decide) ⟨rfl, rfl, h⟩
          · have h := h.2 c5
            refine ⟨fun c6 => ?_, fun c6 => ?_⟩
            · have h := h.1 c6
              intro _
              show z_U X 4 m_M_jump 19 [(0, (2, 0)), (1, (0, a1)), (2, (0, a2))] [(0, 0)] N σ g Q
              refine z_if_ne (tgt := 29) d_M_jump_19 (by decide) (fun c => absurd (by decide) c) (fun _ => ?_)
              refine z_aload_n (i := 0) (c := 0) 0 d_M_jump_22 rfl rfl rfl ?_
              refine z_bipush (n := 7) d_M_jump_23 (by decide) (by decide) ?_
              refine z_cV (c := 0) (as := [(0, 7)]) (d' := 1) (st := []) d_M_jump_25 mi_M_refuse ml_M_87 mv_M_refuse se_M_refuse rfl rfl rfl rfl (ks_M_0 hx) rfl rfl (kl_M_0 hx) rfl rfl (b_M_refuse_0 hx ?_)
              intro _
              show z_U X 4 m_M_jump 28 [(0, (2, 0)), (1, (0, a1)), (2, (0, a2))] [(0, (-1))] N σ (z_up g 0 1 7) Q
              exact z_iret d_M_jump_28 rfl (by decide) (by decide) ⟨rfl, rfl, h⟩
            · have h := h.2 c6
              intro _
              show z_U X 4 m_M_jump 19 [(0, (2, 0)), (1, (0, a1)), (2, (0, a2))] [(0, 1)] N σ g Q
              refine z_if_ne (tgt := 29) d_M_jump_19 (by decide) (fun _ => ?_) (fun c => absurd c (by decide))
              refine z_iload_n (i := 1) 1 d_M_jump_29 rfl rfl ?_
              refine z_iload_n (i := 2) 2 d_M_jump_30 rfl rfl ?_
              refine z_cS (as := [(0, a1), (0, a2)]) (d' := 1) (st := []) d_M_jump_31 mi_M_common ml_M_182 ms_M_common rfl rfl rfl rfl rfl (z_Omono h (fun r0 g0 _ h hro => ?_))
              show z_U X 4 m_M_jump 34 [(0, (2, 0)), (1, (0, a1)), (2, (0, a2))] [(0, r0)] N σ g0 Q
              refine z_istore_n (i := 3) (ls' := [(3, (0, r0)), (0, (2, 0)), (1, (0, a1)), (2, (0, a2))]) d_M_jump_34 rfl rfl rfl ?_
              refine z_aload_n (i := 0) (c := 0) 1 d_M_jump_35 rfl rfl rfl ?_
              refine z_iload_n (i := 1) 2 d_M_jump_36 rfl rfl ?_
              refine z_iload_n (i := 3) 0 d_M_jump_37 rfl rfl ?_
              obtain ⟨c7, h⟩ := h
              refine z_idiv d_M_jump_38 c7 ?_
              refine z_iload_n (i := 2) 3 d_M_jump_39 rfl rfl ?_
              refine z_iload_n (i := 3) 0 d_M_jump_40 rfl rfl ?_
              refine z_idiv d_M_jump_41 c7 ?_
              refine z_cV (c := 0) (as := [(0, Int.tdiv a1 r0), (0, Int.tdiv a2 r0)]) (d' := 2) (st := []) d_M_jump_42 mi_M_comes ml_M_329 mv_M_comes se_M_comes rfl rfl rfl rfl (ks_M_0 hx) rfl rfl (kl_M_0 hx) rfl rfl (z_Omono h (fun r1 g1 _ h hro => ?_))
              show z_U X 4 m_M_jump 45 [(3, (0, r0)), (0, (2, 0)), (1, (0, a1)), (2, (0, a2))] [] N σ g1 Q
              refine z_aload_n (i := 0) (c := 0) 1 d_M_jump_45 rfl rfl rfl ?_
              refine z_aload_n (i := 0) (c := 0) 1 d_M_jump_46 rfl rfl rfl ?_
              refine z_cV (c := 0) (as := []) (d' := 3) (st := [(2, 0)]) d_M_jump_47 mi_M_depthNow ml_M_335 mv_M_depthNow se_M_depthNow rfl rfl rfl rfl (ks_M_0 hx) rfl rfl (kl_M_0 hx) rfl rfl (b_M_depthNow_0 hx ?_)
              refine z_Omono h (fun r2 g2 _ h => ?_)
              intro _
              show z_U X 4 m_M_jump 50 [(3, (0, r0)), (0, (2, 0)), (1, (0, a1)), (2, (0, a2))] [(0, r2), (2, 0)] N σ g2 Q
              refine z_cV (c := 0) (as := [(0, r2)]) (d' := 1) (st := []) d_M_jump_50 mi_M_gives ml_M_91 mv_M_gives se_M_gives rfl rfl rfl rfl (ks_M_0 hx) rfl rfl (kl_M_0 hx) rfl rfl (b_M_gives_0 hx ?_)
              intro _
              show z_U X 4 m_M_jump 53 [(3, (0, r0)), (0, (2, 0)), (1, (0, a1)), (2, (0, a2))] [(0, r2)] N σ (z_up g2 0 1 0) Q
              exact z_iret d_M_jump_53 rfl (by decide) (by decide) ⟨rfl, rfl, h⟩
theorem d_M_lessThan_0 : decode (z_c m_M_lessThan) 0 = .ok (.aload_n 0, 1) := by decide +kernel
theorem d_M_lessThan_1 : decode (z_c m_M_lessThan) 1 = .ok (.invokevirtual 250, 3) := by decide +kernel
theorem d_M_lessThan_4 : decode (z_c m_M_lessThan) 4 = .ok (.iconst 0, 1) := by decide +kernel
theorem d_M_lessThan_5 : decode (z_c m_M_lessThan) 5 = .ok (.istore_n 3, 1) := by decide +kernel
theorem d_M_lessThan_6 : decode (z_c m_M_lessThan) 6 = .ok (.iload_n 3, 1) := by decide +kernel
theorem d_M_lessThan_7 : decode (z_c m_M_lessThan) 7 = .ok (.aload_n 0, 1) := by decide +kernel
theorem d_M_lessThan_8 : decode (z_c m_M_lessThan) 8 = .ok (.getfield 237, 3) := by decide +kernel
theorem d_M_lessThan_11 : decode (z_c m_M_lessThan) 11 = .ok (.if_icmp .ge 28, 3) := by decide +kernel
theorem d_M_lessThan_14 : decode (z_c m_M_lessThan) 14 = .ok (.aload_n 0, 1) := by decide +kernel
theorem d_M_lessThan_15 : decode (z_c m_M_lessThan) 15 = .ok (.getfield 44, 3) := by decide +kernel
theorem d_M_lessThan_18 : decode (z_c m_M_lessThan) 18 = .ok (.iload_n 3, 1) := by decide +kernel
theorem d_M_lessThan_19 : decode (z_c m_M_lessThan) 19 = .ok (.iaload, 1) := by decide +kernel
theorem d_M_lessThan_20 : decode (z_c m_M_lessThan) 20 = .ok (.iload_n 2, 1) := by decide +kernel
theorem d_M_lessThan_21 : decode (z_c m_M_lessThan) 21 = .ok (.imul, 1) := by decide +kernel
theorem d_M_lessThan_22 : decode (z_c m_M_lessThan) 22 = .ok (.iload_n 1, 1) := by decide +kernel
theorem d_M_lessThan_23 : decode (z_c m_M_lessThan) 23 = .ok (.aload_n 0, 1) := by decide +kernel
theorem d_M_lessThan_24 : decode (z_c m_M_lessThan) 24 = .ok (.getfield 47, 3) := by decide +kernel
theorem d_M_lessThan_27 : decode (z_c m_M_lessThan) 27 = .ok (.iload_n 3, 1) := by decide +kernel
theorem d_M_lessThan_28 : decode (z_c m_M_lessThan) 28 = .ok (.iaload, 1) := by decide +kernel
theorem d_M_lessThan_29 : decode (z_c m_M_lessThan) 29 = .ok (.imul, 1) := by decide +kernel
theorem d_M_lessThan_30 : decode (z_c m_M_lessThan) 30 = .ok (.if_icmp .ge 9, 3) := by decide +kernel
theorem d_M_lessThan_33 : decode (z_c m_M_lessThan) 33 = .ok (.iinc 3 1, 3) := by decide +kernel
theorem d_M_lessThan_36 : decode (z_c m_M_lessThan) 36 = .ok (.goto (-30), 3) := by decide +kernel
theorem d_M_lessThan_39 : decode (z_c m_M_lessThan) 39 = .ok (.iload_n 3, 1) := by decide +kernel
theorem d_M_lessThan_40 : decode (z_c m_M_lessThan) 40 = .ok (.ireturn, 1) := by decide +kernel
abbrev L_M_lessThan_6 (X : z_X) (N : Nat) (σ : z_G) (x1 x2 x3 : Int) (g : z_G) (Q : z_P) : Prop := z_U X 4 m_M_lessThan 6 [(0, (2, 0)), (1, (0, x1)), (2, (0, x2)), (3, (0, x3))] [] N σ g Q
set_option maxRecDepth 8000 in
theorem b_M_lessThan_0 {X : z_X} {N : Nat} {σ g : z_G} {Q : z_P} {a1 a2 : Int} (hx : z_lay X N σ 0 z_SM z_RM) (h : z_O X 2 m_M_lays [(2, 0), (0, g 1 1)] N σ g (fun r0 g0 => L_M_lessThan_6 X N σ a1 a2 0 g0 Q)) : z_O X 4 m_M_lessThan [(2, 0), (0, a1), (0, a2)] N σ g Q := by
  refine z_Oenter mi_M_lessThan rfl (fun _ => ?_)
  show z_U X 4 m_M_lessThan 0 [(0, (2, 0)), (1, (0, a1)), (2, (0, a2))] [] N σ g Q
  refine z_aload_n (i := 0) (c := 0) 0 d_M_lessThan_0 rfl rfl rfl ?_
  refine z_cV (c := 0) (as := []) (d' := 3) (st := []) d_M_lessThan_1 mi_M_laysRow ml_M_250 mv_M_laysRow se_M_laysRow rfl rfl rfl rfl (ks_M_0 hx) rfl rfl (kl_M_0 hx) rfl rfl (b_M_laysRow_0 hx ?_)
  refine z_Omono h (fun r0 g0 _ h => ?_)
  intro _
  show z_U X 4 m_M_lessThan 4 [(0, (2, 0)), (1, (0, a1)), (2, (0, a2))] [] N σ g0 Q
  refine z_iconst (n := 0) d_M_lessThan_4 (by decide) ?_
  refine z_istore_n (i := 3) (ls' := [(3, (0, 0)), (0, (2, 0)), (1, (0, a1)), (2, (0, a2))]) d_M_lessThan_5 rfl rfl rfl ?_
  refine z_sub (ls' := [(0, (2, 0)), (1, (0, a1)), (2, (0, a2)), (3, (0, 0))]) [1, 2, 3, 0] rfl ?_
  exact h
set_option maxRecDepth 8000 in
theorem b_M_lessThan_6 {X : z_X} {N : Nat} {σ g : z_G} {Q : z_P} {x1 x2 x3 : Int} (hx : z_lay X N σ 0 z_SM z_RM) (h : (((g 0 24) ≤ x3) → Q x3 g) ∧ (¬ ((g 0 24) ≤ x3) → ((0 ≤ x3 ∧ x3 < 12233) ∧ ((-2147483648 ≤ ((g 8 x3) * x2) ∧ ((g 8 x3) * x2) ≤ 2147483647) ∧ ((-2147483648 ≤ (x1 * (g 9 x3)) ∧ (x1 * (g 9 x3)) ≤ 2147483647) ∧ ((((x1 * (g 9 x3)) ≤ ((g 8 x3) * x2)) → Q x3 g) ∧ (¬ ((x1 * (g 9 x3)) ≤ ((g 8 x3) * x2)) → ((-2147483648 ≤ (x3 + 1) ∧ (x3 + 1) ≤ 2147483647) ∧ L_M_lessThan_6 X N σ x1 x2 (x3 + 1) g Q)))))))) : L_M_lessThan_6 X N σ x1 x2 x3 g Q := by
  refine z_iload_n (i := 3) 3 d_M_lessThan_6 rfl rfl ?_
  refine z_aload_n (i := 0) (c := 0) 0 d_M_lessThan_7 rfl rfl rfl ?_
  refine z_geti (c := 0) (kI := 24) d_M_lessThan_8 fd_M_many fl_M_237 (Or.inl rfl) rfl rfl (ks_M_0 hx) (kl_M_0 hx) ?_
  refine z_icmp_ge (tgt := 39) d_M_lessThan_11 (by decide) (fun c1 => ?_) (fun c1 => ?_)
  · have h := h.1 c1
    refine z_iload_n (i := 3) 3 d_M_lessThan_39 rfl rfl ?_
    exact z_iret d_M_lessThan_40 rfl (by decide) (by decide) ⟨rfl, rfl, h⟩
  · have h := h.2 c1
    refine z_aload_n (i := 0) (c := 0) 0 d_M_lessThan_14 rfl rfl rfl ?_
    refine z_getr (c := 0) (kI := 22) (r2 := 8) d_M_lessThan_15 fd_M_topBy fl_M_44 rfl rfl rfl (ks_M_0 hx) (kl_M_0 hx) (kr_M_0_22 hx) ?_
    refine z_iload_n (i := 3) 3 d_M_lessThan_18 rfl rfl ?_
    obtain ⟨c2, h⟩ := h
    refine z_iald (c := 8) (m := 12233) d_M_lessThan_19 rfl (ks_M_8 hx) (kl_M_8 hx) rfl (by decide) c2 ?_
    refine z_iload_n (i := 2) 2 d_M_lessThan_20 rfl rfl ?_
    obtain ⟨c3, h⟩ := h
    refine z_imul d_M_lessThan_21 c3 ?_
    refine z_iload_n (i := 1) 1 d_M_lessThan_22 rfl rfl ?_
    refine z_aload_n (i := 0) (c := 0) 0 d_M_lessThan_23 rfl rfl rfl ?_
    refine z_getr (c := 0) (kI := 23) (r2 := 9) d_M_lessThan_24 fd_M_bottomBy fl_M_47 rfl rfl rfl (ks_M_0 hx) (kl_M_0 hx) (kr_M_0_23 hx) ?_
    refine z_iload_n (i := 3) 3 d_M_lessThan_27 rfl rfl ?_
    refine z_iald (c := 9) (m := 12233) d_M_lessThan_28 rfl (ks_M_9 hx) (kl_M_9 hx) rfl (by decide) c2 ?_
    obtain ⟨c4, h⟩ := h
    refine z_imul d_M_lessThan_29 c4 ?_
    refine z_icmp_ge (tgt := 39) d_M_lessThan_30 (by decide) (fun c5 => ?_) (fun c5 => ?_)
    · have h := h.1 c5
      refine z_iload_n (i := 3) 3 d_M_lessThan_39 rfl rfl ?_
      exact z_iret d_M_lessThan_40 rfl (by decide) (by decide) ⟨rfl, rfl, h⟩
    · have h := h.2 c5
      obtain ⟨c6, h⟩ := h
      refine z_iinc (n := 1) (ls' := [(3, (0, x3 + 1)), (0, (2, 0)), (1, (0, x1)), (2, (0, x2))]) 3 d_M_lessThan_33 rfl c6 rfl rfl ?_
      refine z_goto (tgt := 6) d_M_lessThan_36 (by decide) ?_
      refine z_sub (ls' := [(0, (2, 0)), (1, (0, x1)), (2, (0, x2)), (3, (0, x3 + 1))]) [1, 2, 3, 0] rfl ?_
      exact h
theorem d_M_lift_0 : decode (z_c m_M_lift) 0 = .ok (.iload_n 1, 1) := by decide +kernel
theorem d_M_lift_1 : decode (z_c m_M_lift) 1 = .ok (.iload_n 2, 1) := by decide +kernel
theorem d_M_lift_2 : decode (z_c m_M_lift) 2 = .ok (.invokestatic 272, 3) := by decide +kernel
theorem d_M_lift_5 : decode (z_c m_M_lift) 5 = .ok (.ifCond .eq 16, 3) := by decide +kernel
theorem d_M_lift_8 : decode (z_c m_M_lift) 8 = .ok (.aload_n 0, 1) := by decide +kernel
theorem d_M_lift_9 : decode (z_c m_M_lift) 9 = .ok (.aload_n 0, 1) := by decide +kernel
theorem d_M_lift_10 : decode (z_c m_M_lift) 10 = .ok (.iload_n 1, 1) := by decide +kernel
theorem d_M_lift_11 : decode (z_c m_M_lift) 11 = .ok (.iload_n 2, 1) := by decide +kernel
theorem d_M_lift_12 : decode (z_c m_M_lift) 12 = .ok (.invokevirtual 360, 3) := by decide +kernel
theorem d_M_lift_15 : decode (z_c m_M_lift) 15 = .ok (.invokevirtual 363, 3) := by decide +kernel
theorem d_M_lift_18 : decode (z_c m_M_lift) 18 = .ok (.goto 8, 3) := by decide +kernel
theorem d_M_lift_21 : decode (z_c m_M_lift) 21 = .ok (.aload_n 0, 1) := by decide +kernel
theorem d_M_lift_22 : decode (z_c m_M_lift) 22 = .ok (.iconst 1, 1) := by decide +kernel
theorem d_M_lift_23 : decode (z_c m_M_lift) 23 = .ok (.invokevirtual 87, 3) := by decide +kernel
theorem d_M_lift_26 : decode (z_c m_M_lift) 26 = .ok (.ireturn, 1) := by decide +kernel
set_option maxRecDepth 8000 in
theorem b_M_lift_0 {X : z_X} {N : Nat} {σ g : z_G} {Q : z_P} {a1 a2 : Int} (hx : z_lay X N σ 0 z_SM z_RM) (h : ((a2 < 1) → Q (-1) (z_up g 0 1 1)) ∧ (¬ (a2 < 1) → (((9999 < a2) → Q (-1) (z_up g 0 1 1)) ∧ (¬ (9999 < a2) → (((a1 < 0) → Q (-1) (z_up g 0 1 1)) ∧ (¬ (a1 < 0) → (((a2 < a1) → Q (-1) (z_up g 0 1 1)) ∧ (¬ (a2 < a1) → (z_O X 3 m_M_lifts [(2, 0), (0, a1), (0, a2)] N σ g (fun r0 g0 => (((r0 = (-1)) → Q (-1) (z_up g0 0 1 6)) ∧ (¬ (r0 = (-1)) → Q r0 (z_up g0 0 1 0))))))))))))) : z_O X 4 m_M_lift [(2, 0), (0, a1), (0, a2)] N σ g Q := by
  refine z_Oenter mi_M_lift rfl (fun _ => ?_)
  show z_U X 4 m_M_lift 0 [(0, (2, 0)), (1, (0, a1)), (2, (0, a2))] [] N σ g Q
  refine z_iload_n (i := 1) 1 d_M_lift_0 rfl rfl ?_
  refine z_iload_n (i := 2) 2 d_M_lift_1 rfl rfl ?_
  refine z_cS (as := [(0, a1), (0, a2)]) (d' := 1) (st := []) d_M_lift_2 mi_M_isValue ml_M_272 ms_M_isValue rfl rfl rfl rfl rfl (b_M_isValue_0  ?_)
  refine ⟨fun c1 => ?_, fun c1 => ?_⟩
  · have h := h.1 c1
    intro _
    show z_U X 4 m_M_lift 5 [(0, (2, 0)), (1, (0, a1)), (2, (0, a2))] [(0, 0)] N σ g Q
    refine z_if_eq (tgt := 21) d_M_lift_5 (by decide) (fun _ => ?_) (fun c => absurd (by decide) c)
    refine z_aload_n (i := 0) (c := 0) 0 d_M_lift_21 rfl rfl rfl ?_
    refine z_iconst (n := 1) d_M_lift_22 (by decide) ?_
    refine z_cV (c := 0) (as := [(0, 1)]) (d' := 1) (st := []) d_M_lift_23 mi_M_refuse ml_M_87 mv_M_refuse se_M_refuse rfl rfl rfl rfl (ks_M_0 hx) rfl rfl (kl_M_0 hx) rfl rfl (b_M_refuse_0 hx ?_)
    intro _
    show z_U X 4 m_M_lift 26 [(0, (2, 0)), (1, (0, a1)), (2, (0, a2))] [(0, (-1))] N σ (z_up g 0 1 1) Q
    exact z_iret d_M_lift_26 rfl (by decide) (by decide) ⟨rfl, rfl, h⟩
  · have h := h.2 c1
    refine ⟨fun c2 => ?_, fun c2 => ?_⟩
    · have h := h.1 c2
      intro _
      show z_U X 4 m_M_lift 5 [(0, (2, 0)), (1, (0, a1)), (2, (0, a2))] [(0, 0)] N σ g Q
      refine z_if_eq (tgt := 21) d_M_lift_5 (by decide) (fun _ => ?_) (fun c => absurd (by decide) c)
      refine z_aload_n (i := 0) (c := 0) 0 d_M_lift_21 rfl rfl rfl ?_
      refine z_iconst (n := 1) d_M_lift_22 (by decide) ?_
      refine z_cV (c := 0) (as := [(0, 1)]) (d' := 1) (st := []) d_M_lift_23 mi_M_refuse ml_M_87 mv_M_refuse se_M_refuse rfl rfl rfl rfl (ks_M_0 hx) rfl rfl (kl_M_0 hx) rfl rfl (b_M_refuse_0 hx ?_)
      intro _
      show z_U X 4 m_M_lift 26 [(0, (2, 0)), (1, (0, a1)), (2, (0, a2))] [(0, (-1))] N σ (z_up g 0 1 1) Q
      exact z_iret d_M_lift_26 rfl (by decide) (by decide) ⟨rfl, rfl, h⟩
    · have h := h.2 c2
      refine ⟨fun c3 => ?_, fun c3 => ?_⟩
      · have h := h.1 c3
        intro _
        show z_U X 4 m_M_lift 5 [(0, (2, 0)), (1, (0, a1)), (2, (0, a2))] [(0, 0)] N σ g Q
        refine z_if_eq (tgt := 21) d_M_lift_5 (by decide) (fun _ => ?_) (fun c => absurd (by decide) c)
        refine z_aload_n (i := 0) (c := 0) 0 d_M_lift_21 rfl rfl rfl ?_
        refine z_iconst (n := 1) d_M_lift_22 (by decide) ?_
        refine z_cV (c := 0) (as := [(0, 1)]) (d' := 1) (st := []) d_M_lift_23 mi_M_refuse ml_M_87 mv_M_refuse se_M_refuse rfl rfl rfl rfl (ks_M_0 hx) rfl rfl (kl_M_0 hx) rfl rfl (b_M_refuse_0 hx ?_)
        intro _
        show z_U X 4 m_M_lift 26 [(0, (2, 0)), (1, (0, a1)), (2, (0, a2))] [(0, (-1))] N σ (z_up g 0 1 1) Q
        exact z_iret d_M_lift_26 rfl (by decide) (by decide) ⟨rfl, rfl, h⟩
      · have h := h.2 c3
        refine ⟨fun c4 => ?_, fun c4 => ?_⟩
        · have h := h.1 c4
          intro _
          show z_U X 4 m_M_lift 5 [(0, (2, 0)), (1, (0, a1)), (2, (0, a2))] [(0, 0)] N σ g Q
          refine z_if_eq (tgt := 21) d_M_lift_5 (by decide) (fun _ => ?_) (fun c => absurd (by decide) c)
          refine z_aload_n (i := 0) (c := 0) 0 d_M_lift_21 rfl rfl rfl ?_
          refine z_iconst (n := 1) d_M_lift_22 (by decide) ?_
          refine z_cV (c := 0) (as := [(0, 1)]) (d' := 1) (st := []) d_M_lift_23 mi_M_refuse ml_M_87 mv_M_refuse se_M_refuse rfl rfl rfl rfl (ks_M_0 hx) rfl rfl (kl_M_0 hx) rfl rfl (b_M_refuse_0 hx ?_)
          intro _
          show z_U X 4 m_M_lift 26 [(0, (2, 0)), (1, (0, a1)), (2, (0, a2))] [(0, (-1))] N σ (z_up g 0 1 1) Q
          exact z_iret d_M_lift_26 rfl (by decide) (by decide) ⟨rfl, rfl, h⟩
        · have h := h.2 c4
          intro _
          show z_U X 4 m_M_lift 5 [(0, (2, 0)), (1, (0, a1)), (2, (0, a2))] [(0, 1)] N σ g Q
          refine z_if_eq (tgt := 21) d_M_lift_5 (by decide) (fun c => absurd c (by decide)) (fun _ => ?_)
          refine z_aload_n (i := 0) (c := 0) 0 d_M_lift_8 rfl rfl rfl ?_
          refine z_aload_n (i := 0) (c := 0) 0 d_M_lift_9 rfl rfl rfl ?_
          refine z_iload_n (i := 1) 1 d_M_lift_10 rfl rfl ?_
          refine z_iload_n (i := 2) 2 d_M_lift_11 rfl rfl ?_
          refine z_cV (c := 0) (as := [(0, a1), (0, a2)]) (d' := 3) (st := [(2, 0)]) d_M_lift_12 mi_M_lifts ml_M_360 mv_M_lifts se_M_lifts rfl rfl rfl rfl (ks_M_0 hx) rfl rfl (kl_M_0 hx) rfl rfl (z_Omono h (fun r0 g0 _ h hro => ?_))
          show z_U X 4 m_M_lift 15 [(0, (2, 0)), (1, (0, a1)), (2, (0, a2))] [(0, r0), (2, 0)] N σ g0 Q
          refine z_cV (c := 0) (as := [(0, r0)]) (d' := 2) (st := []) d_M_lift_15 mi_M_orNone ml_M_363 mv_M_orNone se_M_orNone rfl rfl rfl rfl (ks_M_0 hx) rfl rfl (kl_M_0 hx) rfl rfl (b_M_orNone_0 hx ?_)
          refine ⟨fun c5 => ?_, fun c5 => ?_⟩
          · have h := h.1 c5
            intro _
            show z_U X 4 m_M_lift 18 [(0, (2, 0)), (1, (0, a1)), (2, (0, a2))] [(0, (-1))] N σ (z_up g0 0 1 6) Q
            refine z_goto (tgt := 26) d_M_lift_18 (by decide) ?_
            exact z_iret d_M_lift_26 rfl (by decide) (by decide) ⟨rfl, rfl, h⟩
          · have h := h.2 c5
            intro _
            show z_U X 4 m_M_lift 18 [(0, (2, 0)), (1, (0, a1)), (2, (0, a2))] [(0, r0)] N σ (z_up g0 0 1 0) Q
            refine z_goto (tgt := 26) d_M_lift_18 (by decide) ?_
            exact z_iret d_M_lift_26 rfl (by decide) (by decide) ⟨rfl, rfl, h⟩
theorem d_M_part_0 : decode (z_c m_M_part) 0 = .ok (.iload_n 1, 1) := by decide +kernel
theorem d_M_part_1 : decode (z_c m_M_part) 1 = .ok (.i2l, 1) := by decide +kernel
theorem d_M_part_2 : decode (z_c m_M_part) 2 = .ok (.lconst 1, 1) := by decide +kernel
theorem d_M_part_3 : decode (z_c m_M_part) 3 = .ok (.ldc2_w 263, 3) := by decide +kernel
theorem d_M_part_6 : decode (z_c m_M_part) 6 = .ok (.invokestatic 265, 3) := by decide +kernel
theorem d_M_part_9 : decode (z_c m_M_part) 9 = .ok (.ifCond .ne 9, 3) := by decide +kernel
theorem d_M_part_12 : decode (z_c m_M_part) 12 = .ok (.aload_n 0, 1) := by decide +kernel
theorem d_M_part_13 : decode (z_c m_M_part) 13 = .ok (.iconst 1, 1) := by decide +kernel
theorem d_M_part_14 : decode (z_c m_M_part) 14 = .ok (.invokevirtual 94, 3) := by decide +kernel
theorem d_M_part_17 : decode (z_c m_M_part) 17 = .ok (.ireturn, 1) := by decide +kernel
theorem d_M_part_18 : decode (z_c m_M_part) 18 = .ok (.aload_n 0, 1) := by decide +kernel
theorem d_M_part_19 : decode (z_c m_M_part) 19 = .ok (.invokevirtual 250, 3) := by decide +kernel
theorem d_M_part_22 : decode (z_c m_M_part) 22 = .ok (.iconst 0, 1) := by decide +kernel
theorem d_M_part_23 : decode (z_c m_M_part) 23 = .ok (.istore_n 2, 1) := by decide +kernel
theorem d_M_part_24 : decode (z_c m_M_part) 24 = .ok (.iconst 0, 1) := by decide +kernel
theorem d_M_part_25 : decode (z_c m_M_part) 25 = .ok (.istore_n 3, 1) := by decide +kernel
theorem d_M_part_26 : decode (z_c m_M_part) 26 = .ok (.iload_n 3, 1) := by decide +kernel
theorem d_M_part_27 : decode (z_c m_M_part) 27 = .ok (.aload_n 0, 1) := by decide +kernel
theorem d_M_part_28 : decode (z_c m_M_part) 28 = .ok (.getfield 237, 3) := by decide +kernel
theorem d_M_part_31 : decode (z_c m_M_part) 31 = .ok (.if_icmp .ge 27, 3) := by decide +kernel
theorem d_M_part_34 : decode (z_c m_M_part) 34 = .ok (.iload_n 2, 1) := by decide +kernel
theorem d_M_part_35 : decode (z_c m_M_part) 35 = .ok (.aload_n 0, 1) := by decide +kernel
theorem d_M_part_36 : decode (z_c m_M_part) 36 = .ok (.getfield 47, 3) := by decide +kernel
theorem d_M_part_39 : decode (z_c m_M_part) 39 = .ok (.iload_n 3, 1) := by decide +kernel
theorem d_M_part_40 : decode (z_c m_M_part) 40 = .ok (.iaload, 1) := by decide +kernel
theorem d_M_part_41 : decode (z_c m_M_part) 41 = .ok (.iload_n 1, 1) := by decide +kernel
theorem d_M_part_42 : decode (z_c m_M_part) 42 = .ok (.if_icmp .gt 7, 3) := by decide +kernel
theorem d_M_part_45 : decode (z_c m_M_part) 45 = .ok (.iconst 1, 1) := by decide +kernel
theorem d_M_part_46 : decode (z_c m_M_part) 46 = .ok (.goto 4, 3) := by decide +kernel
theorem d_M_part_49 : decode (z_c m_M_part) 49 = .ok (.iconst 0, 1) := by decide +kernel
theorem d_M_part_50 : decode (z_c m_M_part) 50 = .ok (.iadd, 1) := by decide +kernel
theorem d_M_part_51 : decode (z_c m_M_part) 51 = .ok (.istore_n 2, 1) := by decide +kernel
theorem d_M_part_52 : decode (z_c m_M_part) 52 = .ok (.iinc 3 1, 3) := by decide +kernel
theorem d_M_part_55 : decode (z_c m_M_part) 55 = .ok (.goto (-29), 3) := by decide +kernel
theorem d_M_part_58 : decode (z_c m_M_part) 58 = .ok (.aload_n 0, 1) := by decide +kernel
theorem d_M_part_59 : decode (z_c m_M_part) 59 = .ok (.iload_n 2, 1) := by decide +kernel
theorem d_M_part_60 : decode (z_c m_M_part) 60 = .ok (.i2l, 1) := by decide +kernel
theorem d_M_part_61 : decode (z_c m_M_part) 61 = .ok (.aload_n 0, 1) := by decide +kernel
theorem d_M_part_62 : decode (z_c m_M_part) 62 = .ok (.getfield 237, 3) := by decide +kernel
theorem d_M_part_65 : decode (z_c m_M_part) 65 = .ok (.i2l, 1) := by decide +kernel
theorem d_M_part_66 : decode (z_c m_M_part) 66 = .ok (.invokevirtual 253, 3) := by decide +kernel
theorem d_M_part_69 : decode (z_c m_M_part) 69 = .ok (.ireturn, 1) := by decide +kernel
abbrev L_M_part_26 (X : z_X) (N : Nat) (σ : z_G) (x1 x2 x3 : Int) (g : z_G) (Q : z_P) : Prop := z_U X 4 m_M_part 26 [(0, (2, 0)), (1, (0, x1)), (2, (0, x2)), (3, (0, x3))] [] N σ g Q
set_option maxRecDepth 8000 in
theorem b_M_part_0 {X : z_X} {N : Nat} {σ g : z_G} {Q : z_P} {a1 : Int} (hx : z_lay X N σ 0 z_SM z_RM) (h : ((a1 < 1) → Q 0 (z_up g 0 1 1)) ∧ (¬ (a1 < 1) → (((200 < a1) → Q 0 (z_up g 0 1 1)) ∧ (¬ (200 < a1) → (z_O X 2 m_M_lays [(2, 0), (0, g 1 1)] N σ g (fun r0 g0 => L_M_part_26 X N σ a1 0 0 g0 Q)))))) : z_O X 4 m_M_part [(2, 0), (0, a1)] N σ g Q := by
  refine z_Oenter mi_M_part rfl (fun _ => ?_)
  show z_U X 4 m_M_part 0 [(0, (2, 0)), (1, (0, a1))] [] N σ g Q
  refine z_iload_n (i := 1) 1 d_M_part_0 rfl rfl ?_
  refine z_i2l d_M_part_1 ?_
  refine z_lconst (v := 1) d_M_part_2 (by decide) (by decide) ?_
  refine z_ldc2 (v := 200) d_M_part_3 kc_M_263 (by decide) ?_
  refine z_cS (as := [(1, a1), (1, 1), (1, 200)]) (d' := 1) (st := []) d_M_part_6 mi_M_isFrom ml_M_265 ms_M_isFrom rfl rfl rfl rfl rfl (b_M_isFrom_0  ?_)
  refine ⟨fun c1 => ?_, fun c1 => ?_⟩
  · have h := h.1 c1
    intro _
    show z_U X 4 m_M_part 9 [(0, (2, 0)), (1, (0, a1))] [(0, 0)] N σ g Q
    refine z_if_ne (tgt := 18) d_M_part_9 (by decide) (fun c => absurd (by decide) c) (fun _ => ?_)
    refine z_aload_n (i := 0) (c := 0) 0 d_M_part_12 rfl rfl rfl ?_
    refine z_iconst (n := 1) d_M_part_13 (by decide) ?_
    refine z_cV (c := 0) (as := [(0, 1)]) (d' := 1) (st := []) d_M_part_14 mi_M_is ml_M_94 mv_M_is se_M_is rfl rfl rfl rfl (ks_M_0 hx) rfl rfl (kl_M_0 hx) rfl rfl (b_M_is_0 hx ?_)
    refine ⟨fun c => absurd c (by decide), fun _ => ?_⟩
    intro _
    show z_U X 4 m_M_part 17 [(0, (2, 0)), (1, (0, a1))] [(0, 0)] N σ (z_up g 0 1 1) Q
    exact z_zret d_M_part_17 rfl (by decide) (by decide) (by decide) ⟨rfl, rfl, h⟩
  · have h := h.2 c1
    refine ⟨fun c2 => ?_, fun c2 => ?_⟩
    · have h := h.1 c2
      intro _
      show z_U X 4 m_M_part 9 [(0, (2, 0)), (1, (0, a1))] [(0, 0)] N σ g Q
      refine z_if_ne (tgt := 18) d_M_part_9 (by decide) (fun c => absurd (by decide) c) (fun _ => ?_)
      refine z_aload_n (i := 0) (c := 0) 0 d_M_part_12 rfl rfl rfl ?_
      refine z_iconst (n := 1) d_M_part_13 (by decide) ?_
      refine z_cV (c := 0) (as := [(0, 1)]) (d' := 1) (st := []) d_M_part_14 mi_M_is ml_M_94 mv_M_is se_M_is rfl rfl rfl rfl (ks_M_0 hx) rfl rfl (kl_M_0 hx) rfl rfl (b_M_is_0 hx ?_)
      refine ⟨fun c => absurd c (by decide), fun _ => ?_⟩
      intro _
      show z_U X 4 m_M_part 17 [(0, (2, 0)), (1, (0, a1))] [(0, 0)] N σ (z_up g 0 1 1) Q
      exact z_zret d_M_part_17 rfl (by decide) (by decide) (by decide) ⟨rfl, rfl, h⟩
    · have h := h.2 c2
      intro _
      show z_U X 4 m_M_part 9 [(0, (2, 0)), (1, (0, a1))] [(0, 1)] N σ g Q
      refine z_if_ne (tgt := 18) d_M_part_9 (by decide) (fun _ => ?_) (fun c => absurd c (by decide))
      refine z_aload_n (i := 0) (c := 0) 0 d_M_part_18 rfl rfl rfl ?_
      refine z_cV (c := 0) (as := []) (d' := 3) (st := []) d_M_part_19 mi_M_laysRow ml_M_250 mv_M_laysRow se_M_laysRow rfl rfl rfl rfl (ks_M_0 hx) rfl rfl (kl_M_0 hx) rfl rfl (b_M_laysRow_0 hx ?_)
      refine z_Omono h (fun r0 g0 _ h => ?_)
      intro _
      show z_U X 4 m_M_part 22 [(0, (2, 0)), (1, (0, a1))] [] N σ g0 Q
      refine z_iconst (n := 0) d_M_part_22 (by decide) ?_
      refine z_istore_n (i := 2) (ls' := [(2, (0, 0)), (0, (2, 0)), (1, (0, a1))]) d_M_part_23 rfl rfl rfl ?_
      refine z_iconst (n := 0) d_M_part_24 (by decide) ?_
      refine z_istore_n (i := 3) (ls' := [(3, (0, 0)), (2, (0, 0)), (0, (2, 0)), (1, (0, a1))]) d_M_part_25 rfl rfl rfl ?_
      refine z_sub (ls' := [(0, (2, 0)), (1, (0, a1)), (2, (0, 0)), (3, (0, 0))]) [2, 3, 1, 0] rfl ?_
      exact h
set_option maxRecDepth 8000 in
theorem b_M_part_26 {X : z_X} {N : Nat} {σ g : z_G} {Q : z_P} {x1 x2 x3 : Int} (hx : z_lay X N σ 0 z_SM z_RM) (h : (((g 0 24) ≤ x3) → (z_O X 2 m_M_tellsBy [(2, 0), (1, x2), (1, g 0 24)] N σ g (fun r0 g0 => (r0 = 0 ∨ r0 = 1) → Q r0 g0))) ∧ (¬ ((g 0 24) ≤ x3) → ((0 ≤ x3 ∧ x3 < 12233) ∧ (((x1 < (g 9 x3)) → ((-2147483648 ≤ (x2 + 0) ∧ (x2 + 0) ≤ 2147483647) ∧ ((-2147483648 ≤ (x3 + 1) ∧ (x3 + 1) ≤ 2147483647) ∧ L_M_part_26 X N σ x1 (x2 + 0) (x3 + 1) g Q))) ∧ (¬ (x1 < (g 9 x3)) → ((-2147483648 ≤ (x2 + 1) ∧ (x2 + 1) ≤ 2147483647) ∧ ((-2147483648 ≤ (x3 + 1) ∧ (x3 + 1) ≤ 2147483647) ∧ L_M_part_26 X N σ x1 (x2 + 1) (x3 + 1) g Q))))))) : L_M_part_26 X N σ x1 x2 x3 g Q := by
  refine z_iload_n (i := 3) 3 d_M_part_26 rfl rfl ?_
  refine z_aload_n (i := 0) (c := 0) 0 d_M_part_27 rfl rfl rfl ?_
  refine z_geti (c := 0) (kI := 24) d_M_part_28 fd_M_many fl_M_237 (Or.inl rfl) rfl rfl (ks_M_0 hx) (kl_M_0 hx) ?_
  refine z_icmp_ge (tgt := 58) d_M_part_31 (by decide) (fun c1 => ?_) (fun c1 => ?_)
  · have h := h.1 c1
    refine z_aload_n (i := 0) (c := 0) 0 d_M_part_58 rfl rfl rfl ?_
    refine z_iload_n (i := 2) 2 d_M_part_59 rfl rfl ?_
    refine z_i2l d_M_part_60 ?_
    refine z_aload_n (i := 0) (c := 0) 0 d_M_part_61 rfl rfl rfl ?_
    refine z_geti (c := 0) (kI := 24) d_M_part_62 fd_M_many fl_M_237 (Or.inl rfl) rfl rfl (ks_M_0 hx) (kl_M_0 hx) ?_
    refine z_i2l d_M_part_65 ?_
    refine z_cV (c := 0) (as := [(1, x2), (1, g 0 24)]) (d' := 2) (st := []) d_M_part_66 mi_M_tellsBy ml_M_253 mv_M_tellsBy se_M_tellsBy rfl rfl rfl rfl (ks_M_0 hx) rfl rfl (kl_M_0 hx) rfl rfl (z_Omono h (fun r0 g0 _ h hro => ?_))
    have h := h (z_b01 hro)
    have hzr0 := z_b01 hro
    show z_U X 4 m_M_part 69 [(0, (2, 0)), (1, (0, x1)), (2, (0, x2)), (3, (0, x3))] [(0, r0)] N σ g0 Q
    exact z_zret d_M_part_69 rfl (by decide) (by decide) hzr0 ⟨rfl, rfl, h⟩
  · have h := h.2 c1
    refine z_iload_n (i := 2) 2 d_M_part_34 rfl rfl ?_
    refine z_aload_n (i := 0) (c := 0) 0 d_M_part_35 rfl rfl rfl ?_
    refine z_getr (c := 0) (kI := 23) (r2 := 9) d_M_part_36 fd_M_bottomBy fl_M_47 rfl rfl rfl (ks_M_0 hx) (kl_M_0 hx) (kr_M_0_23 hx) ?_
    refine z_iload_n (i := 3) 3 d_M_part_39 rfl rfl ?_
    obtain ⟨c2, h⟩ := h
    refine z_iald (c := 9) (m := 12233) d_M_part_40 rfl (ks_M_9 hx) (kl_M_9 hx) rfl (by decide) c2 ?_
    refine z_iload_n (i := 1) 1 d_M_part_41 rfl rfl ?_
    refine z_icmp_gt (tgt := 49) d_M_part_42 (by decide) (fun c3 => ?_) (fun c3 => ?_)
    · have h := h.1 c3
      refine z_iconst (n := 0) d_M_part_49 (by decide) ?_
      obtain ⟨c4, h⟩ := h
      refine z_iadd d_M_part_50 c4 ?_
      refine z_istore_n (i := 2) (ls' := [(2, (0, x2 + 0)), (0, (2, 0)), (1, (0, x1)), (3, (0, x3))]) d_M_part_51 rfl rfl rfl ?_
      obtain ⟨c5, h⟩ := h
      refine z_iinc (n := 1) (ls' := [(3, (0, x3 + 1)), (2, (0, x2 + 0)), (0, (2, 0)), (1, (0, x1))]) 3 d_M_part_52 rfl c5 rfl rfl ?_
      refine z_goto (tgt := 26) d_M_part_55 (by decide) ?_
      refine z_sub (ls' := [(0, (2, 0)), (1, (0, x1)), (2, (0, x2 + 0)), (3, (0, x3 + 1))]) [2, 3, 1, 0] rfl ?_
      exact h
    · have h := h.2 c3
      refine z_iconst (n := 1) d_M_part_45 (by decide) ?_
      refine z_goto (tgt := 50) d_M_part_46 (by decide) ?_
      obtain ⟨c6, h⟩ := h
      refine z_iadd d_M_part_50 c6 ?_
      refine z_istore_n (i := 2) (ls' := [(2, (0, x2 + 1)), (0, (2, 0)), (1, (0, x1)), (3, (0, x3))]) d_M_part_51 rfl rfl rfl ?_
      obtain ⟨c7, h⟩ := h
      refine z_iinc (n := 1) (ls' := [(3, (0, x3 + 1)), (2, (0, x2 + 1)), (0, (2, 0)), (1, (0, x1))]) 3 d_M_part_52 rfl c7 rfl rfl ?_
      refine z_goto (tgt := 26) d_M_part_55 (by decide) ?_
      refine z_sub (ls' := [(0, (2, 0)), (1, (0, x1)), (2, (0, x2 + 1)), (3, (0, x3 + 1))]) [2, 3, 1, 0] rfl ?_
      exact h
theorem d_M_pin_0 : decode (z_c m_M_pin) 0 = .ok (.iload_n 1, 1) := by decide +kernel
theorem d_M_pin_1 : decode (z_c m_M_pin) 1 = .ok (.iload_n 2, 1) := by decide +kernel
theorem d_M_pin_2 : decode (z_c m_M_pin) 2 = .ok (.invokestatic 272, 3) := by decide +kernel
theorem d_M_pin_5 : decode (z_c m_M_pin) 5 = .ok (.ifCond .eq 15, 3) := by decide +kernel
theorem d_M_pin_8 : decode (z_c m_M_pin) 8 = .ok (.iload_n 3, 1) := by decide +kernel
theorem d_M_pin_9 : decode (z_c m_M_pin) 9 = .ok (.i2l, 1) := by decide +kernel
theorem d_M_pin_10 : decode (z_c m_M_pin) 10 = .ok (.lconst 1, 1) := by decide +kernel
theorem d_M_pin_11 : decode (z_c m_M_pin) 11 = .ok (.ldc2_w 355, 3) := by decide +kernel
theorem d_M_pin_14 : decode (z_c m_M_pin) 14 = .ok (.invokestatic 265, 3) := by decide +kernel
theorem d_M_pin_17 : decode (z_c m_M_pin) 17 = .ok (.ifCond .ne 9, 3) := by decide +kernel
theorem d_M_pin_20 : decode (z_c m_M_pin) 20 = .ok (.aload_n 0, 1) := by decide +kernel
theorem d_M_pin_21 : decode (z_c m_M_pin) 21 = .ok (.iconst 1, 1) := by decide +kernel
theorem d_M_pin_22 : decode (z_c m_M_pin) 22 = .ok (.invokevirtual 87, 3) := by decide +kernel
theorem d_M_pin_25 : decode (z_c m_M_pin) 25 = .ok (.ireturn, 1) := by decide +kernel
theorem d_M_pin_26 : decode (z_c m_M_pin) 26 = .ok (.aload_n 0, 1) := by decide +kernel
theorem d_M_pin_27 : decode (z_c m_M_pin) 27 = .ok (.iload_n 1, 1) := by decide +kernel
theorem d_M_pin_28 : decode (z_c m_M_pin) 28 = .ok (.iload_n 2, 1) := by decide +kernel
theorem d_M_pin_29 : decode (z_c m_M_pin) 29 = .ok (.iload_n 3, 1) := by decide +kernel
theorem d_M_pin_30 : decode (z_c m_M_pin) 30 = .ok (.invokevirtual 357, 3) := by decide +kernel
theorem d_M_pin_33 : decode (z_c m_M_pin) 33 = .ok (.istore 4, 2) := by decide +kernel
theorem d_M_pin_35 : decode (z_c m_M_pin) 35 = .ok (.iload 4, 2) := by decide +kernel
theorem d_M_pin_37 : decode (z_c m_M_pin) 37 = .ok (.ifCond .le 12, 3) := by decide +kernel
theorem d_M_pin_40 : decode (z_c m_M_pin) 40 = .ok (.aload_n 0, 1) := by decide +kernel
theorem d_M_pin_41 : decode (z_c m_M_pin) 41 = .ok (.iload 4, 2) := by decide +kernel
theorem d_M_pin_43 : decode (z_c m_M_pin) 43 = .ok (.invokevirtual 87, 3) := by decide +kernel
theorem d_M_pin_46 : decode (z_c m_M_pin) 46 = .ok (.goto 11, 3) := by decide +kernel
theorem d_M_pin_49 : decode (z_c m_M_pin) 49 = .ok (.aload_n 0, 1) := by decide +kernel
theorem d_M_pin_50 : decode (z_c m_M_pin) 50 = .ok (.aload_n 0, 1) := by decide +kernel
theorem d_M_pin_51 : decode (z_c m_M_pin) 51 = .ok (.getfield 300, 3) := by decide +kernel
theorem d_M_pin_54 : decode (z_c m_M_pin) 54 = .ok (.invokevirtual 91, 3) := by decide +kernel
theorem d_M_pin_57 : decode (z_c m_M_pin) 57 = .ok (.ireturn, 1) := by decide +kernel
set_option maxRecDepth 8000 in
theorem b_M_pin_0 {X : z_X} {N : Nat} {σ g : z_G} {Q : z_P} {a1 a2 a3 : Int} (hx : z_lay X N σ 0 z_SM z_RM) (h : ((a2 < 1) → Q (-1) (z_up g 0 1 1)) ∧ (¬ (a2 < 1) → (((9999 < a2) → Q (-1) (z_up g 0 1 1)) ∧ (¬ (9999 < a2) → (((a1 < 0) → Q (-1) (z_up g 0 1 1)) ∧ (¬ (a1 < 0) → (((a2 < a1) → Q (-1) (z_up g 0 1 1)) ∧ (¬ (a2 < a1) → (((a3 < 1) → Q (-1) (z_up g 0 1 1)) ∧ (¬ (a3 < 1) → (((99 < a3) → Q (-1) (z_up g 0 1 1)) ∧ (¬ (99 < a3) → (z_O X 3 m_M_pins [(2, 0), (0, a1), (0, a2), (0, a3)] N σ g (fun r0 g0 => (((r0 ≤ 0) → Q (g0 0 28) (z_up g0 0 1 0)) ∧ (¬ (r0 ≤ 0) → Q (-1) (z_up g0 0 1 r0))))))))))))))))) : z_O X 4 m_M_pin [(2, 0), (0, a1), (0, a2), (0, a3)] N σ g Q := by
  refine z_Oenter mi_M_pin rfl (fun _ => ?_)
  show z_U X 4 m_M_pin 0 [(0, (2, 0)), (1, (0, a1)), (2, (0, a2)), (3, (0, a3))] [] N σ g Q
  refine z_iload_n (i := 1) 1 d_M_pin_0 rfl rfl ?_
  refine z_iload_n (i := 2) 2 d_M_pin_1 rfl rfl ?_
  refine z_cS (as := [(0, a1), (0, a2)]) (d' := 1) (st := []) d_M_pin_2 mi_M_isValue ml_M_272 ms_M_isValue rfl rfl rfl rfl rfl (b_M_isValue_0  ?_)
  refine ⟨fun c1 => ?_, fun c1 => ?_⟩
  · have h := h.1 c1
    intro _
    show z_U X 4 m_M_pin 5 [(0, (2, 0)), (1, (0, a1)), (2, (0, a2)), (3, (0, a3))] [(0, 0)] N σ g Q
    refine z_if_eq (tgt := 20) d_M_pin_5 (by decide) (fun _ => ?_) (fun c => absurd (by decide) c)
    refine z_aload_n (i := 0) (c := 0) 0 d_M_pin_20 rfl rfl rfl ?_
    refine z_iconst (n := 1) d_M_pin_21 (by decide) ?_
    refine z_cV (c := 0) (as := [(0, 1)]) (d' := 1) (st := []) d_M_pin_22 mi_M_refuse ml_M_87 mv_M_refuse se_M_refuse rfl rfl rfl rfl (ks_M_0 hx) rfl rfl (kl_M_0 hx) rfl rfl (b_M_refuse_0 hx ?_)
    intro _
    show z_U X 4 m_M_pin 25 [(0, (2, 0)), (1, (0, a1)), (2, (0, a2)), (3, (0, a3))] [(0, (-1))] N σ (z_up g 0 1 1) Q
    exact z_iret d_M_pin_25 rfl (by decide) (by decide) ⟨rfl, rfl, h⟩
  · have h := h.2 c1
    refine ⟨fun c2 => ?_, fun c2 => ?_⟩
    · have h := h.1 c2
      intro _
      show z_U X 4 m_M_pin 5 [(0, (2, 0)), (1, (0, a1)), (2, (0, a2)), (3, (0, a3))] [(0, 0)] N σ g Q
      refine z_if_eq (tgt := 20) d_M_pin_5 (by decide) (fun _ => ?_) (fun c => absurd (by decide) c)
      refine z_aload_n (i := 0) (c := 0) 0 d_M_pin_20 rfl rfl rfl ?_
      refine z_iconst (n := 1) d_M_pin_21 (by decide) ?_
      refine z_cV (c := 0) (as := [(0, 1)]) (d' := 1) (st := []) d_M_pin_22 mi_M_refuse ml_M_87 mv_M_refuse se_M_refuse rfl rfl rfl rfl (ks_M_0 hx) rfl rfl (kl_M_0 hx) rfl rfl (b_M_refuse_0 hx ?_)
      intro _
      show z_U X 4 m_M_pin 25 [(0, (2, 0)), (1, (0, a1)), (2, (0, a2)), (3, (0, a3))] [(0, (-1))] N σ (z_up g 0 1 1) Q
      exact z_iret d_M_pin_25 rfl (by decide) (by decide) ⟨rfl, rfl, h⟩
    · have h := h.2 c2
      refine ⟨fun c3 => ?_, fun c3 => ?_⟩
      · have h := h.1 c3
        intro _
        show z_U X 4 m_M_pin 5 [(0, (2, 0)), (1, (0, a1)), (2, (0, a2)), (3, (0, a3))] [(0, 0)] N σ g Q
        refine z_if_eq (tgt := 20) d_M_pin_5 (by decide) (fun _ => ?_) (fun c => absurd (by decide) c)
        refine z_aload_n (i := 0) (c := 0) 0 d_M_pin_20 rfl rfl rfl ?_
        refine z_iconst (n := 1) d_M_pin_21 (by decide) ?_
        refine z_cV (c := 0) (as := [(0, 1)]) (d' := 1) (st := []) d_M_pin_22 mi_M_refuse ml_M_87 mv_M_refuse se_M_refuse rfl rfl rfl rfl (ks_M_0 hx) rfl rfl (kl_M_0 hx) rfl rfl (b_M_refuse_0 hx ?_)
        intro _
        show z_U X 4 m_M_pin 25 [(0, (2, 0)), (1, (0, a1)), (2, (0, a2)), (3, (0, a3))] [(0, (-1))] N σ (z_up g 0 1 1) Q
        exact z_iret d_M_pin_25 rfl (by decide) (by decide) ⟨rfl, rfl, h⟩
      · have h := h.2 c3
        refine ⟨fun c4 => ?_, fun c4 => ?_⟩
        · have h := h.1 c4
          intro _
          show z_U X 4 m_M_pin 5 [(0, (2, 0)), (1, (0, a1)), (2, (0, a2)), (3, (0, a3))] [(0, 0)] N σ g Q
          refine z_if_eq (tgt := 20) d_M_pin_5 (by decide) (fun _ => ?_) (fun c => absurd (by decide) c)
          refine z_aload_n (i := 0) (c := 0) 0 d_M_pin_20 rfl rfl rfl ?_
          refine z_iconst (n := 1) d_M_pin_21 (by decide) ?_
          refine z_cV (c := 0) (as := [(0, 1)]) (d' := 1) (st := []) d_M_pin_22 mi_M_refuse ml_M_87 mv_M_refuse se_M_refuse rfl rfl rfl rfl (ks_M_0 hx) rfl rfl (kl_M_0 hx) rfl rfl (b_M_refuse_0 hx ?_)
          intro _
          show z_U X 4 m_M_pin 25 [(0, (2, 0)), (1, (0, a1)), (2, (0, a2)), (3, (0, a3))] [(0, (-1))] N σ (z_up g 0 1 1) Q
          exact z_iret d_M_pin_25 rfl (by decide) (by decide) ⟨rfl, rfl, h⟩
        · have h := h.2 c4
          intro _
          show z_U X 4 m_M_pin 5 [(0, (2, 0)), (1, (0, a1)), (2, (0, a2)), (3, (0, a3))] [(0, 1)] N σ g Q
          refine z_if_eq (tgt := 20) d_M_pin_5 (by decide) (fun c => absurd c (by decide)) (fun _ => ?_)
          refine z_iload_n (i := 3) 3 d_M_pin_8 rfl rfl ?_
          refine z_i2l d_M_pin_9 ?_
          refine z_lconst (v := 1) d_M_pin_10 (by decide) (by decide) ?_
          refine z_ldc2 (v := 99) d_M_pin_11 kc_M_355 (by decide) ?_
          refine z_cS (as := [(1, a3), (1, 1), (1, 99)]) (d' := 1) (st := []) d_M_pin_14 mi_M_isFrom ml_M_265 ms_M_isFrom rfl rfl rfl rfl rfl (b_M_isFrom_0  ?_)
          refine ⟨fun c5 => ?_, fun c5 => ?_⟩
          · have h := h.1 c5
            intro _
            show z_U X 4 m_M_pin 17 [(0, (2, 0)), (1, (0, a1)), (2, (0, a2)), (3, (0, a3))] [(0, 0)] N σ g Q
            refine z_if_ne (tgt := 26) d_M_pin_17 (by decide) (fun c => absurd (by decide) c) (fun _ => ?_)
            refine z_aload_n (i := 0) (c := 0) 0 d_M_pin_20 rfl rfl rfl ?_
            refine z_iconst (n := 1) d_M_pin_21 (by decide) ?_
            refine z_cV (c := 0) (as := [(0, 1)]) (d' := 1) (st := []) d_M_pin_22 mi_M_refuse ml_M_87 mv_M_refuse se_M_refuse rfl rfl rfl rfl (ks_M_0 hx) rfl rfl (kl_M_0 hx) rfl rfl (b_M_refuse_0 hx ?_)
            intro _
            show z_U X 4 m_M_pin 25 [(0, (2, 0)), (1, (0, a1)), (2, (0, a2)), (3, (0, a3))] [(0, (-1))] N σ (z_up g 0 1 1) Q
            exact z_iret d_M_pin_25 rfl (by decide) (by decide) ⟨rfl, rfl, h⟩
          · have h := h.2 c5
            refine ⟨fun c6 => ?_, fun c6 => ?_⟩
            · have h := h.1 c6
              intro _
              show z_U X 4 m_M_pin 17 [(0, (2, 0)), (1, (0, a1)), (2, (0, a2)), (3, (0, a3))] [(0, 0)] N σ g Q
              refine z_if_ne (tgt := 26) d_M_pin_17 (by decide) (fun c => absurd (by decide) c) (fun _ => ?_)
              refine z_aload_n (i := 0) (c := 0) 0 d_M_pin_20 rfl rfl rfl ?_
              refine z_iconst (n := 1) d_M_pin_21 (by decide) ?_
              refine z_cV (c := 0) (as := [(0, 1)]) (d' := 1) (st := []) d_M_pin_22 mi_M_refuse ml_M_87 mv_M_refuse se_M_refuse rfl rfl rfl rfl (ks_M_0 hx) rfl rfl (kl_M_0 hx) rfl rfl (b_M_refuse_0 hx ?_)
              intro _
              show z_U X 4 m_M_pin 25 [(0, (2, 0)), (1, (0, a1)), (2, (0, a2)), (3, (0, a3))] [(0, (-1))] N σ (z_up g 0 1 1) Q
              exact z_iret d_M_pin_25 rfl (by decide) (by decide) ⟨rfl, rfl, h⟩
            · have h := h.2 c6
              intro _
              show z_U X 4 m_M_pin 17 [(0, (2, 0)), (1, (0, a1)), (2, (0, a2)), (3, (0, a3))] [(0, 1)] N σ g Q
              refine z_if_ne (tgt := 26) d_M_pin_17 (by decide) (fun _ => ?_) (fun c => absurd c (by decide))
              refine z_aload_n (i := 0) (c := 0) 0 d_M_pin_26 rfl rfl rfl ?_
              refine z_iload_n (i := 1) 1 d_M_pin_27 rfl rfl ?_
              refine z_iload_n (i := 2) 2 d_M_pin_28 rfl rfl ?_
              refine z_iload_n (i := 3) 3 d_M_pin_29 rfl rfl ?_
              refine z_cV (c := 0) (as := [(0, a1), (0, a2), (0, a3)]) (d' := 3) (st := []) d_M_pin_30 mi_M_pins ml_M_357 mv_M_pins se_M_pins rfl rfl rfl rfl (ks_M_0 hx) rfl rfl (kl_M_0 hx) rfl rfl (z_Omono h (fun r0 g0 _ h hro => ?_))
              show z_U X 4 m_M_pin 33 [(0, (2, 0)), (1, (0, a1)), (2, (0, a2)), (3, (0, a3))] [(0, r0)] N σ g0 Q
              refine z_istore (ls' := [(4, (0, r0)), (0, (2, 0)), (1, (0, a1)), (2, (0, a2)), (3, (0, a3))]) d_M_pin_33 rfl rfl ?_
              refine z_iload 0 d_M_pin_35 rfl ?_
              refine z_if_le (tgt := 49) d_M_pin_37 (by decide) (fun c7 => ?_) (fun c7 => ?_)
              · have h := h.1 c7
                refine z_aload_n (i := 0) (c := 0) 1 d_M_pin_49 rfl rfl rfl ?_
                refine z_aload_n (i := 0) (c := 0) 1 d_M_pin_50 rfl rfl rfl ?_
                refine z_geti (c := 0) (kI := 28) d_M_pin_51 fd_M_foundTop fl_M_300 (Or.inl rfl) rfl rfl (ks_M_0 hx) (kl_M_0 hx) ?_
                refine z_cV (c := 0) (as := [(0, g0 0 28)]) (d' := 1) (st := []) d_M_pin_54 mi_M_gives ml_M_91 mv_M_gives se_M_gives rfl rfl rfl rfl (ks_M_0 hx) rfl rfl (kl_M_0 hx) rfl rfl (b_M_gives_0 hx ?_)
                intro _
                show z_U X 4 m_M_pin 57 [(4, (0, r0)), (0, (2, 0)), (1, (0, a1)), (2, (0, a2)), (3, (0, a3))] [(0, g0 0 28)] N σ (z_up g0 0 1 0) Q
                exact z_iret d_M_pin_57 rfl (by decide) (by decide) ⟨rfl, rfl, h⟩
              · have h := h.2 c7
                refine z_aload_n (i := 0) (c := 0) 1 d_M_pin_40 rfl rfl rfl ?_
                refine z_iload 0 d_M_pin_41 rfl ?_
                refine z_cV (c := 0) (as := [(0, r0)]) (d' := 1) (st := []) d_M_pin_43 mi_M_refuse ml_M_87 mv_M_refuse se_M_refuse rfl rfl rfl rfl (ks_M_0 hx) rfl rfl (kl_M_0 hx) rfl rfl (b_M_refuse_0 hx ?_)
                intro _
                show z_U X 4 m_M_pin 46 [(4, (0, r0)), (0, (2, 0)), (1, (0, a1)), (2, (0, a2)), (3, (0, a3))] [(0, (-1))] N σ (z_up g0 0 1 r0) Q
                refine z_goto (tgt := 57) d_M_pin_46 (by decide) ?_
                exact z_iret d_M_pin_57 rfl (by decide) (by decide) ⟨rfl, rfl, h⟩
theorem d_M_pinAt_0 : decode (z_c m_M_pinAt) 0 = .ok (.iload_n 1, 1) := by decide +kernel
theorem d_M_pinAt_1 : decode (z_c m_M_pinAt) 1 = .ok (.ifCond .ge 11, 3) := by decide +kernel
theorem d_M_pinAt_4 : decode (z_c m_M_pinAt) 4 = .ok (.aload_n 0, 1) := by decide +kernel
theorem d_M_pinAt_5 : decode (z_c m_M_pinAt) 5 = .ok (.iconst 1, 1) := by decide +kernel
theorem d_M_pinAt_6 : decode (z_c m_M_pinAt) 6 = .ok (.invokevirtual 94, 3) := by decide +kernel
theorem d_M_pinAt_9 : decode (z_c m_M_pinAt) 9 = .ok (.goto 22, 3) := by decide +kernel
theorem d_M_pinAt_12 : decode (z_c m_M_pinAt) 12 = .ok (.aload_n 0, 1) := by decide +kernel
theorem d_M_pinAt_13 : decode (z_c m_M_pinAt) 13 = .ok (.iload_n 1, 1) := by decide +kernel
theorem d_M_pinAt_14 : decode (z_c m_M_pinAt) 14 = .ok (.aload_n 0, 1) := by decide +kernel
theorem d_M_pinAt_15 : decode (z_c m_M_pinAt) 15 = .ok (.getfield 7, 3) := by decide +kernel
theorem d_M_pinAt_18 : decode (z_c m_M_pinAt) 18 = .ok (.iconst 4, 1) := by decide +kernel
theorem d_M_pinAt_19 : decode (z_c m_M_pinAt) 19 = .ok (.iaload, 1) := by decide +kernel
theorem d_M_pinAt_20 : decode (z_c m_M_pinAt) 20 = .ok (.if_icmp .ge 7, 3) := by decide +kernel
theorem d_M_pinAt_23 : decode (z_c m_M_pinAt) 23 = .ok (.iload_n 1, 1) := by decide +kernel
theorem d_M_pinAt_24 : decode (z_c m_M_pinAt) 24 = .ok (.goto 4, 3) := by decide +kernel
theorem d_M_pinAt_27 : decode (z_c m_M_pinAt) 27 = .ok (.iconst (-1), 1) := by decide +kernel
theorem d_M_pinAt_28 : decode (z_c m_M_pinAt) 28 = .ok (.invokevirtual 372, 3) := by decide +kernel
theorem d_M_pinAt_31 : decode (z_c m_M_pinAt) 31 = .ok (.ireturn, 1) := by decide +kernel
set_option maxRecDepth 8000 in
theorem b_M_pinAt_0 {X : z_X} {N : Nat} {σ g : z_G} {Q : z_P} {a1 : Int} (hx : z_lay X N σ 0 z_SM z_RM) (h : ((0 ≤ a1) → ((((g 1 4) ≤ a1) → (z_O X 3 m_M_tellsPin [(2, 0), (0, (-1))] N σ g (fun r0 g0 => (r0 = 0 ∨ r0 = 1) → Q r0 g0))) ∧ (¬ ((g 1 4) ≤ a1) → (z_O X 3 m_M_tellsPin [(2, 0), (0, a1)] N σ g (fun r1 g1 => (r1 = 0 ∨ r1 = 1) → Q r1 g1))))) ∧ (¬ (0 ≤ a1) → Q 0 (z_up g 0 1 1))) : z_O X 4 m_M_pinAt [(2, 0), (0, a1)] N σ g Q := by
  refine z_Oenter mi_M_pinAt rfl (fun _ => ?_)
  show z_U X 4 m_M_pinAt 0 [(0, (2, 0)), (1, (0, a1))] [] N σ g Q
  refine z_iload_n (i := 1) 1 d_M_pinAt_0 rfl rfl ?_
  refine z_if_ge (tgt := 12) d_M_pinAt_1 (by decide) (fun c1 => ?_) (fun c1 => ?_)
  · have h := h.1 c1
    refine z_aload_n (i := 0) (c := 0) 0 d_M_pinAt_12 rfl rfl rfl ?_
    refine z_iload_n (i := 1) 1 d_M_pinAt_13 rfl rfl ?_
    refine z_aload_n (i := 0) (c := 0) 0 d_M_pinAt_14 rfl rfl rfl ?_
    refine z_getr (c := 0) (kI := 0) (r2 := 1) d_M_pinAt_15 fd_M_at fl_M_7 rfl rfl rfl (ks_M_0 hx) (kl_M_0 hx) (kr_M_0_0 hx) ?_
    refine z_iconst (n := 4) d_M_pinAt_18 (by decide) ?_
    refine z_iald (c := 1) (m := 3296) d_M_pinAt_19 rfl (ks_M_1 hx) (kl_M_1 hx) rfl (by decide) (by decide) ?_
    refine z_icmp_ge (tgt := 27) d_M_pinAt_20 (by decide) (fun c2 => ?_) (fun c2 => ?_)
    · have h := h.1 c2
      refine z_iconst (n := (-1)) d_M_pinAt_27 (by decide) ?_
      refine z_cV (c := 0) (as := [(0, (-1))]) (d' := 3) (st := []) d_M_pinAt_28 mi_M_tellsPin ml_M_372 mv_M_tellsPin se_M_tellsPin rfl rfl rfl rfl (ks_M_0 hx) rfl rfl (kl_M_0 hx) rfl rfl (z_Omono h (fun r0 g0 _ h hro => ?_))
      have h := h (z_b01 hro)
      have hzr0 := z_b01 hro
      show z_U X 4 m_M_pinAt 31 [(0, (2, 0)), (1, (0, a1))] [(0, r0)] N σ g0 Q
      exact z_zret d_M_pinAt_31 rfl (by decide) (by decide) hzr0 ⟨rfl, rfl, h⟩
    · have h := h.2 c2
      refine z_iload_n (i := 1) 1 d_M_pinAt_23 rfl rfl ?_
      refine z_goto (tgt := 28) d_M_pinAt_24 (by decide) ?_
      refine z_cV (c := 0) (as := [(0, a1)]) (d' := 3) (st := []) d_M_pinAt_28 mi_M_tellsPin ml_M_372 mv_M_tellsPin se_M_tellsPin rfl rfl rfl rfl (ks_M_0 hx) rfl rfl (kl_M_0 hx) rfl rfl (z_Omono h (fun r1 g1 _ h hro => ?_))
      have h := h (z_b01 hro)
      have hzr1 := z_b01 hro
      show z_U X 4 m_M_pinAt 31 [(0, (2, 0)), (1, (0, a1))] [(0, r1)] N σ g1 Q
      exact z_zret d_M_pinAt_31 rfl (by decide) (by decide) hzr1 ⟨rfl, rfl, h⟩
  · have h := h.2 c1
    refine z_aload_n (i := 0) (c := 0) 0 d_M_pinAt_4 rfl rfl rfl ?_
    refine z_iconst (n := 1) d_M_pinAt_5 (by decide) ?_
    refine z_cV (c := 0) (as := [(0, 1)]) (d' := 1) (st := []) d_M_pinAt_6 mi_M_is ml_M_94 mv_M_is se_M_is rfl rfl rfl rfl (ks_M_0 hx) rfl rfl (kl_M_0 hx) rfl rfl (b_M_is_0 hx ?_)
    refine ⟨fun c => absurd c (by decide), fun _ => ?_⟩
    intro _
    show z_U X 4 m_M_pinAt 9 [(0, (2, 0)), (1, (0, a1))] [(0, 0)] N σ (z_up g 0 1 1) Q
    refine z_goto (tgt := 31) d_M_pinAt_9 (by decide) ?_
    exact z_zret d_M_pinAt_31 rfl (by decide) (by decide) (by decide) ⟨rfl, rfl, h⟩
theorem d_M_rising_0 : decode (z_c m_M_rising) 0 = .ok (.iconst 0, 1) := by decide +kernel
theorem d_M_rising_1 : decode (z_c m_M_rising) 1 = .ok (.istore_n 2, 1) := by decide +kernel
theorem d_M_rising_2 : decode (z_c m_M_rising) 2 = .ok (.iload_n 2, 1) := by decide +kernel
theorem d_M_rising_3 : decode (z_c m_M_rising) 3 = .ok (.aload_n 0, 1) := by decide +kernel
theorem d_M_rising_4 : decode (z_c m_M_rising) 4 = .ok (.getfield 7, 3) := by decide +kernel
theorem d_M_rising_7 : decode (z_c m_M_rising) 7 = .ok (.iconst 4, 1) := by decide +kernel
theorem d_M_rising_8 : decode (z_c m_M_rising) 8 = .ok (.iaload, 1) := by decide +kernel
theorem d_M_rising_9 : decode (z_c m_M_rising) 9 = .ok (.if_icmp .ge 56, 3) := by decide +kernel
theorem d_M_rising_12 : decode (z_c m_M_rising) 12 = .ok (.iconst 0, 1) := by decide +kernel
theorem d_M_rising_13 : decode (z_c m_M_rising) 13 = .ok (.istore_n 3, 1) := by decide +kernel
theorem d_M_rising_14 : decode (z_c m_M_rising) 14 = .ok (.iconst 0, 1) := by decide +kernel
theorem d_M_rising_15 : decode (z_c m_M_rising) 15 = .ok (.istore 4, 2) := by decide +kernel
theorem d_M_rising_17 : decode (z_c m_M_rising) 17 = .ok (.iload 4, 2) := by decide +kernel
theorem d_M_rising_19 : decode (z_c m_M_rising) 19 = .ok (.aload_n 0, 1) := by decide +kernel
theorem d_M_rising_20 : decode (z_c m_M_rising) 20 = .ok (.getfield 7, 3) := by decide +kernel
theorem d_M_rising_23 : decode (z_c m_M_rising) 23 = .ok (.iconst 4, 1) := by decide +kernel
theorem d_M_rising_24 : decode (z_c m_M_rising) 24 = .ok (.iaload, 1) := by decide +kernel
theorem d_M_rising_25 : decode (z_c m_M_rising) 25 = .ok (.if_icmp .ge 27, 3) := by decide +kernel
theorem d_M_rising_28 : decode (z_c m_M_rising) 28 = .ok (.iload_n 3, 1) := by decide +kernel
theorem d_M_rising_29 : decode (z_c m_M_rising) 29 = .ok (.aload_n 0, 1) := by decide +kernel
theorem d_M_rising_30 : decode (z_c m_M_rising) 30 = .ok (.iload 4, 2) := by decide +kernel
theorem d_M_rising_32 : decode (z_c m_M_rising) 32 = .ok (.iload_n 2, 1) := by decide +kernel
theorem d_M_rising_33 : decode (z_c m_M_rising) 33 = .ok (.invokevirtual 375, 3) := by decide +kernel
theorem d_M_rising_36 : decode (z_c m_M_rising) 36 = .ok (.ifCond .eq 7, 3) := by decide +kernel
theorem d_M_rising_39 : decode (z_c m_M_rising) 39 = .ok (.iconst 1, 1) := by decide +kernel
theorem d_M_rising_40 : decode (z_c m_M_rising) 40 = .ok (.goto 4, 3) := by decide +kernel
theorem d_M_rising_43 : decode (z_c m_M_rising) 43 = .ok (.iconst 0, 1) := by decide +kernel
theorem d_M_rising_44 : decode (z_c m_M_rising) 44 = .ok (.iadd, 1) := by decide +kernel
theorem d_M_rising_45 : decode (z_c m_M_rising) 45 = .ok (.istore_n 3, 1) := by decide +kernel
theorem d_M_rising_46 : decode (z_c m_M_rising) 46 = .ok (.iinc 4 1, 3) := by decide +kernel
theorem d_M_rising_49 : decode (z_c m_M_rising) 49 = .ok (.goto (-32), 3) := by decide +kernel
theorem d_M_rising_52 : decode (z_c m_M_rising) 52 = .ok (.iload_n 3, 1) := by decide +kernel
theorem d_M_rising_53 : decode (z_c m_M_rising) 53 = .ok (.iload_n 1, 1) := by decide +kernel
theorem d_M_rising_54 : decode (z_c m_M_rising) 54 = .ok (.if_icmp .ne 5, 3) := by decide +kernel
theorem d_M_rising_57 : decode (z_c m_M_rising) 57 = .ok (.iload_n 2, 1) := by decide +kernel
theorem d_M_rising_58 : decode (z_c m_M_rising) 58 = .ok (.ireturn, 1) := by decide +kernel
theorem d_M_rising_59 : decode (z_c m_M_rising) 59 = .ok (.iinc 2 1, 3) := by decide +kernel
theorem d_M_rising_62 : decode (z_c m_M_rising) 62 = .ok (.goto (-60), 3) := by decide +kernel
theorem d_M_rising_65 : decode (z_c m_M_rising) 65 = .ok (.iconst (-1), 1) := by decide +kernel
theorem d_M_rising_66 : decode (z_c m_M_rising) 66 = .ok (.ireturn, 1) := by decide +kernel
abbrev L_M_rising_2 (X : z_X) (N : Nat) (σ : z_G) (x1 x2 : Int) (g : z_G) (Q : z_P) : Prop := z_U X 4 m_M_rising 2 [(0, (2, 0)), (1, (0, x1)), (2, (0, x2))] [] N σ g Q
abbrev L_M_rising_17 (X : z_X) (N : Nat) (σ : z_G) (x1 x2 x3 x4 : Int) (g : z_G) (Q : z_P) : Prop := z_U X 4 m_M_rising 17 [(0, (2, 0)), (1, (0, x1)), (2, (0, x2)), (3, (0, x3)), (4, (0, x4))] [] N σ g Q
set_option maxRecDepth 8000 in
theorem b_M_rising_0 {X : z_X} {N : Nat} {σ g : z_G} {Q : z_P} {a1 : Int} (hx : z_lay X N σ 0 z_SM z_RM) (h : L_M_rising_2 X N σ a1 0 g Q) : z_O X 4 m_M_rising [(2, 0), (0, a1)] N σ g Q := by
  refine z_Oenter mi_M_rising rfl (fun _ => ?_)
  show z_U X 4 m_M_rising 0 [(0, (2, 0)), (1, (0, a1))] [] N σ g Q
  refine z_iconst (n := 0) d_M_rising_0 (by decide) ?_
  refine z_istore_n (i := 2) (ls' := [(2, (0, 0)), (0, (2, 0)), (1, (0, a1))]) d_M_rising_1 rfl rfl rfl ?_
  refine z_sub (ls' := [(0, (2, 0)), (1, (0, a1)), (2, (0, 0))]) [1, 2, 0] rfl ?_
  exact h
set_option maxRecDepth 8000 in
theorem b_M_rising_2 {X : z_X} {N : Nat} {σ g : z_G} {Q : z_P} {x1 x2 : Int} (hx : z_lay X N σ 0 z_SM z_RM) (h : (((g 1 4) ≤ x2) → Q (-1) g) ∧ (¬ ((g 1 4) ≤ x2) → L_M_rising_17 X N σ x1 x2 0 0 g Q)) : L_M_rising_2 X N σ x1 x2 g Q := by
  refine z_iload_n (i := 2) 2 d_M_rising_2 rfl rfl ?_
  refine z_aload_n (i := 0) (c := 0) 0 d_M_rising_3 rfl rfl rfl ?_
  refine z_getr (c := 0) (kI := 0) (r2 := 1) d_M_rising_4 fd_M_at fl_M_7 rfl rfl rfl (ks_M_0 hx) (kl_M_0 hx) (kr_M_0_0 hx) ?_
  refine z_iconst (n := 4) d_M_rising_7 (by decide) ?_
  refine z_iald (c := 1) (m := 3296) d_M_rising_8 rfl (ks_M_1 hx) (kl_M_1 hx) rfl (by decide) (by decide) ?_
  refine z_icmp_ge (tgt := 65) d_M_rising_9 (by decide) (fun c1 => ?_) (fun c1 => ?_)
  · have h := h.1 c1
    refine z_iconst (n := (-1)) d_M_rising_65 (by decide) ?_
    exact z_iret d_M_rising_66 rfl (by decide) (by decide) ⟨rfl, rfl, h⟩
  · have h := h.2 c1
    refine z_iconst (n := 0) d_M_rising_12 (by decide) ?_
    refine z_istore_n (i := 3) (ls' := [(3, (0, 0)), (0, (2, 0)), (1, (0, x1)), (2, (0, x2))]) d_M_rising_13 rfl rfl rfl ?_
    refine z_iconst (n := 0) d_M_rising_14 (by decide) ?_
    refine z_istore (ls' := [(4, (0, 0)), (3, (0, 0)), (0, (2, 0)), (1, (0, x1)), (2, (0, x2))]) d_M_rising_15 rfl rfl ?_
    refine z_sub (ls' := [(0, (2, 0)), (1, (0, x1)), (2, (0, x2)), (3, (0, 0)), (4, (0, 0))]) [2, 3, 4, 1, 0] rfl ?_
    exact h
set_option maxRecDepth 8000 in
theorem b_M_rising_17 {X : z_X} {N : Nat} {σ g : z_G} {Q : z_P} {x1 x2 x3 x4 : Int} (hx : z_lay X N σ 0 z_SM z_RM) (h : (((g 1 4) ≤ x4) → (((x3 = x1) → Q x2 g) ∧ (¬ (x3 = x1) → ((-2147483648 ≤ (x2 + 1) ∧ (x2 + 1) ≤ 2147483647) ∧ L_M_rising_2 X N σ x1 (x2 + 1) g Q)))) ∧ (¬ ((g 1 4) ≤ x4) → ((-2147483648 ≤ (3 * x4) ∧ (3 * x4) ≤ 2147483647) ∧ ((-2147483648 ≤ (10 + (3 * x4)) ∧ (10 + (3 * x4)) ≤ 2147483647) ∧ ((0 ≤ (10 + (3 * x4)) ∧ (10 + (3 * x4)) < 3296) ∧ ((-2147483648 ≤ (3 * x2) ∧ (3 * x2) ≤ 2147483647) ∧ ((-2147483648 ≤ (10 + (3 * x2)) ∧ (10 + (3 * x2)) ≤ 2147483647) ∧ ((-2147483648 ≤ ((10 + (3 * x2)) + 1) ∧ ((10 + (3 * x2)) + 1) ≤ 2147483647) ∧ ((0 ≤ ((10 + (3 * x2)) + 1) ∧ ((10 + (3 * x2)) + 1) < 3296) ∧ ((-2147483648 ≤ ((g 1 (10 + (3 * x4))) * (g 1 ((10 + (3 * x2)) + 1))) ∧ ((g 1 (10 + (3 * x4))) * (g 1 ((10 + (3 * x2)) + 1))) ≤ 2147483647) ∧ ((0 ≤ (10 + (3 * x2)) ∧ (10 + (3 * x2)) < 3296) ∧ ((-2147483648 ≤ ((10 + (3 * x4)) + 1) ∧ ((10 + (3 * x4)) + 1) ≤ 2147483647) ∧ ((0 ≤ ((10 + (3 * x4)) + 1) ∧ ((10 + (3 * x4)) + 1) < 3296) ∧ ((-2147483648 ≤ ((g 1 (10 + (3 * x2))) * (g 1 ((10 + (3 * x4)) + 1))) ∧ ((g 1 (10 + (3 * x2))) * (g 1 ((10 + (3 * x4)) + 1))) ≤ 2147483647) ∧ (((((g 1 (10 + (3 * x2))) * (g 1 ((10 + (3 * x4)) + 1))) ≤ ((g 1 (10 + (3 * x4))) * (g 1 ((10 + (3 * x2)) + 1)))) → ((-2147483648 ≤ (x3 + 0) ∧ (x3 + 0) ≤ 2147483647) ∧ ((-2147483648 ≤ (x4 + 1) ∧ (x4 + 1) ≤ 2147483647) ∧ L_M_rising_17 X N σ x1 x2 (x3 + 0) (x4 + 1) g Q))) ∧ (¬ (((g 1 (10 + (3 * x2))) * (g 1 ((10 + (3 * x4)) + 1))) ≤ ((g 1 (10 + (3 * x4))) * (g 1 ((10 + (3 * x2)) + 1)))) → ((-2147483648 ≤ (x3 + 1) ∧ (x3 + 1) ≤ 2147483647) ∧ ((-2147483648 ≤ (x4 + 1) ∧ (x4 + 1) ≤ 2147483647) ∧ L_M_rising_17 X N σ x1 x2 (x3 + 1) (x4 + 1) g Q)))))))))))))))))) : L_M_rising_17 X N σ x1 x2 x3 x4 g Q := by
  refine z_iload 4 d_M_rising_17 rfl ?_
  refine z_aload_n (i := 0) (c := 0) 0 d_M_rising_19 rfl rfl rfl ?_
  refine z_getr (c := 0) (kI := 0) (r2 := 1) d_M_rising_20 fd_M_at fl_M_7 rfl rfl rfl (ks_M_0 hx) (kl_M_0 hx) (kr_M_0_0 hx) ?_
  refine z_iconst (n := 4) d_M_rising_23 (by decide) ?_
  refine z_iald (c := 1) (m := 3296) d_M_rising_24 rfl (ks_M_1 hx) (kl_M_1 hx) rfl (by decide) (by decide) ?_
  refine z_icmp_ge (tgt := 52) d_M_rising_25 (by decide) (fun c1 => ?_) (fun c1 => ?_)
  · have h := h.1 c1
    refine z_iload_n (i := 3) 3 d_M_rising_52 rfl rfl ?_
    refine z_iload_n (i := 1) 1 d_M_rising_53 rfl rfl ?_
    refine z_icmp_ne (tgt := 59) d_M_rising_54 (by decide) (fun c2 => ?_) (fun c2 => ?_)
    · have h := h.2 c2
      obtain ⟨c3, h⟩ := h
      refine z_iinc (n := 1) (ls' := [(2, (0, x2 + 1)), (0, (2, 0)), (1, (0, x1)), (3, (0, x3)), (4, (0, x4))]) 2 d_M_rising_59 rfl c3 rfl rfl ?_
      refine z_goto (tgt := 2) d_M_rising_62 (by decide) ?_
      refine z_sub (ls' := [(0, (2, 0)), (1, (0, x1)), (2, (0, x2 + 1))]) [1, 2, 0] rfl ?_
      exact h
    · have h := h.1 c2
      refine z_iload_n (i := 2) 2 d_M_rising_57 rfl rfl ?_
      exact z_iret d_M_rising_58 rfl (by decide) (by decide) ⟨rfl, rfl, h⟩
  · have h := h.2 c1
    refine z_iload_n (i := 3) 3 d_M_rising_28 rfl rfl ?_
    refine z_aload_n (i := 0) (c := 0) 0 d_M_rising_29 rfl rfl rfl ?_
    refine z_iload 4 d_M_rising_30 rfl ?_
    refine z_iload_n (i := 2) 2 d_M_rising_32 rfl rfl ?_
    refine z_cV (c := 0) (as := [(0, x4), (0, x2)]) (d' := 3) (st := [(0, x3)]) d_M_rising_33 mi_M_isLess ml_M_375 mv_M_isLess se_M_isLess rfl rfl rfl rfl (ks_M_0 hx) rfl rfl (kl_M_0 hx) rfl rfl (b_M_isLess_0 hx ?_)
    obtain ⟨c4, h⟩ := h
    refine ⟨c4, ?_⟩
    obtain ⟨c5, h⟩ := h
    refine ⟨c5, ?_⟩
    obtain ⟨c6, h⟩ := h
    refine ⟨c6, ?_⟩
    obtain ⟨c7, h⟩ := h
    refine ⟨c7, ?_⟩
    obtain ⟨c8, h⟩ := h
    refine ⟨c8, ?_⟩
    obtain ⟨c9, h⟩ := h
    refine ⟨c9, ?_⟩
    obtain ⟨c10, h⟩ := h
    refine ⟨c10, ?_⟩
    obtain ⟨c11, h⟩ := h
    refine ⟨c11, ?_⟩
    obtain ⟨c12, h⟩ := h
    refine ⟨c12, ?_⟩
    obtain ⟨c13, h⟩ := h
    refine ⟨c13, ?_⟩
    obtain ⟨c14, h⟩ := h
    refine ⟨c14, ?_⟩
    obtain ⟨c15, h⟩ := h
    refine ⟨c15, ?_⟩
    refine ⟨fun c16 => ?_, fun c16 => ?_⟩
    · have h := h.1 c16
      intro _
      show z_U X 4 m_M_rising 36 [(0, (2, 0)), (1, (0, x1)), (2, (0, x2)), (3, (0, x3)), (4, (0, x4))] [(0, 0), (0, x3)] N σ g Q
      refine z_if_eq (tgt := 43) d_M_rising_36 (by decide) (fun _ => ?_) (fun c => absurd (by decide) c)
      refine z_iconst (n := 0) d_M_rising_43 (by decide) ?_
      obtain ⟨c17, h⟩ := h
      refine z_iadd d_M_rising_44 c17 ?_
      refine z_istore_n (i := 3) (ls' := [(3, (0, x3 + 0)), (0, (2, 0)), (1, (0, x1)), (2, (0, x2)), (4, (0, x4))]) d_M_rising_45 rfl rfl rfl ?_
      obtain ⟨c18, h⟩ := h
      refine z_iinc (n := 1) (ls' := [(4, (0, x4 + 1)), (3, (0, x3 + 0)), (0, (2, 0)), (1, (0, x1)), (2, (0, x2))]) 4 d_M_rising_46 rfl c18 rfl rfl ?_
      refine z_goto (tgt := 17) d_M_rising_49 (by decide) ?_
      refine z_sub (ls' := [(0, (2, 0)), (1, (0, x1)), (2, (0, x2)), (3, (0, x3 + 0)), (4, (0, x4 + 1))]) [2, 3, 4, 1, 0] rfl ?_
      exact h
    · have h := h.2 c16
      intro _
      show z_U X 4 m_M_rising 36 [(0, (2, 0)), (1, (0, x1)), (2, (0, x2)), (3, (0, x3)), (4, (0, x4))] [(0, 1), (0, x3)] N σ g Q
      refine z_if_eq (tgt := 43) d_M_rising_36 (by decide) (fun c => absurd c (by decide)) (fun _ => ?_)
      refine z_iconst (n := 1) d_M_rising_39 (by decide) ?_
      refine z_goto (tgt := 44) d_M_rising_40 (by decide) ?_
      obtain ⟨c19, h⟩ := h
      refine z_iadd d_M_rising_44 c19 ?_
      refine z_istore_n (i := 3) (ls' := [(3, (0, x3 + 1)), (0, (2, 0)), (1, (0, x1)), (2, (0, x2)), (4, (0, x4))]) d_M_rising_45 rfl rfl rfl ?_
      obtain ⟨c20, h⟩ := h
      refine z_iinc (n := 1) (ls' := [(4, (0, x4 + 1)), (3, (0, x3 + 1)), (0, (2, 0)), (1, (0, x1)), (2, (0, x2))]) 4 d_M_rising_46 rfl c20 rfl rfl ?_
      refine z_goto (tgt := 17) d_M_rising_49 (by decide) ?_
      refine z_sub (ls' := [(0, (2, 0)), (1, (0, x1)), (2, (0, x2)), (3, (0, x3 + 1)), (4, (0, x4 + 1))]) [2, 3, 4, 1, 0] rfl ?_
      exact h
theorem d_M_rule_0 : decode (z_c m_M_rule) 0 = .ok (.iload_n 1, 1) := by decide +kernel
theorem d_M_rule_1 : decode (z_c m_M_rule) 1 = .ok (.ifCond .ne 15, 3) := by decide +kernel
theorem d_M_rule_4 : decode (z_c m_M_rule) 4 = .ok (.iload_n 2, 1) := by decide +kernel
theorem d_M_rule_5 : decode (z_c m_M_rule) 5 = .ok (.i2l, 1) := by decide +kernel
theorem d_M_rule_6 : decode (z_c m_M_rule) 6 = .ok (.lconst 1, 1) := by decide +kernel
theorem d_M_rule_7 : decode (z_c m_M_rule) 7 = .ok (.ldc2_w 263, 3) := by decide +kernel
theorem d_M_rule_10 : decode (z_c m_M_rule) 10 = .ok (.invokestatic 265, 3) := by decide +kernel
theorem d_M_rule_13 : decode (z_c m_M_rule) 13 = .ok (.goto 25, 3) := by decide +kernel
theorem d_M_rule_16 : decode (z_c m_M_rule) 16 = .ok (.iload_n 1, 1) := by decide +kernel
theorem d_M_rule_17 : decode (z_c m_M_rule) 17 = .ok (.iconst 1, 1) := by decide +kernel
theorem d_M_rule_18 : decode (z_c m_M_rule) 18 = .ok (.if_icmp .ne 19, 3) := by decide +kernel
theorem d_M_rule_21 : decode (z_c m_M_rule) 21 = .ok (.iload_n 2, 1) := by decide +kernel
theorem d_M_rule_22 : decode (z_c m_M_rule) 22 = .ok (.i2l, 1) := by decide +kernel
theorem d_M_rule_23 : decode (z_c m_M_rule) 23 = .ok (.lconst 0, 1) := by decide +kernel
theorem d_M_rule_24 : decode (z_c m_M_rule) 24 = .ok (.ldc2_w 344, 3) := by decide +kernel
theorem d_M_rule_27 : decode (z_c m_M_rule) 27 = .ok (.invokestatic 265, 3) := by decide +kernel
theorem d_M_rule_30 : decode (z_c m_M_rule) 30 = .ok (.ifCond .eq 7, 3) := by decide +kernel
theorem d_M_rule_33 : decode (z_c m_M_rule) 33 = .ok (.iconst 1, 1) := by decide +kernel
theorem d_M_rule_34 : decode (z_c m_M_rule) 34 = .ok (.goto 4, 3) := by decide +kernel
theorem d_M_rule_37 : decode (z_c m_M_rule) 37 = .ok (.iconst 0, 1) := by decide +kernel
theorem d_M_rule_38 : decode (z_c m_M_rule) 38 = .ok (.istore_n 3, 1) := by decide +kernel
theorem d_M_rule_39 : decode (z_c m_M_rule) 39 = .ok (.iload_n 3, 1) := by decide +kernel
theorem d_M_rule_40 : decode (z_c m_M_rule) 40 = .ok (.ifCond .ne 9, 3) := by decide +kernel
theorem d_M_rule_43 : decode (z_c m_M_rule) 43 = .ok (.aload_n 0, 1) := by decide +kernel
theorem d_M_rule_44 : decode (z_c m_M_rule) 44 = .ok (.iconst 1, 1) := by decide +kernel
theorem d_M_rule_45 : decode (z_c m_M_rule) 45 = .ok (.invokevirtual 87, 3) := by decide +kernel
theorem d_M_rule_48 : decode (z_c m_M_rule) 48 = .ok (.ireturn, 1) := by decide +kernel
theorem d_M_rule_49 : decode (z_c m_M_rule) 49 = .ok (.iload_n 1, 1) := by decide +kernel
theorem d_M_rule_50 : decode (z_c m_M_rule) 50 = .ok (.ifCond .ne 7, 3) := by decide +kernel
theorem d_M_rule_53 : decode (z_c m_M_rule) 53 = .ok (.iconst 1, 1) := by decide +kernel
theorem d_M_rule_54 : decode (z_c m_M_rule) 54 = .ok (.goto 4, 3) := by decide +kernel
theorem d_M_rule_57 : decode (z_c m_M_rule) 57 = .ok (.iconst 0, 1) := by decide +kernel
theorem d_M_rule_58 : decode (z_c m_M_rule) 58 = .ok (.istore 4, 2) := by decide +kernel
theorem d_M_rule_60 : decode (z_c m_M_rule) 60 = .ok (.aload_n 0, 1) := by decide +kernel
theorem d_M_rule_61 : decode (z_c m_M_rule) 61 = .ok (.getfield 7, 3) := by decide +kernel
theorem d_M_rule_64 : decode (z_c m_M_rule) 64 = .ok (.iload 4, 2) := by decide +kernel
theorem d_M_rule_66 : decode (z_c m_M_rule) 66 = .ok (.iaload, 1) := by decide +kernel
theorem d_M_rule_67 : decode (z_c m_M_rule) 67 = .ok (.iload_n 2, 1) := by decide +kernel
theorem d_M_rule_68 : decode (z_c m_M_rule) 68 = .ok (.if_icmp .ne 10, 3) := by decide +kernel
theorem d_M_rule_71 : decode (z_c m_M_rule) 71 = .ok (.aload_n 0, 1) := by decide +kernel
theorem d_M_rule_72 : decode (z_c m_M_rule) 72 = .ok (.bipush 7, 2) := by decide +kernel
theorem d_M_rule_74 : decode (z_c m_M_rule) 74 = .ok (.invokevirtual 87, 3) := by decide +kernel
theorem d_M_rule_77 : decode (z_c m_M_rule) 77 = .ok (.ireturn, 1) := by decide +kernel
theorem d_M_rule_78 : decode (z_c m_M_rule) 78 = .ok (.aload_n 0, 1) := by decide +kernel
theorem d_M_rule_79 : decode (z_c m_M_rule) 79 = .ok (.getfield 7, 3) := by decide +kernel
theorem d_M_rule_82 : decode (z_c m_M_rule) 82 = .ok (.iload 4, 2) := by decide +kernel
theorem d_M_rule_84 : decode (z_c m_M_rule) 84 = .ok (.iload_n 2, 1) := by decide +kernel
theorem d_M_rule_85 : decode (z_c m_M_rule) 85 = .ok (.iastore, 1) := by decide +kernel
theorem d_M_rule_86 : decode (z_c m_M_rule) 86 = .ok (.aload_n 0, 1) := by decide +kernel
theorem d_M_rule_87 : decode (z_c m_M_rule) 87 = .ok (.invokevirtual 250, 3) := by decide +kernel
theorem d_M_rule_90 : decode (z_c m_M_rule) 90 = .ok (.aload_n 0, 1) := by decide +kernel
theorem d_M_rule_91 : decode (z_c m_M_rule) 91 = .ok (.aload_n 0, 1) := by decide +kernel
theorem d_M_rule_92 : decode (z_c m_M_rule) 92 = .ok (.getfield 237, 3) := by decide +kernel
theorem d_M_rule_95 : decode (z_c m_M_rule) 95 = .ok (.invokevirtual 91, 3) := by decide +kernel
theorem d_M_rule_98 : decode (z_c m_M_rule) 98 = .ok (.ireturn, 1) := by decide +kernel
set_option maxRecDepth 8000 in
theorem b_M_rule_0 {X : z_X} {N : Nat} {σ g : z_G} {Q : z_P} {a1 a2 : Int} (hx : z_lay X N σ 0 z_SM z_RM) (h : ((a1 = 0) → (((a2 < 1) → Q (-1) (z_up g 0 1 1)) ∧ (¬ (a2 < 1) → (((200 < a2) → Q (-1) (z_up g 0 1 1)) ∧ (¬ (200 < a2) → ((((g 1 1) = a2) → Q (-1) (z_up g 0 1 7)) ∧ (¬ ((g 1 1) = a2) → (z_O X 2 m_M_lays [(2, 0), (0, (z_up g 1 1 a2) 1 1)] N σ (z_up g 1 1 a2) (fun r1 g1 => Q (g1 0 24) (z_up g1 0 1 0)))))))))) ∧ (¬ (a1 = 0) → (((a1 = 1) → (((a2 < 0) → Q (-1) (z_up g 0 1 1)) ∧ (¬ (a2 < 0) → (((16 < a2) → Q (-1) (z_up g 0 1 1)) ∧ (¬ (16 < a2) → ((((g 1 0) = a2) → Q (-1) (z_up g 0 1 7)) ∧ (¬ ((g 1 0) = a2) → (z_O X 2 m_M_lays [(2, 0), (0, (z_up g 1 0 a2) 1 1)] N σ (z_up g 1 0 a2) (fun r0 g0 => Q (g0 0 24) (z_up g0 0 1 0)))))))))) ∧ (¬ (a1 = 1) → Q (-1) (z_up g 0 1 1))))) : z_O X 4 m_M_rule [(2, 0), (0, a1), (0, a2)] N σ g Q := by
  refine z_Oenter mi_M_rule rfl (fun _ => ?_)
  show z_U X 4 m_M_rule 0 [(0, (2, 0)), (1, (0, a1)), (2, (0, a2))] [] N σ g Q
  refine z_iload_n (i := 1) 1 d_M_rule_0 rfl rfl ?_
  refine z_if_ne (tgt := 16) d_M_rule_1 (by decide) (fun c1 => ?_) (fun c1 => ?_)
  · have h := h.2 c1
    refine z_iload_n (i := 1) 1 d_M_rule_16 rfl rfl ?_
    refine z_iconst (n := 1) d_M_rule_17 (by decide) ?_
    refine z_icmp_ne (tgt := 37) d_M_rule_18 (by decide) (fun c2 => ?_) (fun c2 => ?_)
    · have h := h.2 c2
      refine z_iconst (n := 0) d_M_rule_37 (by decide) ?_
      refine z_istore_n (i := 3) (ls' := [(3, (0, 0)), (0, (2, 0)), (1, (0, a1)), (2, (0, a2))]) d_M_rule_38 rfl rfl rfl ?_
      refine z_iload_n (i := 3) 0 d_M_rule_39 rfl rfl ?_
      refine z_if_ne (tgt := 49) d_M_rule_40 (by decide) (fun c => absurd (by decide) c) (fun _ => ?_)
      refine z_aload_n (i := 0) (c := 0) 1 d_M_rule_43 rfl rfl rfl ?_
      refine z_iconst (n := 1) d_M_rule_44 (by decide) ?_
      refine z_cV (c := 0) (as := [(0, 1)]) (d' := 1) (st := []) d_M_rule_45 mi_M_refuse ml_M_87 mv_M_refuse se_M_refuse rfl rfl rfl rfl (ks_M_0 hx) rfl rfl (kl_M_0 hx) rfl rfl (b_M_refuse_0 hx ?_)
      intro _
      show z_U X 4 m_M_rule 48 [(3, (0, 0)), (0, (2, 0)), (1, (0, a1)), (2, (0, a2))] [(0, (-1))] N σ (z_up g 0 1 1) Q
      exact z_iret d_M_rule_48 rfl (by decide) (by decide) ⟨rfl, rfl, h⟩
    · have h := h.1 c2
      refine z_iload_n (i := 2) 2 d_M_rule_21 rfl rfl ?_
      refine z_i2l d_M_rule_22 ?_
      refine z_lconst (v := 0) d_M_rule_23 (by decide) (by decide) ?_
      refine z_ldc2 (v := 16) d_M_rule_24 kc_M_344 (by decide) ?_
      refine z_cS (as := [(1, a2), (1, 0), (1, 16)]) (d' := 1) (st := []) d_M_rule_27 mi_M_isFrom ml_M_265 ms_M_isFrom rfl rfl rfl rfl rfl (b_M_isFrom_0  ?_)
      refine ⟨fun c3 => ?_, fun c3 => ?_⟩
      · have h := h.1 c3
        intro _
        show z_U X 4 m_M_rule 30 [(0, (2, 0)), (1, (0, a1)), (2, (0, a2))] [(0, 0)] N σ g Q
        refine z_if_eq (tgt := 37) d_M_rule_30 (by decide) (fun _ => ?_) (fun c => absurd (by decide) c)
        refine z_iconst (n := 0) d_M_rule_37 (by decide) ?_
        refine z_istore_n (i := 3) (ls' := [(3, (0, 0)), (0, (2, 0)), (1, (0, a1)), (2, (0, a2))]) d_M_rule_38 rfl rfl rfl ?_
        refine z_iload_n (i := 3) 0 d_M_rule_39 rfl rfl ?_
        refine z_if_ne (tgt := 49) d_M_rule_40 (by decide) (fun c => absurd (by decide) c) (fun _ => ?_)
        refine z_aload_n (i := 0) (c := 0) 1 d_M_rule_43 rfl rfl rfl ?_
        refine z_iconst (n := 1) d_M_rule_44 (by decide) ?_
        refine z_cV (c := 0) (as := [(0, 1)]) (d' := 1) (st := []) d_M_rule_45 mi_M_refuse ml_M_87 mv_M_refuse se_M_refuse rfl rfl rfl rfl (ks_M_0 hx) rfl rfl (kl_M_0 hx) rfl rfl (b_M_refuse_0 hx ?_)
        intro _
        show z_U X 4 m_M_rule 48 [(3, (0, 0)), (0, (2, 0)), (1, (0, a1)), (2, (0, a2))] [(0, (-1))] N σ (z_up g 0 1 1) Q
        exact z_iret d_M_rule_48 rfl (by decide) (by decide) ⟨rfl, rfl, h⟩
      · have h := h.2 c3
        refine ⟨fun c4 => ?_, fun c4 => ?_⟩
        · have h := h.1 c4
          intro _
          show z_U X 4 m_M_rule 30 [(0, (2, 0)), (1, (0, a1)), (2, (0, a2))] [(0, 0)] N σ g Q
          refine z_if_eq (tgt := 37) d_M_rule_30 (by decide) (fun _ => ?_) (fun c => absurd (by decide) c)
          refine z_iconst (n := 0) d_M_rule_37 (by decide) ?_
          refine z_istore_n (i := 3) (ls' := [(3, (0, 0)), (0, (2, 0)), (1, (0, a1)), (2, (0, a2))]) d_M_rule_38 rfl rfl rfl ?_
          refine z_iload_n (i := 3) 0 d_M_rule_39 rfl rfl ?_
          refine z_if_ne (tgt := 49) d_M_rule_40 (by decide) (fun c => absurd (by decide) c) (fun _ => ?_)
          refine z_aload_n (i := 0) (c := 0) 1 d_M_rule_43 rfl rfl rfl ?_
          refine z_iconst (n := 1) d_M_rule_44 (by decide) ?_
          refine z_cV (c := 0) (as := [(0, 1)]) (d' := 1) (st := []) d_M_rule_45 mi_M_refuse ml_M_87 mv_M_refuse se_M_refuse rfl rfl rfl rfl (ks_M_0 hx) rfl rfl (kl_M_0 hx) rfl rfl (b_M_refuse_0 hx ?_)
          intro _
          show z_U X 4 m_M_rule 48 [(3, (0, 0)), (0, (2, 0)), (1, (0, a1)), (2, (0, a2))] [(0, (-1))] N σ (z_up g 0 1 1) Q
          exact z_iret d_M_rule_48 rfl (by decide) (by decide) ⟨rfl, rfl, h⟩
        · have h := h.2 c4
          intro _
          show z_U X 4 m_M_rule 30 [(0, (2, 0)), (1, (0, a1)), (2, (0, a2))] [(0, 1)] N σ g Q
          refine z_if_eq (tgt := 37) d_M_rule_30 (by decide) (fun c => absurd c (by decide)) (fun _ => ?_)
          refine z_iconst (n := 1) d_M_rule_33 (by decide) ?_
          refine z_goto (tgt := 38) d_M_rule_34 (by decide) ?_
          refine z_istore_n (i := 3) (ls' := [(3, (0, 1)), (0, (2, 0)), (1, (0, a1)), (2, (0, a2))]) d_M_rule_38 rfl rfl rfl ?_
          refine z_iload_n (i := 3) 0 d_M_rule_39 rfl rfl ?_
          refine z_if_ne (tgt := 49) d_M_rule_40 (by decide) (fun _ => ?_) (fun c => absurd c (by decide))
          refine z_iload_n (i := 1) 2 d_M_rule_49 rfl rfl ?_
          refine z_if_ne (tgt := 57) d_M_rule_50 (by decide) (fun _ => ?_) (fun c => absurd c c1)
          refine z_iconst (n := 0) d_M_rule_57 (by decide) ?_
          refine z_istore (ls' := [(4, (0, 0)), (3, (0, 1)), (0, (2, 0)), (1, (0, a1)), (2, (0, a2))]) d_M_rule_58 rfl rfl ?_
          refine z_aload_n (i := 0) (c := 0) 2 d_M_rule_60 rfl rfl rfl ?_
          refine z_getr (c := 0) (kI := 0) (r2 := 1) d_M_rule_61 fd_M_at fl_M_7 rfl rfl rfl (ks_M_0 hx) (kl_M_0 hx) (kr_M_0_0 hx) ?_
          refine z_iload 0 d_M_rule_64 rfl ?_
          refine z_iald (c := 1) (m := 3296) d_M_rule_66 rfl (ks_M_1 hx) (kl_M_1 hx) rfl (by decide) (by decide) ?_
          refine z_iload_n (i := 2) 4 d_M_rule_67 rfl rfl ?_
          refine z_icmp_ne (tgt := 78) d_M_rule_68 (by decide) (fun c5 => ?_) (fun c5 => ?_)
          · have h := h.2 c5
            refine z_aload_n (i := 0) (c := 0) 2 d_M_rule_78 rfl rfl rfl ?_
            refine z_getr (c := 0) (kI := 0) (r2 := 1) d_M_rule_79 fd_M_at fl_M_7 rfl rfl rfl (ks_M_0 hx) (kl_M_0 hx) (kr_M_0_0 hx) ?_
            refine z_iload 0 d_M_rule_82 rfl ?_
            refine z_iload_n (i := 2) 4 d_M_rule_84 rfl rfl ?_
            refine z_iast (c := 1) (m := 3296) d_M_rule_85 rfl (ks_M_1 hx) (kl_M_1 hx) rfl (by decide) (by decide) ?_
            refine z_aload_n (i := 0) (c := 0) 2 d_M_rule_86 rfl rfl rfl ?_
            refine z_cV (c := 0) (as := []) (d' := 3) (st := []) d_M_rule_87 mi_M_laysRow ml_M_250 mv_M_laysRow se_M_laysRow rfl rfl rfl rfl (ks_M_0 hx) rfl rfl (kl_M_0 hx) rfl rfl (b_M_laysRow_0 hx ?_)
            refine z_Omono h (fun r0 g0 _ h => ?_)
            intro _
            show z_U X 4 m_M_rule 90 [(4, (0, 0)), (3, (0, 1)), (0, (2, 0)), (1, (0, a1)), (2, (0, a2))] [] N σ g0 Q
            refine z_aload_n (i := 0) (c := 0) 2 d_M_rule_90 rfl rfl rfl ?_
            refine z_aload_n (i := 0) (c := 0) 2 d_M_rule_91 rfl rfl rfl ?_
            refine z_geti (c := 0) (kI := 24) d_M_rule_92 fd_M_many fl_M_237 (Or.inl rfl) rfl rfl (ks_M_0 hx) (kl_M_0 hx) ?_
            refine z_cV (c := 0) (as := [(0, g0 0 24)]) (d' := 1) (st := []) d_M_rule_95 mi_M_gives ml_M_91 mv_M_gives se_M_gives rfl rfl rfl rfl (ks_M_0 hx) rfl rfl (kl_M_0 hx) rfl rfl (b_M_gives_0 hx ?_)
            intro _
            show z_U X 4 m_M_rule 98 [(4, (0, 0)), (3, (0, 1)), (0, (2, 0)), (1, (0, a1)), (2, (0, a2))] [(0, g0 0 24)] N σ (z_up g0 0 1 0) Q
            exact z_iret d_M_rule_98 rfl (by decide) (by decide) ⟨rfl, rfl, h⟩
          · have h := h.1 c5
            refine z_aload_n (i := 0) (c := 0) 2 d_M_rule_71 rfl rfl rfl ?_
            refine z_bipush (n := 7) d_M_rule_72 (by decide) (by decide) ?_
            refine z_cV (c := 0) (as := [(0, 7)]) (d' := 1) (st := []) d_M_rule_74 mi_M_refuse ml_M_87 mv_M_refuse se_M_refuse rfl rfl rfl rfl (ks_M_0 hx) rfl rfl (kl_M_0 hx) rfl rfl (b_M_refuse_0 hx ?_)
            intro _
            show z_U X 4 m_M_rule 77 [(4, (0, 0)), (3, (0, 1)), (0, (2, 0)), (1, (0, a1)), (2, (0, a2))] [(0, (-1))] N σ (z_up g 0 1 7) Q
            exact z_iret d_M_rule_77 rfl (by decide) (by decide) ⟨rfl, rfl, h⟩
  · have h := h.1 c1
    refine z_iload_n (i := 2) 2 d_M_rule_4 rfl rfl ?_
    refine z_i2l d_M_rule_5 ?_
    refine z_lconst (v := 1) d_M_rule_6 (by decide) (by decide) ?_
    refine z_ldc2 (v := 200) d_M_rule_7 kc_M_263 (by decide) ?_
    refine z_cS (as := [(1, a2), (1, 1), (1, 200)]) (d' := 1) (st := []) d_M_rule_10 mi_M_isFrom ml_M_265 ms_M_isFrom rfl rfl rfl rfl rfl (b_M_isFrom_0  ?_)
    refine ⟨fun c6 => ?_, fun c6 => ?_⟩
    · have h := h.1 c6
      intro _
      show z_U X 4 m_M_rule 13 [(0, (2, 0)), (1, (0, a1)), (2, (0, a2))] [(0, 0)] N σ g Q
      refine z_goto (tgt := 38) d_M_rule_13 (by decide) ?_
      refine z_istore_n (i := 3) (ls' := [(3, (0, 0)), (0, (2, 0)), (1, (0, a1)), (2, (0, a2))]) d_M_rule_38 rfl rfl rfl ?_
      refine z_iload_n (i := 3) 0 d_M_rule_39 rfl rfl ?_
      refine z_if_ne (tgt := 49) d_M_rule_40 (by decide) (fun c => absurd (by decide) c) (fun _ => ?_)
      refine z_aload_n (i := 0) (c := 0) 1 d_M_rule_43 rfl rfl rfl ?_
      refine z_iconst (n := 1) d_M_rule_44 (by decide) ?_
      refine z_cV (c := 0) (as := [(0, 1)]) (d' := 1) (st := []) d_M_rule_45 mi_M_refuse ml_M_87 mv_M_refuse se_M_refuse rfl rfl rfl rfl (ks_M_0 hx) rfl rfl (kl_M_0 hx) rfl rfl (b_M_refuse_0 hx ?_)
      intro _
      show z_U X 4 m_M_rule 48 [(3, (0, 0)), (0, (2, 0)), (1, (0, a1)), (2, (0, a2))] [(0, (-1))] N σ (z_up g 0 1 1) Q
      exact z_iret d_M_rule_48 rfl (by decide) (by decide) ⟨rfl, rfl, h⟩
    · have h := h.2 c6
      refine ⟨fun c7 => ?_, fun c7 => ?_⟩
      · have h := h.1 c7
        intro _
        show z_U X 4 m_M_rule 13 [(0, (2, 0)), (1, (0, a1)), (2, (0, a2))] [(0, 0)] N σ g Q
        refine z_goto (tgt := 38) d_M_rule_13 (by decide) ?_
        refine z_istore_n (i := 3) (ls' := [(3, (0, 0)), (0, (2, 0)), (1, (0, a1)), (2, (0, a2))]) d_M_rule_38 rfl rfl rfl ?_
        refine z_iload_n (i := 3) 0 d_M_rule_39 rfl rfl ?_
        refine z_if_ne (tgt := 49) d_M_rule_40 (by decide) (fun c => absurd (by decide) c) (fun _ => ?_)
        refine z_aload_n (i := 0) (c := 0) 1 d_M_rule_43 rfl rfl rfl ?_
        refine z_iconst (n := 1) d_M_rule_44 (by decide) ?_
        refine z_cV (c := 0) (as := [(0, 1)]) (d' := 1) (st := []) d_M_rule_45 mi_M_refuse ml_M_87 mv_M_refuse se_M_refuse rfl rfl rfl rfl (ks_M_0 hx) rfl rfl (kl_M_0 hx) rfl rfl (b_M_refuse_0 hx ?_)
        intro _
        show z_U X 4 m_M_rule 48 [(3, (0, 0)), (0, (2, 0)), (1, (0, a1)), (2, (0, a2))] [(0, (-1))] N σ (z_up g 0 1 1) Q
        exact z_iret d_M_rule_48 rfl (by decide) (by decide) ⟨rfl, rfl, h⟩
      · have h := h.2 c7
        intro _
        show z_U X 4 m_M_rule 13 [(0, (2, 0)), (1, (0, a1)), (2, (0, a2))] [(0, 1)] N σ g Q
        refine z_goto (tgt := 38) d_M_rule_13 (by decide) ?_
        refine z_istore_n (i := 3) (ls' := [(3, (0, 1)), (0, (2, 0)), (1, (0, a1)), (2, (0, a2))]) d_M_rule_38 rfl rfl rfl ?_
        refine z_iload_n (i := 3) 0 d_M_rule_39 rfl rfl ?_
        refine z_if_ne (tgt := 49) d_M_rule_40 (by decide) (fun _ => ?_) (fun c => absurd c (by decide))
        refine z_iload_n (i := 1) 2 d_M_rule_49 rfl rfl ?_
        refine z_if_ne (tgt := 57) d_M_rule_50 (by decide) (fun c => absurd c1 c) (fun _ => ?_)
        refine z_iconst (n := 1) d_M_rule_53 (by decide) ?_
        refine z_goto (tgt := 58) d_M_rule_54 (by decide) ?_
        refine z_istore (ls' := [(4, (0, 1)), (3, (0, 1)), (0, (2, 0)), (1, (0, a1)), (2, (0, a2))]) d_M_rule_58 rfl rfl ?_
        refine z_aload_n (i := 0) (c := 0) 2 d_M_rule_60 rfl rfl rfl ?_
        refine z_getr (c := 0) (kI := 0) (r2 := 1) d_M_rule_61 fd_M_at fl_M_7 rfl rfl rfl (ks_M_0 hx) (kl_M_0 hx) (kr_M_0_0 hx) ?_
        refine z_iload 0 d_M_rule_64 rfl ?_
        refine z_iald (c := 1) (m := 3296) d_M_rule_66 rfl (ks_M_1 hx) (kl_M_1 hx) rfl (by decide) (by decide) ?_
        refine z_iload_n (i := 2) 4 d_M_rule_67 rfl rfl ?_
        refine z_icmp_ne (tgt := 78) d_M_rule_68 (by decide) (fun c8 => ?_) (fun c8 => ?_)
        · have h := h.2 c8
          refine z_aload_n (i := 0) (c := 0) 2 d_M_rule_78 rfl rfl rfl ?_
          refine z_getr (c := 0) (kI := 0) (r2 := 1) d_M_rule_79 fd_M_at fl_M_7 rfl rfl rfl (ks_M_0 hx) (kl_M_0 hx) (kr_M_0_0 hx) ?_
          refine z_iload 0 d_M_rule_82 rfl ?_
          refine z_iload_n (i := 2) 4 d_M_rule_84 rfl rfl ?_
          refine z_iast (c := 1) (m := 3296) d_M_rule_85 rfl (ks_M_1 hx) (kl_M_1 hx) rfl (by decide) (by decide) ?_
          refine z_aload_n (i := 0) (c := 0) 2 d_M_rule_86 rfl rfl rfl ?_
          refine z_cV (c := 0) (as := []) (d' := 3) (st := []) d_M_rule_87 mi_M_laysRow ml_M_250 mv_M_laysRow se_M_laysRow rfl rfl rfl rfl (ks_M_0 hx) rfl rfl (kl_M_0 hx) rfl rfl (b_M_laysRow_0 hx ?_)
          refine z_Omono h (fun r1 g1 _ h => ?_)
          intro _
          show z_U X 4 m_M_rule 90 [(4, (0, 1)), (3, (0, 1)), (0, (2, 0)), (1, (0, a1)), (2, (0, a2))] [] N σ g1 Q
          refine z_aload_n (i := 0) (c := 0) 2 d_M_rule_90 rfl rfl rfl ?_
          refine z_aload_n (i := 0) (c := 0) 2 d_M_rule_91 rfl rfl rfl ?_
          refine z_geti (c := 0) (kI := 24) d_M_rule_92 fd_M_many fl_M_237 (Or.inl rfl) rfl rfl (ks_M_0 hx) (kl_M_0 hx) ?_
          refine z_cV (c := 0) (as := [(0, g1 0 24)]) (d' := 1) (st := []) d_M_rule_95 mi_M_gives ml_M_91 mv_M_gives se_M_gives rfl rfl rfl rfl (ks_M_0 hx) rfl rfl (kl_M_0 hx) rfl rfl (b_M_gives_0 hx ?_)
          intro _
          show z_U X 4 m_M_rule 98 [(4, (0, 1)), (3, (0, 1)), (0, (2, 0)), (1, (0, a1)), (2, (0, a2))] [(0, g1 0 24)] N σ (z_up g1 0 1 0) Q
          exact z_iret d_M_rule_98 rfl (by decide) (by decide) ⟨rfl, rfl, h⟩
        · have h := h.1 c8
          refine z_aload_n (i := 0) (c := 0) 2 d_M_rule_71 rfl rfl rfl ?_
          refine z_bipush (n := 7) d_M_rule_72 (by decide) (by decide) ?_
          refine z_cV (c := 0) (as := [(0, 7)]) (d' := 1) (st := []) d_M_rule_74 mi_M_refuse ml_M_87 mv_M_refuse se_M_refuse rfl rfl rfl rfl (ks_M_0 hx) rfl rfl (kl_M_0 hx) rfl rfl (b_M_refuse_0 hx ?_)
          intro _
          show z_U X 4 m_M_rule 77 [(4, (0, 1)), (3, (0, 1)), (0, (2, 0)), (1, (0, a1)), (2, (0, a2))] [(0, (-1))] N σ (z_up g 0 1 7) Q
          exact z_iret d_M_rule_77 rfl (by decide) (by decide) ⟨rfl, rfl, h⟩
theorem d_M_share_0 : decode (z_c m_M_share) 0 = .ok (.iload_n 1, 1) := by decide +kernel
theorem d_M_share_1 : decode (z_c m_M_share) 1 = .ok (.iload_n 2, 1) := by decide +kernel
theorem d_M_share_2 : decode (z_c m_M_share) 2 = .ok (.invokestatic 272, 3) := by decide +kernel
theorem d_M_share_5 : decode (z_c m_M_share) 5 = .ok (.ifCond .ne 9, 3) := by decide +kernel
theorem d_M_share_8 : decode (z_c m_M_share) 8 = .ok (.aload_n 0, 1) := by decide +kernel
theorem d_M_share_9 : decode (z_c m_M_share) 9 = .ok (.iconst 1, 1) := by decide +kernel
theorem d_M_share_10 : decode (z_c m_M_share) 10 = .ok (.invokevirtual 94, 3) := by decide +kernel
theorem d_M_share_13 : decode (z_c m_M_share) 13 = .ok (.ireturn, 1) := by decide +kernel
theorem d_M_share_14 : decode (z_c m_M_share) 14 = .ok (.aload_n 0, 1) := by decide +kernel
theorem d_M_share_15 : decode (z_c m_M_share) 15 = .ok (.getfield 7, 3) := by decide +kernel
theorem d_M_share_18 : decode (z_c m_M_share) 18 = .ok (.iconst 4, 1) := by decide +kernel
theorem d_M_share_19 : decode (z_c m_M_share) 19 = .ok (.iaload, 1) := by decide +kernel
theorem d_M_share_20 : decode (z_c m_M_share) 20 = .ok (.ifCond .ne 12, 3) := by decide +kernel
theorem d_M_share_23 : decode (z_c m_M_share) 23 = .ok (.aload_n 0, 1) := by decide +kernel
theorem d_M_share_24 : decode (z_c m_M_share) 24 = .ok (.bipush 6, 2) := by decide +kernel
theorem d_M_share_26 : decode (z_c m_M_share) 26 = .ok (.invokevirtual 94, 3) := by decide +kernel
theorem d_M_share_29 : decode (z_c m_M_share) 29 = .ok (.goto 21, 3) := by decide +kernel
theorem d_M_share_32 : decode (z_c m_M_share) 32 = .ok (.aload_n 0, 1) := by decide +kernel
theorem d_M_share_33 : decode (z_c m_M_share) 33 = .ok (.aload_n 0, 1) := by decide +kernel
theorem d_M_share_34 : decode (z_c m_M_share) 34 = .ok (.iload_n 1, 1) := by decide +kernel
theorem d_M_share_35 : decode (z_c m_M_share) 35 = .ok (.iload_n 2, 1) := by decide +kernel
theorem d_M_share_36 : decode (z_c m_M_share) 36 = .ok (.invokevirtual 257, 3) := by decide +kernel
theorem d_M_share_39 : decode (z_c m_M_share) 39 = .ok (.i2l, 1) := by decide +kernel
theorem d_M_share_40 : decode (z_c m_M_share) 40 = .ok (.aload_n 0, 1) := by decide +kernel
theorem d_M_share_41 : decode (z_c m_M_share) 41 = .ok (.iconst 1, 1) := by decide +kernel
theorem d_M_share_42 : decode (z_c m_M_share) 42 = .ok (.iconst 1, 1) := by decide +kernel
theorem d_M_share_43 : decode (z_c m_M_share) 43 = .ok (.invokevirtual 257, 3) := by decide +kernel
theorem d_M_share_46 : decode (z_c m_M_share) 46 = .ok (.i2l, 1) := by decide +kernel
theorem d_M_share_47 : decode (z_c m_M_share) 47 = .ok (.invokevirtual 253, 3) := by decide +kernel
theorem d_M_share_50 : decode (z_c m_M_share) 50 = .ok (.ireturn, 1) := by decide +kernel
set_option maxRecDepth 8000 in
theorem b_M_share_0 {X : z_X} {N : Nat} {σ g : z_G} {Q : z_P} {a1 a2 : Int} (hx : z_lay X N σ 0 z_SM z_RM) (h : ((a2 < 1) → Q 0 (z_up g 0 1 1)) ∧ (¬ (a2 < 1) → (((9999 < a2) → Q 0 (z_up g 0 1 1)) ∧ (¬ (9999 < a2) → (((a1 < 0) → Q 0 (z_up g 0 1 1)) ∧ (¬ (a1 < 0) → (((a2 < a1) → Q 0 (z_up g 0 1 1)) ∧ (¬ (a2 < a1) → ((((g 1 4) = 0) → Q 0 (z_up g 0 1 6)) ∧ (¬ ((g 1 4) = 0) → (z_O X 3 m_M_weightTo [(2, 0), (0, a1), (0, a2)] N σ g (fun r0 g0 => (z_O X 3 m_M_weightTo [(2, 0), (0, 1), (0, 1)] N σ g0 (fun r1 g1 => (z_O X 2 m_M_tellsBy [(2, 0), (1, r0), (1, r1)] N σ g1 (fun r2 g2 => (r2 = 0 ∨ r2 = 1) → Q r2 g2)))))))))))))))) : z_O X 4 m_M_share [(2, 0), (0, a1), (0, a2)] N σ g Q := by
  refine z_Oenter mi_M_share rfl (fun _ => ?_)
  show z_U X 4 m_M_share 0 [(0, (2, 0)), (1, (0, a1)), (2, (0, a2))] [] N σ g Q
  refine z_iload_n (i := 1) 1 d_M_share_0 rfl rfl ?_
  refine z_iload_n (i := 2) 2 d_M_share_1 rfl rfl ?_
  refine z_cS (as := [(0, a1), (0, a2)]) (d' := 1) (st := []) d_M_share_2 mi_M_isValue ml_M_272 ms_M_isValue rfl rfl rfl rfl rfl (b_M_isValue_0  ?_)
  refine ⟨fun c1 => ?_, fun c1 => ?_⟩
  · have h := h.1 c1
    intro _
    show z_U X 4 m_M_share 5 [(0, (2, 0)), (1, (0, a1)), (2, (0, a2))] [(0, 0)] N σ g Q
    refine z_if_ne (tgt := 14) d_M_share_5 (by decide) (fun c => absurd (by decide) c) (fun _ => ?_)
    refine z_aload_n (i := 0) (c := 0) 0 d_M_share_8 rfl rfl rfl ?_
    refine z_iconst (n := 1) d_M_share_9 (by decide) ?_
    refine z_cV (c := 0) (as := [(0, 1)]) (d' := 1) (st := []) d_M_share_10 mi_M_is ml_M_94 mv_M_is se_M_is rfl rfl rfl rfl (ks_M_0 hx) rfl rfl (kl_M_0 hx) rfl rfl (b_M_is_0 hx ?_)
    refine ⟨fun c => absurd c (by decide), fun _ => ?_⟩
    intro _
    show z_U X 4 m_M_share 13 [(0, (2, 0)), (1, (0, a1)), (2, (0, a2))] [(0, 0)] N σ (z_up g 0 1 1) Q
    exact z_zret d_M_share_13 rfl (by decide) (by decide) (by decide) ⟨rfl, rfl, h⟩
  · have h := h.2 c1
    refine ⟨fun c2 => ?_, fun c2 => ?_⟩
    · have h := h.1 c2
      intro _
      show z_U X 4 m_M_share 5 [(0, (2, 0)), (1, (0, a1)), (2, (0, a2))] [(0, 0)] N σ g Q
      refine z_if_ne (tgt := 14) d_M_share_5 (by decide) (fun c => absurd (by decide) c) (fun _ => ?_)
      refine z_aload_n (i := 0) (c := 0) 0 d_M_share_8 rfl rfl rfl ?_
      refine z_iconst (n := 1) d_M_share_9 (by decide) ?_
      refine z_cV (c := 0) (as := [(0, 1)]) (d' := 1) (st := []) d_M_share_10 mi_M_is ml_M_94 mv_M_is se_M_is rfl rfl rfl rfl (ks_M_0 hx) rfl rfl (kl_M_0 hx) rfl rfl (b_M_is_0 hx ?_)
      refine ⟨fun c => absurd c (by decide), fun _ => ?_⟩
      intro _
      show z_U X 4 m_M_share 13 [(0, (2, 0)), (1, (0, a1)), (2, (0, a2))] [(0, 0)] N σ (z_up g 0 1 1) Q
      exact z_zret d_M_share_13 rfl (by decide) (by decide) (by decide) ⟨rfl, rfl, h⟩
    · have h := h.2 c2
      refine ⟨fun c3 => ?_, fun c3 => ?_⟩
      · have h := h.1 c3
        intro _
        show z_U X 4 m_M_share 5 [(0, (2, 0)), (1, (0, a1)), (2, (0, a2))] [(0, 0)] N σ g Q
        refine z_if_ne (tgt := 14) d_M_share_5 (by decide) (fun c => absurd (by decide) c) (fun _ => ?_)
        refine z_aload_n (i := 0) (c := 0) 0 d_M_share_8 rfl rfl rfl ?_
        refine z_iconst (n := 1) d_M_share_9 (by decide) ?_
        refine z_cV (c := 0) (as := [(0, 1)]) (d' := 1) (st := []) d_M_share_10 mi_M_is ml_M_94 mv_M_is se_M_is rfl rfl rfl rfl (ks_M_0 hx) rfl rfl (kl_M_0 hx) rfl rfl (b_M_is_0 hx ?_)
        refine ⟨fun c => absurd c (by decide), fun _ => ?_⟩
        intro _
        show z_U X 4 m_M_share 13 [(0, (2, 0)), (1, (0, a1)), (2, (0, a2))] [(0, 0)] N σ (z_up g 0 1 1) Q
        exact z_zret d_M_share_13 rfl (by decide) (by decide) (by decide) ⟨rfl, rfl, h⟩
      · have h := h.2 c3
        refine ⟨fun c4 => ?_, fun c4 => ?_⟩
        · have h := h.1 c4
          intro _
          show z_U X 4 m_M_share 5 [(0, (2, 0)), (1, (0, a1)), (2, (0, a2))] [(0, 0)] N σ g Q
          refine z_if_ne (tgt := 14) d_M_share_5 (by decide) (fun c => absurd (by decide) c) (fun _ => ?_)
          refine z_aload_n (i := 0) (c := 0) 0 d_M_share_8 rfl rfl rfl ?_
          refine z_iconst (n := 1) d_M_share_9 (by decide) ?_
          refine z_cV (c := 0) (as := [(0, 1)]) (d' := 1) (st := []) d_M_share_10 mi_M_is ml_M_94 mv_M_is se_M_is rfl rfl rfl rfl (ks_M_0 hx) rfl rfl (kl_M_0 hx) rfl rfl (b_M_is_0 hx ?_)
          refine ⟨fun c => absurd c (by decide), fun _ => ?_⟩
          intro _
          show z_U X 4 m_M_share 13 [(0, (2, 0)), (1, (0, a1)), (2, (0, a2))] [(0, 0)] N σ (z_up g 0 1 1) Q
          exact z_zret d_M_share_13 rfl (by decide) (by decide) (by decide) ⟨rfl, rfl, h⟩
        · have h := h.2 c4
          intro _
          show z_U X 4 m_M_share 5 [(0, (2, 0)), (1, (0, a1)), (2, (0, a2))] [(0, 1)] N σ g Q
          refine z_if_ne (tgt := 14) d_M_share_5 (by decide) (fun _ => ?_) (fun c => absurd c (by decide))
          refine z_aload_n (i := 0) (c := 0) 0 d_M_share_14 rfl rfl rfl ?_
          refine z_getr (c := 0) (kI := 0) (r2 := 1) d_M_share_15 fd_M_at fl_M_7 rfl rfl rfl (ks_M_0 hx) (kl_M_0 hx) (kr_M_0_0 hx) ?_
          refine z_iconst (n := 4) d_M_share_18 (by decide) ?_
          refine z_iald (c := 1) (m := 3296) d_M_share_19 rfl (ks_M_1 hx) (kl_M_1 hx) rfl (by decide) (by decide) ?_
          refine z_if_ne (tgt := 32) d_M_share_20 (by decide) (fun c5 => ?_) (fun c5 => ?_)
          · have h := h.2 c5
            refine z_aload_n (i := 0) (c := 0) 0 d_M_share_32 rfl rfl rfl ?_
            refine z_aload_n (i := 0) (c := 0) 0 d_M_share_33 rfl rfl rfl ?_
            refine z_iload_n (i := 1) 1 d_M_share_34 rfl rfl ?_
            refine z_iload_n (i := 2) 2 d_M_share_35 rfl rfl ?_
            refine z_cV (c := 0) (as := [(0, a1), (0, a2)]) (d' := 3) (st := [(2, 0)]) d_M_share_36 mi_M_weightTo ml_M_257 mv_M_weightTo se_M_weightTo rfl rfl rfl rfl (ks_M_0 hx) rfl rfl (kl_M_0 hx) rfl rfl (z_Omono h (fun r0 g0 _ h hro => ?_))
            show z_U X 4 m_M_share 39 [(0, (2, 0)), (1, (0, a1)), (2, (0, a2))] [(0, r0), (2, 0)] N σ g0 Q
            refine z_i2l d_M_share_39 ?_
            refine z_aload_n (i := 0) (c := 0) 0 d_M_share_40 rfl rfl rfl ?_
            refine z_iconst (n := 1) d_M_share_41 (by decide) ?_
            refine z_iconst (n := 1) d_M_share_42 (by decide) ?_
            refine z_cV (c := 0) (as := [(0, 1), (0, 1)]) (d' := 3) (st := [(1, r0), (2, 0)]) d_M_share_43 mi_M_weightTo ml_M_257 mv_M_weightTo se_M_weightTo rfl rfl rfl rfl (ks_M_0 hx) rfl rfl (kl_M_0 hx) rfl rfl (z_Omono h (fun r1 g1 _ h hro => ?_))
            show z_U X 4 m_M_share 46 [(0, (2, 0)), (1, (0, a1)), (2, (0, a2))] [(0, r1), (1, r0), (2, 0)] N σ g1 Q
            refine z_i2l d_M_share_46 ?_
            refine z_cV (c := 0) (as := [(1, r0), (1, r1)]) (d' := 2) (st := []) d_M_share_47 mi_M_tellsBy ml_M_253 mv_M_tellsBy se_M_tellsBy rfl rfl rfl rfl (ks_M_0 hx) rfl rfl (kl_M_0 hx) rfl rfl (z_Omono h (fun r2 g2 _ h hro => ?_))
            have h := h (z_b01 hro)
            have hzr2 := z_b01 hro
            show z_U X 4 m_M_share 50 [(0, (2, 0)), (1, (0, a1)), (2, (0, a2))] [(0, r2)] N σ g2 Q
            exact z_zret d_M_share_50 rfl (by decide) (by decide) hzr2 ⟨rfl, rfl, h⟩
          · have h := h.1 c5
            refine z_aload_n (i := 0) (c := 0) 0 d_M_share_23 rfl rfl rfl ?_
            refine z_bipush (n := 6) d_M_share_24 (by decide) (by decide) ?_
            refine z_cV (c := 0) (as := [(0, 6)]) (d' := 1) (st := []) d_M_share_26 mi_M_is ml_M_94 mv_M_is se_M_is rfl rfl rfl rfl (ks_M_0 hx) rfl rfl (kl_M_0 hx) rfl rfl (b_M_is_0 hx ?_)
            refine ⟨fun c => absurd c (by decide), fun _ => ?_⟩
            intro _
            show z_U X 4 m_M_share 29 [(0, (2, 0)), (1, (0, a1)), (2, (0, a2))] [(0, 0)] N σ (z_up g 0 1 6) Q
            refine z_goto (tgt := 50) d_M_share_29 (by decide) ?_
            exact z_zret d_M_share_50 rfl (by decide) (by decide) (by decide) ⟨rfl, rfl, h⟩
theorem d_M_told_0 : decode (z_c m_M_told) 0 = .ok (.iload_n 1, 1) := by decide +kernel
theorem d_M_told_1 : decode (z_c m_M_told) 1 = .ok (.tableswitch 132 0 6 #[43, 54, 65, 76, 87, 100, 111], 43) := by decide +kernel
theorem d_M_told_44 : decode (z_c m_M_told) 44 = .ok (.aload_n 0, 1) := by decide +kernel
theorem d_M_told_45 : decode (z_c m_M_told) 45 = .ok (.aload_n 0, 1) := by decide +kernel
theorem d_M_told_46 : decode (z_c m_M_told) 46 = .ok (.getfield 7, 3) := by decide +kernel
theorem d_M_told_49 : decode (z_c m_M_told) 49 = .ok (.iconst 1, 1) := by decide +kernel
theorem d_M_told_50 : decode (z_c m_M_told) 50 = .ok (.iaload, 1) := by decide +kernel
theorem d_M_told_51 : decode (z_c m_M_told) 51 = .ok (.invokevirtual 91, 3) := by decide +kernel
theorem d_M_told_54 : decode (z_c m_M_told) 54 = .ok (.ireturn, 1) := by decide +kernel
theorem d_M_told_55 : decode (z_c m_M_told) 55 = .ok (.aload_n 0, 1) := by decide +kernel
theorem d_M_told_56 : decode (z_c m_M_told) 56 = .ok (.aload_n 0, 1) := by decide +kernel
theorem d_M_told_57 : decode (z_c m_M_told) 57 = .ok (.getfield 7, 3) := by decide +kernel
theorem d_M_told_60 : decode (z_c m_M_told) 60 = .ok (.iconst 0, 1) := by decide +kernel
theorem d_M_told_61 : decode (z_c m_M_told) 61 = .ok (.iaload, 1) := by decide +kernel
theorem d_M_told_62 : decode (z_c m_M_told) 62 = .ok (.invokevirtual 91, 3) := by decide +kernel
theorem d_M_told_65 : decode (z_c m_M_told) 65 = .ok (.ireturn, 1) := by decide +kernel
theorem d_M_told_66 : decode (z_c m_M_told) 66 = .ok (.aload_n 0, 1) := by decide +kernel
theorem d_M_told_67 : decode (z_c m_M_told) 67 = .ok (.aload_n 0, 1) := by decide +kernel
theorem d_M_told_68 : decode (z_c m_M_told) 68 = .ok (.getfield 7, 3) := by decide +kernel
theorem d_M_told_71 : decode (z_c m_M_told) 71 = .ok (.iconst 4, 1) := by decide +kernel
theorem d_M_told_72 : decode (z_c m_M_told) 72 = .ok (.iaload, 1) := by decide +kernel
theorem d_M_told_73 : decode (z_c m_M_told) 73 = .ok (.invokevirtual 91, 3) := by decide +kernel
theorem d_M_told_76 : decode (z_c m_M_told) 76 = .ok (.ireturn, 1) := by decide +kernel
theorem d_M_told_77 : decode (z_c m_M_told) 77 = .ok (.aload_n 0, 1) := by decide +kernel
theorem d_M_told_78 : decode (z_c m_M_told) 78 = .ok (.aload_n 0, 1) := by decide +kernel
theorem d_M_told_79 : decode (z_c m_M_told) 79 = .ok (.iconst 1, 1) := by decide +kernel
theorem d_M_told_80 : decode (z_c m_M_told) 80 = .ok (.iconst 1, 1) := by decide +kernel
theorem d_M_told_81 : decode (z_c m_M_told) 81 = .ok (.invokevirtual 257, 3) := by decide +kernel
theorem d_M_told_84 : decode (z_c m_M_told) 84 = .ok (.invokevirtual 91, 3) := by decide +kernel
theorem d_M_told_87 : decode (z_c m_M_told) 87 = .ok (.ireturn, 1) := by decide +kernel
theorem d_M_told_88 : decode (z_c m_M_told) 88 = .ok (.aload_n 0, 1) := by decide +kernel
theorem d_M_told_89 : decode (z_c m_M_told) 89 = .ok (.invokevirtual 250, 3) := by decide +kernel
theorem d_M_told_92 : decode (z_c m_M_told) 92 = .ok (.aload_n 0, 1) := by decide +kernel
theorem d_M_told_93 : decode (z_c m_M_told) 93 = .ok (.aload_n 0, 1) := by decide +kernel
theorem d_M_told_94 : decode (z_c m_M_told) 94 = .ok (.getfield 237, 3) := by decide +kernel
theorem d_M_told_97 : decode (z_c m_M_told) 97 = .ok (.invokevirtual 91, 3) := by decide +kernel
theorem d_M_told_100 : decode (z_c m_M_told) 100 = .ok (.ireturn, 1) := by decide +kernel
theorem d_M_told_101 : decode (z_c m_M_told) 101 = .ok (.aload_n 0, 1) := by decide +kernel
theorem d_M_told_102 : decode (z_c m_M_told) 102 = .ok (.aload_n 0, 1) := by decide +kernel
theorem d_M_told_103 : decode (z_c m_M_told) 103 = .ok (.getfield 7, 3) := by decide +kernel
theorem d_M_told_106 : decode (z_c m_M_told) 106 = .ok (.iconst 5, 1) := by decide +kernel
theorem d_M_told_107 : decode (z_c m_M_told) 107 = .ok (.iaload, 1) := by decide +kernel
theorem d_M_told_108 : decode (z_c m_M_told) 108 = .ok (.invokevirtual 91, 3) := by decide +kernel
theorem d_M_told_111 : decode (z_c m_M_told) 111 = .ok (.ireturn, 1) := by decide +kernel
theorem d_M_told_112 : decode (z_c m_M_told) 112 = .ok (.aload_n 0, 1) := by decide +kernel
theorem d_M_told_113 : decode (z_c m_M_told) 113 = .ok (.aload_n 0, 1) := by decide +kernel
theorem d_M_told_114 : decode (z_c m_M_told) 114 = .ok (.aload_n 0, 1) := by decide +kernel
theorem d_M_told_115 : decode (z_c m_M_told) 115 = .ok (.getfield 7, 3) := by decide +kernel
theorem d_M_told_118 : decode (z_c m_M_told) 118 = .ok (.iconst 2, 1) := by decide +kernel
theorem d_M_told_119 : decode (z_c m_M_told) 119 = .ok (.iaload, 1) := by decide +kernel
theorem d_M_told_120 : decode (z_c m_M_told) 120 = .ok (.aload_n 0, 1) := by decide +kernel
theorem d_M_told_121 : decode (z_c m_M_told) 121 = .ok (.getfield 7, 3) := by decide +kernel
theorem d_M_told_124 : decode (z_c m_M_told) 124 = .ok (.iconst 3, 1) := by decide +kernel
theorem d_M_told_125 : decode (z_c m_M_told) 125 = .ok (.iaload, 1) := by decide +kernel
theorem d_M_told_126 : decode (z_c m_M_told) 126 = .ok (.invokevirtual 260, 3) := by decide +kernel
theorem d_M_told_129 : decode (z_c m_M_told) 129 = .ok (.invokevirtual 91, 3) := by decide +kernel
theorem d_M_told_132 : decode (z_c m_M_told) 132 = .ok (.ireturn, 1) := by decide +kernel
theorem d_M_told_133 : decode (z_c m_M_told) 133 = .ok (.aload_n 0, 1) := by decide +kernel
theorem d_M_told_134 : decode (z_c m_M_told) 134 = .ok (.iconst 1, 1) := by decide +kernel
theorem d_M_told_135 : decode (z_c m_M_told) 135 = .ok (.invokevirtual 87, 3) := by decide +kernel
theorem d_M_told_138 : decode (z_c m_M_told) 138 = .ok (.ireturn, 1) := by decide +kernel
set_option maxRecDepth 8000 in
theorem b_M_told_0 {X : z_X} {N : Nat} {σ g : z_G} {Q : z_P} {a1 : Int} (hx : z_lay X N σ 0 z_SM z_RM) (h : ((a1 = 0) → Q (g 1 1) (z_up g 0 1 0)) ∧ ((a1 = 1) → Q (g 1 0) (z_up g 0 1 0)) ∧ ((a1 = 2) → Q (g 1 4) (z_up g 0 1 0)) ∧ ((a1 = 3) → (z_O X 3 m_M_weightTo [(2, 0), (0, 1), (0, 1)] N σ g (fun r0 g0 => Q r0 (z_up g0 0 1 0)))) ∧ ((a1 = 4) → (z_O X 2 m_M_lays [(2, 0), (0, g 1 1)] N σ g (fun r1 g1 => Q (g1 0 24) (z_up g1 0 1 0)))) ∧ ((a1 = 5) → Q (g 1 5) (z_up g 0 1 0)) ∧ ((a1 = 6) → (z_O X 2 m_M_depthOf [(2, 0), (0, g 1 2), (0, g 1 3)] N σ g (fun r2 g2 => Q r2 (z_up g2 0 1 0)))) ∧ ((¬ (a1 = 0) ∧ ¬ (a1 = 1) ∧ ¬ (a1 = 2) ∧ ¬ (a1 = 3) ∧ ¬ (a1 = 4) ∧ ¬ (a1 = 5) ∧ ¬ (a1 = 6)) → Q (-1) (z_up g 0 1 1))) : z_O X 4 m_M_told [(2, 0), (0, a1)] N σ g Q := by
  refine z_Oenter mi_M_told rfl (fun _ => ?_)
  show z_U X 4 m_M_told 0 [(0, (2, 0)), (1, (0, a1))] [] N σ g Q
  refine z_iload_n (i := 1) 1 d_M_told_0 rfl rfl ?_
  by_cases c2 : a1 = 0
  · have h := h.1 c2
    refine z_ti c2 ?_
    refine z_tab (off := 43) (tgt := 44) d_M_told_1 (by decide) (by decide) (by decide) (by decide) ?_
    refine z_aload_n (i := 0) (c := 0) 0 d_M_told_44 rfl rfl rfl ?_
    refine z_aload_n (i := 0) (c := 0) 0 d_M_told_45 rfl rfl rfl ?_
    refine z_getr (c := 0) (kI := 0) (r2 := 1) d_M_told_46 fd_M_at fl_M_7 rfl rfl rfl (ks_M_0 hx) (kl_M_0 hx) (kr_M_0_0 hx) ?_
    refine z_iconst (n := 1) d_M_told_49 (by decide) ?_
    refine z_iald (c := 1) (m := 3296) d_M_told_50 rfl (ks_M_1 hx) (kl_M_1 hx) rfl (by decide) (by decide) ?_
    refine z_cV (c := 0) (as := [(0, g 1 1)]) (d' := 1) (st := []) d_M_told_51 mi_M_gives ml_M_91 mv_M_gives se_M_gives rfl rfl rfl rfl (ks_M_0 hx) rfl rfl (kl_M_0 hx) rfl rfl (b_M_gives_0 hx ?_)
    intro _
    show z_U X 4 m_M_told 54 [(0, (2, 0)), (1, (0, a1))] [(0, g 1 1)] N σ (z_up g 0 1 0) Q
    exact z_iret d_M_told_54 rfl (by decide) (by decide) ⟨rfl, rfl, h⟩
  have h := h.2
  by_cases c3 : a1 = 1
  · have h := h.1 c3
    refine z_ti c3 ?_
    refine z_tab (off := 54) (tgt := 55) d_M_told_1 (by decide) (by decide) (by decide) (by decide) ?_
    refine z_aload_n (i := 0) (c := 0) 0 d_M_told_55 rfl rfl rfl ?_
    refine z_aload_n (i := 0) (c := 0) 0 d_M_told_56 rfl rfl rfl ?_
    refine z_getr (c := 0) (kI := 0) (r2 := 1) d_M_told_57 fd_M_at fl_M_7 rfl rfl rfl (ks_M_0 hx) (kl_M_0 hx) (kr_M_0_0 hx) ?_
    refine z_iconst (n := 0) d_M_told_60 (by decide) ?_
    refine z_iald (c := 1) (m := 3296) d_M_told_61 rfl (ks_M_1 hx) (kl_M_1 hx) rfl (by decide) (by decide) ?_
    refine z_cV (c := 0) (as := [(0, g 1 0)]) (d' := 1) (st := []) d_M_told_62 mi_M_gives ml_M_91 mv_M_gives se_M_gives rfl rfl rfl rfl (ks_M_0 hx) rfl rfl (kl_M_0 hx) rfl rfl (b_M_gives_0 hx ?_)
    intro _
    show z_U X 4 m_M_told 65 [(0, (2, 0)), (1, (0, a1))] [(0, g 1 0)] N σ (z_up g 0 1 0) Q
    exact z_iret d_M_told_65 rfl (by decide) (by decide) ⟨rfl, rfl, h⟩
  have h := h.2
  by_cases c4 : a1 = 2
  · have h := h.1 c4
    refine z_ti c4 ?_
    refine z_tab (off := 65) (tgt := 66) d_M_told_1 (by decide) (by decide) (by decide) (by decide) ?_
    refine z_aload_n (i := 0) (c := 0) 0 d_M_told_66 rfl rfl rfl ?_
    refine z_aload_n (i := 0) (c := 0) 0 d_M_told_67 rfl rfl rfl ?_
    refine z_getr (c := 0) (kI := 0) (r2 := 1) d_M_told_68 fd_M_at fl_M_7 rfl rfl rfl (ks_M_0 hx) (kl_M_0 hx) (kr_M_0_0 hx) ?_
    refine z_iconst (n := 4) d_M_told_71 (by decide) ?_
    refine z_iald (c := 1) (m := 3296) d_M_told_72 rfl (ks_M_1 hx) (kl_M_1 hx) rfl (by decide) (by decide) ?_
    refine z_cV (c := 0) (as := [(0, g 1 4)]) (d' := 1) (st := []) d_M_told_73 mi_M_gives ml_M_91 mv_M_gives se_M_gives rfl rfl rfl rfl (ks_M_0 hx) rfl rfl (kl_M_0 hx) rfl rfl (b_M_gives_0 hx ?_)
    intro _
    show z_U X 4 m_M_told 76 [(0, (2, 0)), (1, (0, a1))] [(0, g 1 4)] N σ (z_up g 0 1 0) Q
    exact z_iret d_M_told_76 rfl (by decide) (by decide) ⟨rfl, rfl, h⟩
  have h := h.2
  by_cases c5 : a1 = 3
  · have h := h.1 c5
    refine z_ti c5 ?_
    refine z_tab (off := 76) (tgt := 77) d_M_told_1 (by decide) (by decide) (by decide) (by decide) ?_
    refine z_aload_n (i := 0) (c := 0) 0 d_M_told_77 rfl rfl rfl ?_
    refine z_aload_n (i := 0) (c := 0) 0 d_M_told_78 rfl rfl rfl ?_
    refine z_iconst (n := 1) d_M_told_79 (by decide) ?_
    refine z_iconst (n := 1) d_M_told_80 (by decide) ?_
    refine z_cV (c := 0) (as := [(0, 1), (0, 1)]) (d' := 3) (st := [(2, 0)]) d_M_told_81 mi_M_weightTo ml_M_257 mv_M_weightTo se_M_weightTo rfl rfl rfl rfl (ks_M_0 hx) rfl rfl (kl_M_0 hx) rfl rfl (z_Omono h (fun r0 g0 _ h hro => ?_))
    show z_U X 4 m_M_told 84 [(0, (2, 0)), (1, (0, a1))] [(0, r0), (2, 0)] N σ g0 Q
    refine z_cV (c := 0) (as := [(0, r0)]) (d' := 1) (st := []) d_M_told_84 mi_M_gives ml_M_91 mv_M_gives se_M_gives rfl rfl rfl rfl (ks_M_0 hx) rfl rfl (kl_M_0 hx) rfl rfl (b_M_gives_0 hx ?_)
    intro _
    show z_U X 4 m_M_told 87 [(0, (2, 0)), (1, (0, a1))] [(0, r0)] N σ (z_up g0 0 1 0) Q
    exact z_iret d_M_told_87 rfl (by decide) (by decide) ⟨rfl, rfl, h⟩
  have h := h.2
  by_cases c6 : a1 = 4
  · have h := h.1 c6
    refine z_ti c6 ?_
    refine z_tab (off := 87) (tgt := 88) d_M_told_1 (by decide) (by decide) (by decide) (by decide) ?_
    refine z_aload_n (i := 0) (c := 0) 0 d_M_told_88 rfl rfl rfl ?_
    refine z_cV (c := 0) (as := []) (d' := 3) (st := []) d_M_told_89 mi_M_laysRow ml_M_250 mv_M_laysRow se_M_laysRow rfl rfl rfl rfl (ks_M_0 hx) rfl rfl (kl_M_0 hx) rfl rfl (b_M_laysRow_0 hx ?_)
    refine z_Omono h (fun r1 g1 _ h => ?_)
    intro _
    show z_U X 4 m_M_told 92 [(0, (2, 0)), (1, (0, a1))] [] N σ g1 Q
    refine z_aload_n (i := 0) (c := 0) 0 d_M_told_92 rfl rfl rfl ?_
    refine z_aload_n (i := 0) (c := 0) 0 d_M_told_93 rfl rfl rfl ?_
    refine z_geti (c := 0) (kI := 24) d_M_told_94 fd_M_many fl_M_237 (Or.inl rfl) rfl rfl (ks_M_0 hx) (kl_M_0 hx) ?_
    refine z_cV (c := 0) (as := [(0, g1 0 24)]) (d' := 1) (st := []) d_M_told_97 mi_M_gives ml_M_91 mv_M_gives se_M_gives rfl rfl rfl rfl (ks_M_0 hx) rfl rfl (kl_M_0 hx) rfl rfl (b_M_gives_0 hx ?_)
    intro _
    show z_U X 4 m_M_told 100 [(0, (2, 0)), (1, (0, a1))] [(0, g1 0 24)] N σ (z_up g1 0 1 0) Q
    exact z_iret d_M_told_100 rfl (by decide) (by decide) ⟨rfl, rfl, h⟩
  have h := h.2
  by_cases c7 : a1 = 5
  · have h := h.1 c7
    refine z_ti c7 ?_
    refine z_tab (off := 100) (tgt := 101) d_M_told_1 (by decide) (by decide) (by decide) (by decide) ?_
    refine z_aload_n (i := 0) (c := 0) 0 d_M_told_101 rfl rfl rfl ?_
    refine z_aload_n (i := 0) (c := 0) 0 d_M_told_102 rfl rfl rfl ?_
    refine z_getr (c := 0) (kI := 0) (r2 := 1) d_M_told_103 fd_M_at fl_M_7 rfl rfl rfl (ks_M_0 hx) (kl_M_0 hx) (kr_M_0_0 hx) ?_
    refine z_iconst (n := 5) d_M_told_106 (by decide) ?_
    refine z_iald (c := 1) (m := 3296) d_M_told_107 rfl (ks_M_1 hx) (kl_M_1 hx) rfl (by decide) (by decide) ?_
    refine z_cV (c := 0) (as := [(0, g 1 5)]) (d' := 1) (st := []) d_M_told_108 mi_M_gives ml_M_91 mv_M_gives se_M_gives rfl rfl rfl rfl (ks_M_0 hx) rfl rfl (kl_M_0 hx) rfl rfl (b_M_gives_0 hx ?_)
    intro _
    show z_U X 4 m_M_told 111 [(0, (2, 0)), (1, (0, a1))] [(0, g 1 5)] N σ (z_up g 0 1 0) Q
    exact z_iret d_M_told_111 rfl (by decide) (by decide) ⟨rfl, rfl, h⟩
  have h := h.2
  by_cases c8 : a1 = 6
  · have h := h.1 c8
    refine z_ti c8 ?_
    refine z_tab (off := 111) (tgt := 112) d_M_told_1 (by decide) (by decide) (by decide) (by decide) ?_
    refine z_aload_n (i := 0) (c := 0) 0 d_M_told_112 rfl rfl rfl ?_
    refine z_aload_n (i := 0) (c := 0) 0 d_M_told_113 rfl rfl rfl ?_
    refine z_aload_n (i := 0) (c := 0) 0 d_M_told_114 rfl rfl rfl ?_
    refine z_getr (c := 0) (kI := 0) (r2 := 1) d_M_told_115 fd_M_at fl_M_7 rfl rfl rfl (ks_M_0 hx) (kl_M_0 hx) (kr_M_0_0 hx) ?_
    refine z_iconst (n := 2) d_M_told_118 (by decide) ?_
    refine z_iald (c := 1) (m := 3296) d_M_told_119 rfl (ks_M_1 hx) (kl_M_1 hx) rfl (by decide) (by decide) ?_
    refine z_aload_n (i := 0) (c := 0) 0 d_M_told_120 rfl rfl rfl ?_
    refine z_getr (c := 0) (kI := 0) (r2 := 1) d_M_told_121 fd_M_at fl_M_7 rfl rfl rfl (ks_M_0 hx) (kl_M_0 hx) (kr_M_0_0 hx) ?_
    refine z_iconst (n := 3) d_M_told_124 (by decide) ?_
    refine z_iald (c := 1) (m := 3296) d_M_told_125 rfl (ks_M_1 hx) (kl_M_1 hx) rfl (by decide) (by decide) ?_
    refine z_cV (c := 0) (as := [(0, g 1 2), (0, g 1 3)]) (d' := 2) (st := [(2, 0)]) d_M_told_126 mi_M_depthOf ml_M_260 mv_M_depthOf se_M_depthOf rfl rfl rfl rfl (ks_M_0 hx) rfl rfl (kl_M_0 hx) rfl rfl (z_Omono h (fun r2 g2 _ h hro => ?_))
    show z_U X 4 m_M_told 129 [(0, (2, 0)), (1, (0, a1))] [(0, r2), (2, 0)] N σ g2 Q
    refine z_cV (c := 0) (as := [(0, r2)]) (d' := 1) (st := []) d_M_told_129 mi_M_gives ml_M_91 mv_M_gives se_M_gives rfl rfl rfl rfl (ks_M_0 hx) rfl rfl (kl_M_0 hx) rfl rfl (b_M_gives_0 hx ?_)
    intro _
    show z_U X 4 m_M_told 132 [(0, (2, 0)), (1, (0, a1))] [(0, r2)] N σ (z_up g2 0 1 0) Q
    exact z_iret d_M_told_132 rfl (by decide) (by decide) ⟨rfl, rfl, h⟩
  have h := h.2
  have h := h ⟨c2, c3, c4, c5, c6, c7, c8⟩
  refine z_tabo (tgt := 133) d_M_told_1 ((Int.lt_or_le a1 0).elim Or.inl (fun q => Or.inr (z_st (z_st (z_st (z_st (z_st (z_st (z_st q c2) c3) c4) c5) c6) c7) c8))) (by decide) ?_
  refine z_aload_n (i := 0) (c := 0) 0 d_M_told_133 rfl rfl rfl ?_
  refine z_iconst (n := 1) d_M_told_134 (by decide) ?_
  refine z_cV (c := 0) (as := [(0, 1)]) (d' := 1) (st := []) d_M_told_135 mi_M_refuse ml_M_87 mv_M_refuse se_M_refuse rfl rfl rfl rfl (ks_M_0 hx) rfl rfl (kl_M_0 hx) rfl rfl (b_M_refuse_0 hx ?_)
  intro _
  show z_U X 4 m_M_told 138 [(0, (2, 0)), (1, (0, a1))] [(0, (-1))] N σ (z_up g 0 1 1) Q
  exact z_iret d_M_told_138 rfl (by decide) (by decide) ⟨rfl, rfl, h⟩
theorem d_M_up_0 : decode (z_c m_M_up) 0 = .ok (.aload_n 0, 1) := by decide +kernel
theorem d_M_up_1 : decode (z_c m_M_up) 1 = .ok (.invokevirtual 338, 3) := by decide +kernel
theorem d_M_up_4 : decode (z_c m_M_up) 4 = .ok (.ifCond .eq 14, 3) := by decide +kernel
theorem d_M_up_7 : decode (z_c m_M_up) 7 = .ok (.aload_n 0, 1) := by decide +kernel
theorem d_M_up_8 : decode (z_c m_M_up) 8 = .ok (.aload_n 0, 1) := by decide +kernel
theorem d_M_up_9 : decode (z_c m_M_up) 9 = .ok (.invokevirtual 335, 3) := by decide +kernel
theorem d_M_up_12 : decode (z_c m_M_up) 12 = .ok (.invokevirtual 91, 3) := by decide +kernel
theorem d_M_up_15 : decode (z_c m_M_up) 15 = .ok (.goto 9, 3) := by decide +kernel
theorem d_M_up_18 : decode (z_c m_M_up) 18 = .ok (.aload_n 0, 1) := by decide +kernel
theorem d_M_up_19 : decode (z_c m_M_up) 19 = .ok (.bipush 6, 2) := by decide +kernel
theorem d_M_up_21 : decode (z_c m_M_up) 21 = .ok (.invokevirtual 87, 3) := by decide +kernel
theorem d_M_up_24 : decode (z_c m_M_up) 24 = .ok (.ireturn, 1) := by decide +kernel
set_option maxRecDepth 8000 in
theorem b_M_up_0 {X : z_X} {N : Nat} {σ g : z_G} {Q : z_P} (hx : z_lay X N σ 0 z_SM z_RM) (h : z_O X 3 m_M_goesUp [(2, 0)] N σ g (fun r0 g0 => (r0 = 0 ∨ r0 = 1) → (((r0 = 0) → Q (-1) (z_up g0 0 1 6)) ∧ (¬ (r0 = 0) → (z_O X 2 m_M_depthOf [(2, 0), (0, g0 1 2), (0, g0 1 3)] N σ g0 (fun r1 g1 => Q r1 (z_up g1 0 1 0))))))) : z_O X 4 m_M_up [(2, 0)] N σ g Q := by
  refine z_Oenter mi_M_up rfl (fun _ => ?_)
  show z_U X 4 m_M_up 0 [(0, (2, 0))] [] N σ g Q
  refine z_aload_n (i := 0) (c := 0) 0 d_M_up_0 rfl rfl rfl ?_
  refine z_cV (c := 0) (as := []) (d' := 3) (st := []) d_M_up_1 mi_M_goesUp ml_M_338 mv_M_goesUp se_M_goesUp rfl rfl rfl rfl (ks_M_0 hx) rfl rfl (kl_M_0 hx) rfl rfl (z_Omono h (fun r0 g0 _ h hro => ?_))
  have h := h (z_b01 hro)
  have hzr0 := z_b01 hro
  show z_U X 4 m_M_up 4 [(0, (2, 0))] [(0, r0)] N σ g0 Q
  refine z_if_eq (tgt := 18) d_M_up_4 (by decide) (fun c1 => ?_) (fun c1 => ?_)
  · have h := h.1 c1
    refine z_aload_n (i := 0) (c := 0) 0 d_M_up_18 rfl rfl rfl ?_
    refine z_bipush (n := 6) d_M_up_19 (by decide) (by decide) ?_
    refine z_cV (c := 0) (as := [(0, 6)]) (d' := 1) (st := []) d_M_up_21 mi_M_refuse ml_M_87 mv_M_refuse se_M_refuse rfl rfl rfl rfl (ks_M_0 hx) rfl rfl (kl_M_0 hx) rfl rfl (b_M_refuse_0 hx ?_)
    intro _
    show z_U X 4 m_M_up 24 [(0, (2, 0))] [(0, (-1))] N σ (z_up g0 0 1 6) Q
    exact z_iret d_M_up_24 rfl (by decide) (by decide) ⟨rfl, rfl, h⟩
  · have h := h.2 c1
    refine z_aload_n (i := 0) (c := 0) 0 d_M_up_7 rfl rfl rfl ?_
    refine z_aload_n (i := 0) (c := 0) 0 d_M_up_8 rfl rfl rfl ?_
    refine z_cV (c := 0) (as := []) (d' := 3) (st := [(2, 0)]) d_M_up_9 mi_M_depthNow ml_M_335 mv_M_depthNow se_M_depthNow rfl rfl rfl rfl (ks_M_0 hx) rfl rfl (kl_M_0 hx) rfl rfl (b_M_depthNow_0 hx ?_)
    refine z_Omono h (fun r1 g1 _ h => ?_)
    intro _
    show z_U X 4 m_M_up 12 [(0, (2, 0))] [(0, r1), (2, 0)] N σ g1 Q
    refine z_cV (c := 0) (as := [(0, r1)]) (d' := 1) (st := []) d_M_up_12 mi_M_gives ml_M_91 mv_M_gives se_M_gives rfl rfl rfl rfl (ks_M_0 hx) rfl rfl (kl_M_0 hx) rfl rfl (b_M_gives_0 hx ?_)
    intro _
    show z_U X 4 m_M_up 15 [(0, (2, 0))] [(0, r1)] N σ (z_up g1 0 1 0) Q
    refine z_goto (tgt := 24) d_M_up_15 (by decide) ?_
    exact z_iret d_M_up_24 rfl (by decide) (by decide) ⟨rfl, rfl, h⟩
theorem d_M_above_0 : decode (z_c m_M_above) 0 = .ok (.iload_n 1, 1) := by decide +kernel
theorem d_M_above_1 : decode (z_c m_M_above) 1 = .ok (.iload_n 2, 1) := by decide +kernel
theorem d_M_above_2 : decode (z_c m_M_above) 2 = .ok (.invokestatic 272, 3) := by decide +kernel
theorem d_M_above_5 : decode (z_c m_M_above) 5 = .ok (.ifCond .ne 9, 3) := by decide +kernel
theorem d_M_above_8 : decode (z_c m_M_above) 8 = .ok (.aload_n 0, 1) := by decide +kernel
theorem d_M_above_9 : decode (z_c m_M_above) 9 = .ok (.iconst 1, 1) := by decide +kernel
theorem d_M_above_10 : decode (z_c m_M_above) 10 = .ok (.invokevirtual 94, 3) := by decide +kernel
theorem d_M_above_13 : decode (z_c m_M_above) 13 = .ok (.ireturn, 1) := by decide +kernel
theorem d_M_above_14 : decode (z_c m_M_above) 14 = .ok (.aload_n 0, 1) := by decide +kernel
theorem d_M_above_15 : decode (z_c m_M_above) 15 = .ok (.iload_n 1, 1) := by decide +kernel
theorem d_M_above_16 : decode (z_c m_M_above) 16 = .ok (.iload_n 2, 1) := by decide +kernel
theorem d_M_above_17 : decode (z_c m_M_above) 17 = .ok (.invokevirtual 275, 3) := by decide +kernel
theorem d_M_above_20 : decode (z_c m_M_above) 20 = .ok (.istore_n 3, 1) := by decide +kernel
theorem d_M_above_21 : decode (z_c m_M_above) 21 = .ok (.aload_n 0, 1) := by decide +kernel
theorem d_M_above_22 : decode (z_c m_M_above) 22 = .ok (.aload_n 0, 1) := by decide +kernel
theorem d_M_above_23 : decode (z_c m_M_above) 23 = .ok (.iload_n 3, 1) := by decide +kernel
theorem d_M_above_24 : decode (z_c m_M_above) 24 = .ok (.iload_n 1, 1) := by decide +kernel
theorem d_M_above_25 : decode (z_c m_M_above) 25 = .ok (.iload_n 2, 1) := by decide +kernel
theorem d_M_above_26 : decode (z_c m_M_above) 26 = .ok (.invokevirtual 278, 3) := by decide +kernel
theorem d_M_above_29 : decode (z_c m_M_above) 29 = .ok (.ifCond .eq 9, 3) := by decide +kernel
theorem d_M_above_32 : decode (z_c m_M_above) 32 = .ok (.iload_n 3, 1) := by decide +kernel
theorem d_M_above_33 : decode (z_c m_M_above) 33 = .ok (.iconst 1, 1) := by decide +kernel
theorem d_M_above_34 : decode (z_c m_M_above) 34 = .ok (.iadd, 1) := by decide +kernel
theorem d_M_above_35 : decode (z_c m_M_above) 35 = .ok (.goto 4, 3) := by decide +kernel
theorem d_M_above_38 : decode (z_c m_M_above) 38 = .ok (.iload_n 3, 1) := by decide +kernel
theorem d_M_above_39 : decode (z_c m_M_above) 39 = .ok (.invokevirtual 269, 3) := by decide +kernel
theorem d_M_above_42 : decode (z_c m_M_above) 42 = .ok (.ireturn, 1) := by decide +kernel
set_option maxRecDepth 8000 in
theorem b_M_above_0 {X : z_X} {N : Nat} {σ g : z_G} {Q : z_P} {a1 a2 : Int} (hx : z_lay X N σ 0 z_SM z_RM) (h : ((a2 < 1) → Q 0 (z_up g 0 1 1)) ∧ (¬ (a2 < 1) → (((9999 < a2) → Q 0 (z_up g 0 1 1)) ∧ (¬ (9999 < a2) → (((a1 < 0) → Q 0 (z_up g 0 1 1)) ∧ (¬ (a1 < 0) → (((a2 < a1) → Q 0 (z_up g 0 1 1)) ∧ (¬ (a2 < a1) → (z_O X 4 m_M_lessThan [(2, 0), (0, a1), (0, a2)] N σ g (fun r0 g0 => ((((g0 0 24) ≤ r0) → (z_O X 3 m_M_tellsRow [(2, 0), (0, r0)] N σ g0 (fun r1 g1 => (r1 = 0 ∨ r1 = 1) → Q r1 g1))) ∧ (¬ ((g0 0 24) ≤ r0) → ((0 ≤ r0 ∧ r0 < 12233) ∧ ((-2147483648 ≤ ((g0 8 r0) * a2) ∧ ((g0 8 r0) * a2) ≤ 2147483647) ∧ ((-2147483648 ≤ (a1 * (g0 9 r0)) ∧ (a1 * (g0 9 r0)) ≤ 2147483647) ∧ (((((g0 8 r0) * a2) = (a1 * (g0 9 r0))) → ((-2147483648 ≤ (r0 + 1) ∧ (r0 + 1) ≤ 2147483647) ∧ (z_O X 3 m_M_tellsRow [(2, 0), (0, r0 + 1)] N σ g0 (fun r2 g2 => (r2 = 0 ∨ r2 = 1) → Q r2 g2)))) ∧ (¬ (((g0 8 r0) * a2) = (a1 * (g0 9 r0))) → (z_O X 3 m_M_tellsRow [(2, 0), (0, r0)] N σ g0 (fun r3 g3 => (r3 = 0 ∨ r3 = 1) → Q r3 g3))))))))))))))))))) : z_O X 5 m_M_above [(2, 0), (0, a1), (0, a2)] N σ g Q := by
  refine z_Oenter mi_M_above rfl (fun _ => ?_)
  show z_U X 5 m_M_above 0 [(0, (2, 0)), (1, (0, a1)), (2, (0, a2))] [] N σ g Q
  refine z_iload_n (i := 1) 1 d_M_above_0 rfl rfl ?_
  refine z_iload_n (i := 2) 2 d_M_above_1 rfl rfl ?_
  refine z_cS (as := [(0, a1), (0, a2)]) (d' := 1) (st := []) d_M_above_2 mi_M_isValue ml_M_272 ms_M_isValue rfl rfl rfl rfl rfl (b_M_isValue_0  ?_)
  refine ⟨fun c1 => ?_, fun c1 => ?_⟩
  · have h := h.1 c1
    intro _
    show z_U X 5 m_M_above 5 [(0, (2, 0)), (1, (0, a1)), (2, (0, a2))] [(0, 0)] N σ g Q
    refine z_if_ne (tgt := 14) d_M_above_5 (by decide) (fun c => absurd (by decide) c) (fun _ => ?_)
    refine z_aload_n (i := 0) (c := 0) 0 d_M_above_8 rfl rfl rfl ?_
    refine z_iconst (n := 1) d_M_above_9 (by decide) ?_
    refine z_cV (c := 0) (as := [(0, 1)]) (d' := 1) (st := []) d_M_above_10 mi_M_is ml_M_94 mv_M_is se_M_is rfl rfl rfl rfl (ks_M_0 hx) rfl rfl (kl_M_0 hx) rfl rfl (b_M_is_0 hx ?_)
    refine ⟨fun c => absurd c (by decide), fun _ => ?_⟩
    intro _
    show z_U X 5 m_M_above 13 [(0, (2, 0)), (1, (0, a1)), (2, (0, a2))] [(0, 0)] N σ (z_up g 0 1 1) Q
    exact z_zret d_M_above_13 rfl (by decide) (by decide) (by decide) ⟨rfl, rfl, h⟩
  · have h := h.2 c1
    refine ⟨fun c2 => ?_, fun c2 => ?_⟩
    · have h := h.1 c2
      intro _
      show z_U X 5 m_M_above 5 [(0, (2, 0)), (1, (0, a1)), (2, (0, a2))] [(0, 0)] N σ g Q
      refine z_if_ne (tgt := 14) d_M_above_5 (by decide) (fun c => absurd (by decide) c) (fun _ => ?_)
      refine z_aload_n (i := 0) (c := 0) 0 d_M_above_8 rfl rfl rfl ?_
      refine z_iconst (n := 1) d_M_above_9 (by decide) ?_
      refine z_cV (c := 0) (as := [(0, 1)]) (d' := 1) (st := []) d_M_above_10 mi_M_is ml_M_94 mv_M_is se_M_is rfl rfl rfl rfl (ks_M_0 hx) rfl rfl (kl_M_0 hx) rfl rfl (b_M_is_0 hx ?_)
      refine ⟨fun c => absurd c (by decide), fun _ => ?_⟩
      intro _
      show z_U X 5 m_M_above 13 [(0, (2, 0)), (1, (0, a1)), (2, (0, a2))] [(0, 0)] N σ (z_up g 0 1 1) Q
      exact z_zret d_M_above_13 rfl (by decide) (by decide) (by decide) ⟨rfl, rfl, h⟩
    · have h := h.2 c2
      refine ⟨fun c3 => ?_, fun c3 => ?_⟩
      · have h := h.1 c3
        intro _
        show z_U X 5 m_M_above 5 [(0, (2, 0)), (1, (0, a1)), (2, (0, a2))] [(0, 0)] N σ g Q
        refine z_if_ne (tgt := 14) d_M_above_5 (by decide) (fun c => absurd (by decide) c) (fun _ => ?_)
        refine z_aload_n (i := 0) (c := 0) 0 d_M_above_8 rfl rfl rfl ?_
        refine z_iconst (n := 1) d_M_above_9 (by decide) ?_
        refine z_cV (c := 0) (as := [(0, 1)]) (d' := 1) (st := []) d_M_above_10 mi_M_is ml_M_94 mv_M_is se_M_is rfl rfl rfl rfl (ks_M_0 hx) rfl rfl (kl_M_0 hx) rfl rfl (b_M_is_0 hx ?_)
        refine ⟨fun c => absurd c (by decide), fun _ => ?_⟩
        intro _
        show z_U X 5 m_M_above 13 [(0, (2, 0)), (1, (0, a1)), (2, (0, a2))] [(0, 0)] N σ (z_up g 0 1 1) Q
        exact z_zret d_M_above_13 rfl (by decide) (by decide) (by decide) ⟨rfl, rfl, h⟩
      · have h := h.2 c3
        refine ⟨fun c4 => ?_, fun c4 => ?_⟩
        · have h := h.1 c4
          intro _
          show z_U X 5 m_M_above 5 [(0, (2, 0)), (1, (0, a1)), (2, (0, a2))] [(0, 0)] N σ g Q
          refine z_if_ne (tgt := 14) d_M_above_5 (by decide) (fun c => absurd (by decide) c) (fun _ => ?_)
          refine z_aload_n (i := 0) (c := 0) 0 d_M_above_8 rfl rfl rfl ?_
          refine z_iconst (n := 1) d_M_above_9 (by decide) ?_
          refine z_cV (c := 0) (as := [(0, 1)]) (d' := 1) (st := []) d_M_above_10 mi_M_is ml_M_94 mv_M_is se_M_is rfl rfl rfl rfl (ks_M_0 hx) rfl rfl (kl_M_0 hx) rfl rfl (b_M_is_0 hx ?_)
          refine ⟨fun c => absurd c (by decide), fun _ => ?_⟩
          intro _
          show z_U X 5 m_M_above 13 [(0, (2, 0)), (1, (0, a1)), (2, (0, a2))] [(0, 0)] N σ (z_up g 0 1 1) Q
          exact z_zret d_M_above_13 rfl (by decide) (by decide) (by decide) ⟨rfl, rfl, h⟩
        · have h := h.2 c4
          intro _
          show z_U X 5 m_M_above 5 [(0, (2, 0)), (1, (0, a1)), (2, (0, a2))] [(0, 1)] N σ g Q
          refine z_if_ne (tgt := 14) d_M_above_5 (by decide) (fun _ => ?_) (fun c => absurd c (by decide))
          refine z_aload_n (i := 0) (c := 0) 0 d_M_above_14 rfl rfl rfl ?_
          refine z_iload_n (i := 1) 1 d_M_above_15 rfl rfl ?_
          refine z_iload_n (i := 2) 2 d_M_above_16 rfl rfl ?_
          refine z_cV (c := 0) (as := [(0, a1), (0, a2)]) (d' := 4) (st := []) d_M_above_17 mi_M_lessThan ml_M_275 mv_M_lessThan se_M_lessThan rfl rfl rfl rfl (ks_M_0 hx) rfl rfl (kl_M_0 hx) rfl rfl (z_Omono h (fun r0 g0 _ h hro => ?_))
          show z_U X 5 m_M_above 20 [(0, (2, 0)), (1, (0, a1)), (2, (0, a2))] [(0, r0)] N σ g0 Q
          refine z_istore_n (i := 3) (ls' := [(3, (0, r0)), (0, (2, 0)), (1, (0, a1)), (2, (0, a2))]) d_M_above_20 rfl rfl rfl ?_
          refine z_aload_n (i := 0) (c := 0) 1 d_M_above_21 rfl rfl rfl ?_
          refine z_aload_n (i := 0) (c := 0) 1 d_M_above_22 rfl rfl rfl ?_
          refine z_iload_n (i := 3) 0 d_M_above_23 rfl rfl ?_
          refine z_iload_n (i := 1) 2 d_M_above_24 rfl rfl ?_
          refine z_iload_n (i := 2) 3 d_M_above_25 rfl rfl ?_
          refine z_cV (c := 0) (as := [(0, r0), (0, a1), (0, a2)]) (d' := 1) (st := [(2, 0)]) d_M_above_26 mi_M_isAt ml_M_278 mv_M_isAt se_M_isAt rfl rfl rfl rfl (ks_M_0 hx) rfl rfl (kl_M_0 hx) rfl rfl (b_M_isAt_0 hx ?_)
          refine ⟨fun c5 => ?_, fun c5 => ?_⟩
          · have h := h.1 c5
            intro _
            show z_U X 5 m_M_above 29 [(3, (0, r0)), (0, (2, 0)), (1, (0, a1)), (2, (0, a2))] [(0, 0), (2, 0)] N σ g0 Q
            refine z_if_eq (tgt := 38) d_M_above_29 (by decide) (fun _ => ?_) (fun c => absurd (by decide) c)
            refine z_iload_n (i := 3) 0 d_M_above_38 rfl rfl ?_
            refine z_cV (c := 0) (as := [(0, r0)]) (d' := 3) (st := []) d_M_above_39 mi_M_tellsRow ml_M_269 mv_M_tellsRow se_M_tellsRow rfl rfl rfl rfl (ks_M_0 hx) rfl rfl (kl_M_0 hx) rfl rfl (z_Omono h (fun r1 g1 _ h hro => ?_))
            have h := h (z_b01 hro)
            have hzr1 := z_b01 hro
            show z_U X 5 m_M_above 42 [(3, (0, r0)), (0, (2, 0)), (1, (0, a1)), (2, (0, a2))] [(0, r1)] N σ g1 Q
            exact z_zret d_M_above_42 rfl (by decide) (by decide) hzr1 ⟨rfl, rfl, h⟩
          · have h := h.2 c5
            obtain ⟨c6, h⟩ := h
            refine ⟨c6, ?_⟩
            obtain ⟨c7, h⟩ := h
            refine ⟨c7, ?_⟩
            obtain ⟨c8, h⟩ := h
            refine ⟨c8, ?_⟩
            refine ⟨fun c9 => ?_, fun c9 => ?_⟩
            · have h := h.1 c9
              intro _
              show z_U X 5 m_M_above 29 [(3, (0, r0)), (0, (2, 0)), (1, (0, a1)), (2, (0, a2))] [(0, 1), (2, 0)] N σ g0 Q
              refine z_if_eq (tgt := 38) d_M_above_29 (by decide) (fun c => absurd c (by decide)) (fun _ => ?_)
              refine z_iload_n (i := 3) 0 d_M_above_32 rfl rfl ?_
              refine z_iconst (n := 1) d_M_above_33 (by decide) ?_
              obtain ⟨c10, h⟩ := h
              refine z_iadd d_M_above_34 c10 ?_
              refine z_goto (tgt := 39) d_M_above_35 (by decide) ?_
              refine z_cV (c := 0) (as := [(0, r0 + 1)]) (d' := 3) (st := []) d_M_above_39 mi_M_tellsRow ml_M_269 mv_M_tellsRow se_M_tellsRow rfl rfl rfl rfl (ks_M_0 hx) rfl rfl (kl_M_0 hx) rfl rfl (z_Omono h (fun r2 g2 _ h hro => ?_))
              have h := h (z_b01 hro)
              have hzr2 := z_b01 hro
              show z_U X 5 m_M_above 42 [(3, (0, r0)), (0, (2, 0)), (1, (0, a1)), (2, (0, a2))] [(0, r2)] N σ g2 Q
              exact z_zret d_M_above_42 rfl (by decide) (by decide) hzr2 ⟨rfl, rfl, h⟩
            · have h := h.2 c9
              intro _
              show z_U X 5 m_M_above 29 [(3, (0, r0)), (0, (2, 0)), (1, (0, a1)), (2, (0, a2))] [(0, 0), (2, 0)] N σ g0 Q
              refine z_if_eq (tgt := 38) d_M_above_29 (by decide) (fun _ => ?_) (fun c => absurd (by decide) c)
              refine z_iload_n (i := 3) 0 d_M_above_38 rfl rfl ?_
              refine z_cV (c := 0) (as := [(0, r0)]) (d' := 3) (st := []) d_M_above_39 mi_M_tellsRow ml_M_269 mv_M_tellsRow se_M_tellsRow rfl rfl rfl rfl (ks_M_0 hx) rfl rfl (kl_M_0 hx) rfl rfl (z_Omono h (fun r3 g3 _ h hro => ?_))
              have h := h (z_b01 hro)
              have hzr3 := z_b01 hro
              show z_U X 5 m_M_above 42 [(3, (0, r0)), (0, (2, 0)), (1, (0, a1)), (2, (0, a2))] [(0, r3)] N σ g3 Q
              exact z_zret d_M_above_42 rfl (by decide) (by decide) hzr3 ⟨rfl, rfl, h⟩

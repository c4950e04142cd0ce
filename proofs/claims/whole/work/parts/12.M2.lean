theorem d_M_ahead_0 : decode (z_c m_M_ahead) 0 = .ok (.iload_n 1, 1) := by decide +kernel
theorem d_M_ahead_1 : decode (z_c m_M_ahead) 1 = .ok (.iload_n 2, 1) := by decide +kernel
theorem d_M_ahead_2 : decode (z_c m_M_ahead) 2 = .ok (.invokestatic 272, 3) := by decide +kernel
theorem d_M_ahead_5 : decode (z_c m_M_ahead) 5 = .ok (.ifCond .eq 18, 3) := by decide +kernel
theorem d_M_ahead_8 : decode (z_c m_M_ahead) 8 = .ok (.aload_n 0, 1) := by decide +kernel
theorem d_M_ahead_9 : decode (z_c m_M_ahead) 9 = .ok (.aload_n 0, 1) := by decide +kernel
theorem d_M_ahead_10 : decode (z_c m_M_ahead) 10 = .ok (.iload_n 1, 1) := by decide +kernel
theorem d_M_ahead_11 : decode (z_c m_M_ahead) 11 = .ok (.iload_n 2, 1) := by decide +kernel
theorem d_M_ahead_12 : decode (z_c m_M_ahead) 12 = .ok (.invokevirtual 275, 3) := by decide +kernel
theorem d_M_ahead_15 : decode (z_c m_M_ahead) 15 = .ok (.iconst 1, 1) := by decide +kernel
theorem d_M_ahead_16 : decode (z_c m_M_ahead) 16 = .ok (.isub, 1) := by decide +kernel
theorem d_M_ahead_17 : decode (z_c m_M_ahead) 17 = .ok (.invokevirtual 269, 3) := by decide +kernel
theorem d_M_ahead_20 : decode (z_c m_M_ahead) 20 = .ok (.goto 8, 3) := by decide +kernel
theorem d_M_ahead_23 : decode (z_c m_M_ahead) 23 = .ok (.aload_n 0, 1) := by decide +kernel
theorem d_M_ahead_24 : decode (z_c m_M_ahead) 24 = .ok (.iconst 1, 1) := by decide +kernel
theorem d_M_ahead_25 : decode (z_c m_M_ahead) 25 = .ok (.invokevirtual 94, 3) := by decide +kernel
theorem d_M_ahead_28 : decode (z_c m_M_ahead) 28 = .ok (.ireturn, 1) := by decide +kernel
set_option maxRecDepth 8000 in
theorem b_M_ahead_0 {X : z_X} {N : Nat} {σ g : z_G} {Q : z_P} {a1 a2 : Int} (hx : z_lay X N σ 0 z_SM z_RM) (h : ((a2 < 1) → Q 0 (z_up g 0 1 1)) ∧ (¬ (a2 < 1) → (((9999 < a2) → Q 0 (z_up g 0 1 1)) ∧ (¬ (9999 < a2) → (((a1 < 0) → Q 0 (z_up g 0 1 1)) ∧ (¬ (a1 < 0) → (((a2 < a1) → Q 0 (z_up g 0 1 1)) ∧ (¬ (a2 < a1) → (z_O X 4 m_M_lessThan [(2, 0), (0, a1), (0, a2)] N σ g (fun r0 g0 => ((-2147483648 ≤ (r0 - 1) ∧ (r0 - 1) ≤ 2147483647) ∧ (z_O X 3 m_M_tellsRow [(2, 0), (0, r0 - 1)] N σ g0 (fun r1 g1 => (r1 = 0 ∨ r1 = 1) → Q r1 g1))))))))))))) : z_O X 5 m_M_ahead [(2, 0), (0, a1), (0, a2)] N σ g Q := by
  refine z_Oenter mi_M_ahead rfl (fun _ => ?_)
  show z_U X 5 m_M_ahead 0 [(0, (2, 0)), (1, (0, a1)), (2, (0, a2))] [] N σ g Q
  refine z_iload_n (i := 1) 1 d_M_ahead_0 rfl rfl ?_
  refine z_iload_n (i := 2) 2 d_M_ahead_1 rfl rfl ?_
  refine z_cS (as := [(0, a1), (0, a2)]) (d' := 1) (st := []) d_M_ahead_2 mi_M_isValue ml_M_272 ms_M_isValue rfl rfl rfl rfl rfl (b_M_isValue_0  ?_)
  refine ⟨fun c1 => ?_, fun c1 => ?_⟩
  · have h := h.1 c1
    intro _
    show z_U X 5 m_M_ahead 5 [(0, (2, 0)), (1, (0, a1)), (2, (0, a2))] [(0, 0)] N σ g Q
    refine z_if_eq (tgt := 23) d_M_ahead_5 (by decide) (fun _ => ?_) (fun c => absurd (by decide) c)
    refine z_aload_n (i := 0) (c := 0) 0 d_M_ahead_23 rfl rfl rfl ?_
    refine z_iconst (n := 1) d_M_ahead_24 (by decide) ?_
    refine z_cV (c := 0) (as := [(0, 1)]) (d' := 1) (st := []) d_M_ahead_25 mi_M_is ml_M_94 mv_M_is se_M_is rfl rfl rfl rfl (ks_M_0 hx) rfl rfl (kl_M_0 hx) rfl rfl (b_M_is_0 hx ?_)
    refine ⟨fun c => absurd c (by decide), fun _ => ?_⟩
    intro _
    show z_U X 5 m_M_ahead 28 [(0, (2, 0)), (1, (0, a1)), (2, (0, a2))] [(0, 0)] N σ (z_up g 0 1 1) Q
    exact z_zret d_M_ahead_28 rfl (by decide) (by decide) (by decide) ⟨rfl, rfl, h⟩
  · have h := h.2 c1
    refine ⟨fun c2 => ?_, fun c2 => ?_⟩
    · have h := h.1 c2
      intro _
      show z_U X 5 m_M_ahead 5 [(0, (2, 0)), (1, (0, a1)), (2, (0, a2))] [(0, 0)] N σ g Q
      refine z_if_eq (tgt := 23) d_M_ahead_5 (by decide) (fun _ => ?_) (fun c => absurd (by decide) c)
      refine z_aload_n (i := 0) (c := 0) 0 d_M_ahead_23 rfl rfl rfl ?_
      refine z_iconst (n := 1) d_M_ahead_24 (by decide) ?_
      refine z_cV (c := 0) (as := [(0, 1)]) (d' := 1) (st := []) d_M_ahead_25 mi_M_is ml_M_94 mv_M_is se_M_is rfl rfl rfl rfl (ks_M_0 hx) rfl rfl (kl_M_0 hx) rfl rfl (b_M_is_0 hx ?_)
      refine ⟨fun c => absurd c (by decide), fun _ => ?_⟩
      intro _
      show z_U X 5 m_M_ahead 28 [(0, (2, 0)), (1, (0, a1)), (2, (0, a2))] [(0, 0)] N σ (z_up g 0 1 1) Q
      exact z_zret d_M_ahead_28 rfl (by decide) (by decide) (by decide) ⟨rfl, rfl, h⟩
    · have h := h.2 c2
      refine ⟨fun c3 => ?_, fun c3 => ?_⟩
      · have h := h.1 c3
        intro _
        show z_U X 5 m_M_ahead 5 [(0, (2, 0)), (1, (0, a1)), (2, (0, a2))] [(0, 0)] N σ g Q
        refine z_if_eq (tgt := 23) d_M_ahead_5 (by decide) (fun _ => ?_) (fun c => absurd (by decide) c)
        refine z_aload_n (i := 0) (c := 0) 0 d_M_ahead_23 rfl rfl rfl ?_
        refine z_iconst (n := 1) d_M_ahead_24 (by decide) ?_
        refine z_cV (c := 0) (as := [(0, 1)]) (d' := 1) (st := []) d_M_ahead_25 mi_M_is ml_M_94 mv_M_is se_M_is rfl rfl rfl rfl (ks_M_0 hx) rfl rfl (kl_M_0 hx) rfl rfl (b_M_is_0 hx ?_)
        refine ⟨fun c => absurd c (by decide), fun _ => ?_⟩
        intro _
        show z_U X 5 m_M_ahead 28 [(0, (2, 0)), (1, (0, a1)), (2, (0, a2))] [(0, 0)] N σ (z_up g 0 1 1) Q
        exact z_zret d_M_ahead_28 rfl (by decide) (by decide) (by decide) ⟨rfl, rfl, h⟩
      · have h := h.2 c3
        refine ⟨fun c4 => ?_, fun c4 => ?_⟩
        · have h := h.1 c4
          intro _
          show z_U X 5 m_M_ahead 5 [(0, (2, 0)), (1, (0, a1)), (2, (0, a2))] [(0, 0)] N σ g Q
          refine z_if_eq (tgt := 23) d_M_ahead_5 (by decide) (fun _ => ?_) (fun c => absurd (by decide) c)
          refine z_aload_n (i := 0) (c := 0) 0 d_M_ahead_23 rfl rfl rfl ?_
          refine z_iconst (n := 1) d_M_ahead_24 (by decide) ?_
          refine z_cV (c := 0) (as := [(0, 1)]) (d' := 1) (st := []) d_M_ahead_25 mi_M_is ml_M_94 mv_M_is se_M_is rfl rfl rfl rfl (ks_M_0 hx) rfl rfl (kl_M_0 hx) rfl rfl (b_M_is_0 hx ?_)
          refine ⟨fun c => absurd c (by decide), fun _ => ?_⟩
          intro _
          show z_U X 5 m_M_ahead 28 [(0, (2, 0)), (1, (0, a1)), (2, (0, a2))] [(0, 0)] N σ (z_up g 0 1 1) Q
          exact z_zret d_M_ahead_28 rfl (by decide) (by decide) (by decide) ⟨rfl, rfl, h⟩
        · have h := h.2 c4
          intro _
          show z_U X 5 m_M_ahead 5 [(0, (2, 0)), (1, (0, a1)), (2, (0, a2))] [(0, 1)] N σ g Q
          refine z_if_eq (tgt := 23) d_M_ahead_5 (by decide) (fun c => absurd c (by decide)) (fun _ => ?_)
          refine z_aload_n (i := 0) (c := 0) 0 d_M_ahead_8 rfl rfl rfl ?_
          refine z_aload_n (i := 0) (c := 0) 0 d_M_ahead_9 rfl rfl rfl ?_
          refine z_iload_n (i := 1) 1 d_M_ahead_10 rfl rfl ?_
          refine z_iload_n (i := 2) 2 d_M_ahead_11 rfl rfl ?_
          refine z_cV (c := 0) (as := [(0, a1), (0, a2)]) (d' := 4) (st := [(2, 0)]) d_M_ahead_12 mi_M_lessThan ml_M_275 mv_M_lessThan se_M_lessThan rfl rfl rfl rfl (ks_M_0 hx) rfl rfl (kl_M_0 hx) rfl rfl (z_Omono h (fun r0 g0 _ h hro => ?_))
          show z_U X 5 m_M_ahead 15 [(0, (2, 0)), (1, (0, a1)), (2, (0, a2))] [(0, r0), (2, 0)] N σ g0 Q
          refine z_iconst (n := 1) d_M_ahead_15 (by decide) ?_
          obtain ⟨c5, h⟩ := h
          refine z_isub d_M_ahead_16 c5 ?_
          refine z_cV (c := 0) (as := [(0, r0 - 1)]) (d' := 3) (st := []) d_M_ahead_17 mi_M_tellsRow ml_M_269 mv_M_tellsRow se_M_tellsRow rfl rfl rfl rfl (ks_M_0 hx) rfl rfl (kl_M_0 hx) rfl rfl (z_Omono h (fun r1 g1 _ h hro => ?_))
          have h := h (z_b01 hro)
          have hzr1 := z_b01 hro
          show z_U X 5 m_M_ahead 20 [(0, (2, 0)), (1, (0, a1)), (2, (0, a2))] [(0, r1)] N σ g1 Q
          refine z_goto (tgt := 28) d_M_ahead_20 (by decide) ?_
          exact z_zret d_M_ahead_28 rfl (by decide) (by decide) hzr1 ⟨rfl, rfl, h⟩
theorem d_M_does_0 : decode (z_c m_M_does) 0 = .ok (.aload_n 0, 1) := by decide +kernel
theorem d_M_does_1 : decode (z_c m_M_does) 1 = .ok (.getfield 7, 3) := by decide +kernel
theorem d_M_does_4 : decode (z_c m_M_does) 4 = .ok (.iload_n 1, 1) := by decide +kernel
theorem d_M_does_5 : decode (z_c m_M_does) 5 = .ok (.iaload, 1) := by decide +kernel
theorem d_M_does_6 : decode (z_c m_M_does) 6 = .ok (.tableswitch 183 1 11 #[165, 183, 96, 183, 183, 58, 69, 80, 90, 134, 178], 58) := by decide +kernel
theorem d_M_does_64 : decode (z_c m_M_does) 64 = .ok (.aload_n 0, 1) := by decide +kernel
theorem d_M_does_65 : decode (z_c m_M_does) 65 = .ok (.iconst 1, 1) := by decide +kernel
theorem d_M_does_66 : decode (z_c m_M_does) 66 = .ok (.aload_n 0, 1) := by decide +kernel
theorem d_M_does_67 : decode (z_c m_M_does) 67 = .ok (.iconst 0, 1) := by decide +kernel
theorem d_M_does_68 : decode (z_c m_M_does) 68 = .ok (.invokevirtual 332, 3) := by decide +kernel
theorem d_M_does_71 : decode (z_c m_M_does) 71 = .ok (.invokevirtual 399, 3) := by decide +kernel
theorem d_M_does_74 : decode (z_c m_M_does) 74 = .ok (.ireturn, 1) := by decide +kernel
theorem d_M_does_75 : decode (z_c m_M_does) 75 = .ok (.aload_n 0, 1) := by decide +kernel
theorem d_M_does_76 : decode (z_c m_M_does) 76 = .ok (.iconst 1, 1) := by decide +kernel
theorem d_M_does_77 : decode (z_c m_M_does) 77 = .ok (.aload_n 0, 1) := by decide +kernel
theorem d_M_does_78 : decode (z_c m_M_does) 78 = .ok (.iconst 1, 1) := by decide +kernel
theorem d_M_does_79 : decode (z_c m_M_does) 79 = .ok (.invokevirtual 332, 3) := by decide +kernel
theorem d_M_does_82 : decode (z_c m_M_does) 82 = .ok (.invokevirtual 399, 3) := by decide +kernel
theorem d_M_does_85 : decode (z_c m_M_does) 85 = .ok (.ireturn, 1) := by decide +kernel
theorem d_M_does_86 : decode (z_c m_M_does) 86 = .ok (.aload_n 0, 1) := by decide +kernel
theorem d_M_does_87 : decode (z_c m_M_does) 87 = .ok (.iconst 1, 1) := by decide +kernel
theorem d_M_does_88 : decode (z_c m_M_does) 88 = .ok (.aload_n 0, 1) := by decide +kernel
theorem d_M_does_89 : decode (z_c m_M_does) 89 = .ok (.invokevirtual 338, 3) := by decide +kernel
theorem d_M_does_92 : decode (z_c m_M_does) 92 = .ok (.invokevirtual 399, 3) := by decide +kernel
theorem d_M_does_95 : decode (z_c m_M_does) 95 = .ok (.ireturn, 1) := by decide +kernel
theorem d_M_does_96 : decode (z_c m_M_does) 96 = .ok (.aload_n 0, 1) := by decide +kernel
theorem d_M_does_97 : decode (z_c m_M_does) 97 = .ok (.invokevirtual 341, 3) := by decide +kernel
theorem d_M_does_100 : decode (z_c m_M_does) 100 = .ok (.iconst 1, 1) := by decide +kernel
theorem d_M_does_101 : decode (z_c m_M_does) 101 = .ok (.ireturn, 1) := by decide +kernel
theorem d_M_does_102 : decode (z_c m_M_does) 102 = .ok (.aload_n 0, 1) := by decide +kernel
theorem d_M_does_103 : decode (z_c m_M_does) 103 = .ok (.iconst 2, 1) := by decide +kernel
theorem d_M_does_104 : decode (z_c m_M_does) 104 = .ok (.aload_n 0, 1) := by decide +kernel
theorem d_M_does_105 : decode (z_c m_M_does) 105 = .ok (.aload_n 0, 1) := by decide +kernel
theorem d_M_does_106 : decode (z_c m_M_does) 106 = .ok (.getfield 7, 3) := by decide +kernel
theorem d_M_does_109 : decode (z_c m_M_does) 109 = .ok (.iconst 2, 1) := by decide +kernel
theorem d_M_does_110 : decode (z_c m_M_does) 110 = .ok (.iaload, 1) := by decide +kernel
theorem d_M_does_111 : decode (z_c m_M_does) 111 = .ok (.aload_n 0, 1) := by decide +kernel
theorem d_M_does_112 : decode (z_c m_M_does) 112 = .ok (.getfield 7, 3) := by decide +kernel
theorem d_M_does_115 : decode (z_c m_M_does) 115 = .ok (.iconst 3, 1) := by decide +kernel
theorem d_M_does_116 : decode (z_c m_M_does) 116 = .ok (.iaload, 1) := by decide +kernel
theorem d_M_does_117 : decode (z_c m_M_does) 117 = .ok (.aload_n 0, 1) := by decide +kernel
theorem d_M_does_118 : decode (z_c m_M_does) 118 = .ok (.getfield 7, 3) := by decide +kernel
theorem d_M_does_121 : decode (z_c m_M_does) 121 = .ok (.iload_n 1, 1) := by decide +kernel
theorem d_M_does_122 : decode (z_c m_M_does) 122 = .ok (.iconst 1, 1) := by decide +kernel
theorem d_M_does_123 : decode (z_c m_M_does) 123 = .ok (.iadd, 1) := by decide +kernel
theorem d_M_does_124 : decode (z_c m_M_does) 124 = .ok (.iaload, 1) := by decide +kernel
theorem d_M_does_125 : decode (z_c m_M_does) 125 = .ok (.invokevirtual 357, 3) := by decide +kernel
theorem d_M_does_128 : decode (z_c m_M_does) 128 = .ok (.ifCond .ne 7, 3) := by decide +kernel
theorem d_M_does_131 : decode (z_c m_M_does) 131 = .ok (.iconst 1, 1) := by decide +kernel
theorem d_M_does_132 : decode (z_c m_M_does) 132 = .ok (.goto 4, 3) := by decide +kernel
theorem d_M_does_135 : decode (z_c m_M_does) 135 = .ok (.iconst 0, 1) := by decide +kernel
theorem d_M_does_136 : decode (z_c m_M_does) 136 = .ok (.invokevirtual 399, 3) := by decide +kernel
theorem d_M_does_139 : decode (z_c m_M_does) 139 = .ok (.ireturn, 1) := by decide +kernel
theorem d_M_does_140 : decode (z_c m_M_does) 140 = .ok (.aload_n 0, 1) := by decide +kernel
theorem d_M_does_141 : decode (z_c m_M_does) 141 = .ok (.iconst 3, 1) := by decide +kernel
theorem d_M_does_142 : decode (z_c m_M_does) 142 = .ok (.aload_n 0, 1) := by decide +kernel
theorem d_M_does_143 : decode (z_c m_M_does) 143 = .ok (.aload_n 0, 1) := by decide +kernel
theorem d_M_does_144 : decode (z_c m_M_does) 144 = .ok (.getfield 7, 3) := by decide +kernel
theorem d_M_does_147 : decode (z_c m_M_does) 147 = .ok (.iconst 2, 1) := by decide +kernel
theorem d_M_does_148 : decode (z_c m_M_does) 148 = .ok (.iaload, 1) := by decide +kernel
theorem d_M_does_149 : decode (z_c m_M_does) 149 = .ok (.aload_n 0, 1) := by decide +kernel
theorem d_M_does_150 : decode (z_c m_M_does) 150 = .ok (.getfield 7, 3) := by decide +kernel
theorem d_M_does_153 : decode (z_c m_M_does) 153 = .ok (.iconst 3, 1) := by decide +kernel
theorem d_M_does_154 : decode (z_c m_M_does) 154 = .ok (.iaload, 1) := by decide +kernel
theorem d_M_does_155 : decode (z_c m_M_does) 155 = .ok (.invokevirtual 360, 3) := by decide +kernel
theorem d_M_does_158 : decode (z_c m_M_does) 158 = .ok (.iconst (-1), 1) := by decide +kernel
theorem d_M_does_159 : decode (z_c m_M_does) 159 = .ok (.if_icmp .eq 7, 3) := by decide +kernel
theorem d_M_does_162 : decode (z_c m_M_does) 162 = .ok (.iconst 1, 1) := by decide +kernel
theorem d_M_does_163 : decode (z_c m_M_does) 163 = .ok (.goto 4, 3) := by decide +kernel
theorem d_M_does_166 : decode (z_c m_M_does) 166 = .ok (.iconst 0, 1) := by decide +kernel
theorem d_M_does_167 : decode (z_c m_M_does) 167 = .ok (.invokevirtual 399, 3) := by decide +kernel
theorem d_M_does_170 : decode (z_c m_M_does) 170 = .ok (.ireturn, 1) := by decide +kernel
theorem d_M_does_171 : decode (z_c m_M_does) 171 = .ok (.aload_n 0, 1) := by decide +kernel
theorem d_M_does_172 : decode (z_c m_M_does) 172 = .ok (.aload_n 0, 1) := by decide +kernel
theorem d_M_does_173 : decode (z_c m_M_does) 173 = .ok (.getfield 7, 3) := by decide +kernel
theorem d_M_does_176 : decode (z_c m_M_does) 176 = .ok (.iload_n 1, 1) := by decide +kernel
theorem d_M_does_177 : decode (z_c m_M_does) 177 = .ok (.iconst 1, 1) := by decide +kernel
theorem d_M_does_178 : decode (z_c m_M_does) 178 = .ok (.iadd, 1) := by decide +kernel
theorem d_M_does_179 : decode (z_c m_M_does) 179 = .ok (.iaload, 1) := by decide +kernel
theorem d_M_does_180 : decode (z_c m_M_does) 180 = .ok (.invokevirtual 402, 3) := by decide +kernel
theorem d_M_does_183 : decode (z_c m_M_does) 183 = .ok (.ireturn, 1) := by decide +kernel
theorem d_M_does_184 : decode (z_c m_M_does) 184 = .ok (.aload_n 0, 1) := by decide +kernel
theorem d_M_does_185 : decode (z_c m_M_does) 185 = .ok (.invokevirtual 405, 3) := by decide +kernel
theorem d_M_does_188 : decode (z_c m_M_does) 188 = .ok (.ireturn, 1) := by decide +kernel
theorem d_M_does_189 : decode (z_c m_M_does) 189 = .ok (.iconst 1, 1) := by decide +kernel
theorem d_M_does_190 : decode (z_c m_M_does) 190 = .ok (.ireturn, 1) := by decide +kernel
set_option maxRecDepth 8000 in
theorem b_M_does_0 {X : z_X} {N : Nat} {σ g : z_G} {Q : z_P} {a1 : Int} (hx : z_lay X N σ 0 z_SM z_RM) (h : (0 ≤ a1 ∧ a1 < 3296) ∧ ((((g 1 a1) = 1) → ((-2147483648 ≤ (a1 + 1) ∧ (a1 + 1) ≤ 2147483647) ∧ ((0 ≤ (a1 + 1) ∧ (a1 + 1) < 3296) ∧ ((((g 1 1) = (g 1 (a1 + 1))) → Q 0 g) ∧ (¬ ((g 1 1) = (g 1 (a1 + 1))) → Q 1 (z_up g 1 1 (g 1 (a1 + 1)))))))) ∧ (((g 1 a1) = 2) → Q 1 g) ∧ (((g 1 a1) = 3) → ((-2147483648 ≤ (a1 + 1) ∧ (a1 + 1) ≤ 2147483647) ∧ ((0 ≤ (a1 + 1) ∧ (a1 + 1) < 3296) ∧ (z_O X 3 m_M_pins [(2, 0), (0, g 1 2), (0, g 1 3), (0, g 1 (a1 + 1))] N σ g (fun r0 g0 => (((r0 = 0) → ((-2147483648 ≤ ((g0 16 2) + 1) ∧ ((g0 16 2) + 1) ≤ 2147483647) ∧ Q 1 (z_up g0 16 2 ((g0 16 2) + 1)))) ∧ (¬ (r0 = 0) → Q 0 g0))))))) ∧ (((g 1 a1) = 4) → Q 1 g) ∧ (((g 1 a1) = 5) → Q 1 g) ∧ (((g 1 a1) = 6) → (z_O X 3 m_M_goes [(2, 0), (0, 0)] N σ g (fun r1 g1 => (r1 = 0 ∨ r1 = 1) → (((r1 = 0) → ((r1 = 0 ∨ r1 = 1) ∧ Q r1 g1)) ∧ (¬ (r1 = 0) → ((-2147483648 ≤ ((g1 16 1) + 1) ∧ ((g1 16 1) + 1) ≤ 2147483647) ∧ ((r1 = 0 ∨ r1 = 1) ∧ Q r1 (z_up g1 16 1 ((g1 16 1) + 1))))))))) ∧ (((g 1 a1) = 7) → (z_O X 3 m_M_goes [(2, 0), (0, 1)] N σ g (fun r4 g4 => (r4 = 0 ∨ r4 = 1) → (((r4 = 0) → ((r4 = 0 ∨ r4 = 1) ∧ Q r4 g4)) ∧ (¬ (r4 = 0) → ((-2147483648 ≤ ((g4 16 1) + 1) ∧ ((g4 16 1) + 1) ≤ 2147483647) ∧ ((r4 = 0 ∨ r4 = 1) ∧ Q r4 (z_up g4 16 1 ((g4 16 1) + 1))))))))) ∧ (((g 1 a1) = 8) → (z_O X 3 m_M_goesUp [(2, 0)] N σ g (fun r7 g7 => (r7 = 0 ∨ r7 = 1) → (((r7 = 0) → ((r7 = 0 ∨ r7 = 1) ∧ Q r7 g7)) ∧ (¬ (r7 = 0) → ((-2147483648 ≤ ((g7 16 1) + 1) ∧ ((g7 16 1) + 1) ≤ 2147483647) ∧ ((r7 = 0 ∨ r7 = 1) ∧ Q r7 (z_up g7 16 1 ((g7 16 1) + 1))))))))) ∧ (((g 1 a1) = 9) → (z_O X 3 m_M_flips [(2, 0)] N σ g (fun r10 g10 => Q 1 g10))) ∧ (((g 1 a1) = 10) → (z_O X 3 m_M_lifts [(2, 0), (0, g 1 2), (0, g 1 3)] N σ g (fun r11 g11 => (((r11 = (-1)) → Q 0 g11) ∧ (¬ (r11 = (-1)) → ((-2147483648 ≤ ((g11 16 3) + 1) ∧ ((g11 16 3) + 1) ≤ 2147483647) ∧ Q 1 (z_up g11 16 3 ((g11 16 3) + 1)))))))) ∧ (((g 1 a1) = 11) → (z_O X 4 m_M_doesAny [(2, 0)] N σ g (fun r12 g12 => (r12 = 0 ∨ r12 = 1) → Q r12 g12))) ∧ ((¬ ((g 1 a1) = 1) ∧ ¬ ((g 1 a1) = 2) ∧ ¬ ((g 1 a1) = 3) ∧ ¬ ((g 1 a1) = 4) ∧ ¬ ((g 1 a1) = 5) ∧ ¬ ((g 1 a1) = 6) ∧ ¬ ((g 1 a1) = 7) ∧ ¬ ((g 1 a1) = 8) ∧ ¬ ((g 1 a1) = 9) ∧ ¬ ((g 1 a1) = 10) ∧ ¬ ((g 1 a1) = 11)) → Q 1 g))) : z_O X 5 m_M_does [(2, 0), (0, a1)] N σ g Q := by
  refine z_Oenter mi_M_does rfl (fun _ => ?_)
  show z_U X 5 m_M_does 0 [(0, (2, 0)), (1, (0, a1))] [] N σ g Q
  refine z_aload_n (i := 0) (c := 0) 0 d_M_does_0 rfl rfl rfl ?_
  refine z_getr (c := 0) (kI := 0) (r2 := 1) d_M_does_1 fd_M_at fl_M_7 rfl rfl rfl (ks_M_0 hx) (kl_M_0 hx) (kr_M_0_0 hx) ?_
  refine z_iload_n (i := 1) 1 d_M_does_4 rfl rfl ?_
  obtain ⟨c1, h⟩ := h
  refine z_iald (c := 1) (m := 3296) d_M_does_5 rfl (ks_M_1 hx) (kl_M_1 hx) rfl (by decide) c1 ?_
  by_cases c3 : (g 1 a1) = 1
  · have h := h.1 c3
    refine z_ti c3 ?_
    refine z_tab (off := 165) (tgt := 171) d_M_does_6 (by decide) (by decide) (by decide) (by decide) ?_
    refine z_aload_n (i := 0) (c := 0) 0 d_M_does_171 rfl rfl rfl ?_
    refine z_aload_n (i := 0) (c := 0) 0 d_M_does_172 rfl rfl rfl ?_
    refine z_getr (c := 0) (kI := 0) (r2 := 1) d_M_does_173 fd_M_at fl_M_7 rfl rfl rfl (ks_M_0 hx) (kl_M_0 hx) (kr_M_0_0 hx) ?_
    refine z_iload_n (i := 1) 1 d_M_does_176 rfl rfl ?_
    refine z_iconst (n := 1) d_M_does_177 (by decide) ?_
    obtain ⟨c4, h⟩ := h
    refine z_iadd d_M_does_178 c4 ?_
    obtain ⟨c5, h⟩ := h
    refine z_iald (c := 1) (m := 3296) d_M_does_179 rfl (ks_M_1 hx) (kl_M_1 hx) rfl (by decide) c5 ?_
    refine z_cV (c := 0) (as := [(0, g 1 (a1 + 1))]) (d' := 1) (st := []) d_M_does_180 mi_M_orders ml_M_402 mv_M_orders se_M_orders rfl rfl rfl rfl (ks_M_0 hx) rfl rfl (kl_M_0 hx) rfl rfl (b_M_orders_0 hx ?_)
    refine ⟨fun c6 => ?_, fun c6 => ?_⟩
    · have h := h.1 c6
      intro _
      show z_U X 5 m_M_does 183 [(0, (2, 0)), (1, (0, a1))] [(0, 0)] N σ g Q
      exact z_zret d_M_does_183 rfl (by decide) (by decide) (by decide) ⟨rfl, rfl, h⟩
    · have h := h.2 c6
      intro _
      show z_U X 5 m_M_does 183 [(0, (2, 0)), (1, (0, a1))] [(0, 1)] N σ (z_up g 1 1 (g 1 (a1 + 1))) Q
      exact z_zret d_M_does_183 rfl (by decide) (by decide) (by decide) ⟨rfl, rfl, h⟩
  have h := h.2
  by_cases c7 : (g 1 a1) = 2
  · have h := h.1 c7
    refine z_ti c7 ?_
    refine z_tab (off := 183) (tgt := 189) d_M_does_6 (by decide) (by decide) (by decide) (by decide) ?_
    refine z_iconst (n := 1) d_M_does_189 (by decide) ?_
    exact z_zret d_M_does_190 rfl (by decide) (by decide) (by decide) ⟨rfl, rfl, h⟩
  have h := h.2
  by_cases c8 : (g 1 a1) = 3
  · have h := h.1 c8
    refine z_ti c8 ?_
    refine z_tab (off := 96) (tgt := 102) d_M_does_6 (by decide) (by decide) (by decide) (by decide) ?_
    refine z_aload_n (i := 0) (c := 0) 0 d_M_does_102 rfl rfl rfl ?_
    refine z_iconst (n := 2) d_M_does_103 (by decide) ?_
    refine z_aload_n (i := 0) (c := 0) 0 d_M_does_104 rfl rfl rfl ?_
    refine z_aload_n (i := 0) (c := 0) 0 d_M_does_105 rfl rfl rfl ?_
    refine z_getr (c := 0) (kI := 0) (r2 := 1) d_M_does_106 fd_M_at fl_M_7 rfl rfl rfl (ks_M_0 hx) (kl_M_0 hx) (kr_M_0_0 hx) ?_
    refine z_iconst (n := 2) d_M_does_109 (by decide) ?_
    refine z_iald (c := 1) (m := 3296) d_M_does_110 rfl (ks_M_1 hx) (kl_M_1 hx) rfl (by decide) (by decide) ?_
    refine z_aload_n (i := 0) (c := 0) 0 d_M_does_111 rfl rfl rfl ?_
    refine z_getr (c := 0) (kI := 0) (r2 := 1) d_M_does_112 fd_M_at fl_M_7 rfl rfl rfl (ks_M_0 hx) (kl_M_0 hx) (kr_M_0_0 hx) ?_
    refine z_iconst (n := 3) d_M_does_115 (by decide) ?_
    refine z_iald (c := 1) (m := 3296) d_M_does_116 rfl (ks_M_1 hx) (kl_M_1 hx) rfl (by decide) (by decide) ?_
    refine z_aload_n (i := 0) (c := 0) 0 d_M_does_117 rfl rfl rfl ?_
    refine z_getr (c := 0) (kI := 0) (r2 := 1) d_M_does_118 fd_M_at fl_M_7 rfl rfl rfl (ks_M_0 hx) (kl_M_0 hx) (kr_M_0_0 hx) ?_
    refine z_iload_n (i := 1) 1 d_M_does_121 rfl rfl ?_
    refine z_iconst (n := 1) d_M_does_122 (by decide) ?_
    obtain ⟨c9, h⟩ := h
    refine z_iadd d_M_does_123 c9 ?_
    obtain ⟨c10, h⟩ := h
    refine z_iald (c := 1) (m := 3296) d_M_does_124 rfl (ks_M_1 hx) (kl_M_1 hx) rfl (by decide) c10 ?_
    refine z_cV (c := 0) (as := [(0, g 1 2), (0, g 1 3), (0, g 1 (a1 + 1))]) (d' := 3) (st := [(0, 2), (2, 0)]) d_M_does_125 mi_M_pins ml_M_357 mv_M_pins se_M_pins rfl rfl rfl rfl (ks_M_0 hx) rfl rfl (kl_M_0 hx) rfl rfl (z_Omono h (fun r0 g0 _ h hro => ?_))
    show z_U X 5 m_M_does 128 [(0, (2, 0)), (1, (0, a1))] [(0, r0), (0, 2), (2, 0)] N σ g0 Q
    refine z_if_ne (tgt := 135) d_M_does_128 (by decide) (fun c11 => ?_) (fun c11 => ?_)
    · have h := h.2 c11
      refine z_iconst (n := 0) d_M_does_135 (by decide) ?_
      refine z_cV (c := 0) (as := [(0, 2), (0, 0)]) (d' := 1) (st := []) d_M_does_136 mi_M_ranIf ml_M_399 mv_M_ranIf se_M_ranIf rfl rfl rfl rfl (ks_M_0 hx) rfl rfl (kl_M_0 hx) rfl rfl (b_M_ranIf_0 hx ?_)
      refine ⟨fun _ => ?_, fun c => absurd (by decide) c⟩
      refine ⟨by decide, ?_⟩
      intro _
      show z_U X 5 m_M_does 139 [(0, (2, 0)), (1, (0, a1))] [(0, 0)] N σ g0 Q
      exact z_zret d_M_does_139 rfl (by decide) (by decide) (by decide) ⟨rfl, rfl, h⟩
    · have h := h.1 c11
      refine z_iconst (n := 1) d_M_does_131 (by decide) ?_
      refine z_goto (tgt := 136) d_M_does_132 (by decide) ?_
      refine z_cV (c := 0) (as := [(0, 2), (0, 1)]) (d' := 1) (st := []) d_M_does_136 mi_M_ranIf ml_M_399 mv_M_ranIf se_M_ranIf rfl rfl rfl rfl (ks_M_0 hx) rfl rfl (kl_M_0 hx) rfl rfl (b_M_ranIf_0 hx ?_)
      refine ⟨fun c => absurd c (by decide), fun _ => ?_⟩
      refine ⟨by decide, ?_⟩
      obtain ⟨c12, h⟩ := h
      refine ⟨c12, ?_⟩
      refine ⟨by decide, ?_⟩
      intro _
      show z_U X 5 m_M_does 139 [(0, (2, 0)), (1, (0, a1))] [(0, 1)] N σ (z_up g0 16 2 ((g0 16 2) + 1)) Q
      exact z_zret d_M_does_139 rfl (by decide) (by decide) (by decide) ⟨rfl, rfl, h⟩
  have h := h.2
  by_cases c13 : (g 1 a1) = 4
  · have h := h.1 c13
    refine z_ti c13 ?_
    refine z_tab (off := 183) (tgt := 189) d_M_does_6 (by decide) (by decide) (by decide) (by decide) ?_
    refine z_iconst (n := 1) d_M_does_189 (by decide) ?_
    exact z_zret d_M_does_190 rfl (by decide) (by decide) (by decide) ⟨rfl, rfl, h⟩
  have h := h.2
  by_cases c14 : (g 1 a1) = 5
  · have h := h.1 c14
    refine z_ti c14 ?_
    refine z_tab (off := 183) (tgt := 189) d_M_does_6 (by decide) (by decide) (by decide) (by decide) ?_
    refine z_iconst (n := 1) d_M_does_189 (by decide) ?_
    exact z_zret d_M_does_190 rfl (by decide) (by decide) (by decide) ⟨rfl, rfl, h⟩
  have h := h.2
  by_cases c15 : (g 1 a1) = 6
  · have h := h.1 c15
    refine z_ti c15 ?_
    refine z_tab (off := 58) (tgt := 64) d_M_does_6 (by decide) (by decide) (by decide) (by decide) ?_
    refine z_aload_n (i := 0) (c := 0) 0 d_M_does_64 rfl rfl rfl ?_
    refine z_iconst (n := 1) d_M_does_65 (by decide) ?_
    refine z_aload_n (i := 0) (c := 0) 0 d_M_does_66 rfl rfl rfl ?_
    refine z_iconst (n := 0) d_M_does_67 (by decide) ?_
    refine z_cV (c := 0) (as := [(0, 0)]) (d' := 3) (st := [(0, 1), (2, 0)]) d_M_does_68 mi_M_goes ml_M_332 mv_M_goes se_M_goes rfl rfl rfl rfl (ks_M_0 hx) rfl rfl (kl_M_0 hx) rfl rfl (z_Omono h (fun r1 g1 _ h hro => ?_))
    have h := h (z_b01 hro)
    have hzr1 := z_b01 hro
    show z_U X 5 m_M_does 71 [(0, (2, 0)), (1, (0, a1))] [(0, r1), (0, 1), (2, 0)] N σ g1 Q
    refine z_cV (c := 0) (as := [(0, 1), (0, r1)]) (d' := 1) (st := []) d_M_does_71 mi_M_ranIf ml_M_399 mv_M_ranIf se_M_ranIf rfl rfl rfl rfl (ks_M_0 hx) rfl rfl (kl_M_0 hx) rfl rfl (b_M_ranIf_0 hx ?_)
    refine ⟨fun c16 => ?_, fun c16 => ?_⟩
    · have h := h.1 c16
      obtain ⟨c17, h⟩ := h
      refine ⟨c17, ?_⟩
      intro hro2
      show z_U X 5 m_M_does 74 [(0, (2, 0)), (1, (0, a1))] [(0, r1)] N σ g1 Q
      exact z_zret d_M_does_74 rfl (by decide) (by decide) (z_b01 hro2) ⟨rfl, rfl, h⟩
    · have h := h.2 c16
      refine ⟨by decide, ?_⟩
      obtain ⟨c18, h⟩ := h
      refine ⟨c18, ?_⟩
      obtain ⟨c19, h⟩ := h
      refine ⟨c19, ?_⟩
      intro hro3
      show z_U X 5 m_M_does 74 [(0, (2, 0)), (1, (0, a1))] [(0, r1)] N σ (z_up g1 16 1 ((g1 16 1) + 1)) Q
      exact z_zret d_M_does_74 rfl (by decide) (by decide) (z_b01 hro3) ⟨rfl, rfl, h⟩
  have h := h.2
  by_cases c20 : (g 1 a1) = 7
  · have h := h.1 c20
    refine z_ti c20 ?_
    refine z_tab (off := 69) (tgt := 75) d_M_does_6 (by decide) (by decide) (by decide) (by decide) ?_
    refine z_aload_n (i := 0) (c := 0) 0 d_M_does_75 rfl rfl rfl ?_
    refine z_iconst (n := 1) d_M_does_76 (by decide) ?_
    refine z_aload_n (i := 0) (c := 0) 0 d_M_does_77 rfl rfl rfl ?_
    refine z_iconst (n := 1) d_M_does_78 (by decide) ?_
    refine z_cV (c := 0) (as := [(0, 1)]) (d' := 3) (st := [(0, 1), (2, 0)]) d_M_does_79 mi_M_goes ml_M_332 mv_M_goes se_M_goes rfl rfl rfl rfl (ks_M_0 hx) rfl rfl (kl_M_0 hx) rfl rfl (z_Omono h (fun r4 g4 _ h hro => ?_))
    have h := h (z_b01 hro)
    have hzr4 := z_b01 hro
    show z_U X 5 m_M_does 82 [(0, (2, 0)), (1, (0, a1))] [(0, r4), (0, 1), (2, 0)] N σ g4 Q
    refine z_cV (c := 0) (as := [(0, 1), (0, r4)]) (d' := 1) (st := []) d_M_does_82 mi_M_ranIf ml_M_399 mv_M_ranIf se_M_ranIf rfl rfl rfl rfl (ks_M_0 hx) rfl rfl (kl_M_0 hx) rfl rfl (b_M_ranIf_0 hx ?_)
    refine ⟨fun c21 => ?_, fun c21 => ?_⟩
    · have h := h.1 c21
      obtain ⟨c22, h⟩ := h
      refine ⟨c22, ?_⟩
      intro hro5
      show z_U X 5 m_M_does 85 [(0, (2, 0)), (1, (0, a1))] [(0, r4)] N σ g4 Q
      exact z_zret d_M_does_85 rfl (by decide) (by decide) (z_b01 hro5) ⟨rfl, rfl, h⟩
    · have h := h.2 c21
      refine ⟨by decide, ?_⟩
      obtain ⟨c23, h⟩ := h
      refine ⟨c23, ?_⟩
      obtain ⟨c24, h⟩ := h
      refine ⟨c24, ?_⟩
      intro hro6
      show z_U X 5 m_M_does 85 [(0, (2, 0)), (1, (0, a1))] [(0, r4)] N σ (z_up g4 16 1 ((g4 16 1) + 1)) Q
      exact z_zret d_M_does_85 rfl (by decide) (by decide) (z_b01 hro6) ⟨rfl, rfl, h⟩
  have h := h.2
  by_cases c25 : (g 1 a1) = 8
  · have h := h.1 c25
    refine z_ti c25 ?_
    refine z_tab (off := 80) (tgt := 86) d_M_does_6 (by decide) (by decide) (by decide) (by decide) ?_
    refine z_aload_n (i := 0) (c := 0) 0 d_M_does_86 rfl rfl rfl ?_
    refine z_iconst (n := 1) d_M_does_87 (by decide) ?_
    refine z_aload_n (i := 0) (c := 0) 0 d_M_does_88 rfl rfl rfl ?_
    refine z_cV (c := 0) (as := []) (d' := 3) (st := [(0, 1), (2, 0)]) d_M_does_89 mi_M_goesUp ml_M_338 mv_M_goesUp se_M_goesUp rfl rfl rfl rfl (ks_M_0 hx) rfl rfl (kl_M_0 hx) rfl rfl (z_Omono h (fun r7 g7 _ h hro => ?_))
    have h := h (z_b01 hro)
    have hzr7 := z_b01 hro
    show z_U X 5 m_M_does 92 [(0, (2, 0)), (1, (0, a1))] [(0, r7), (0, 1), (2, 0)] N σ g7 Q
    refine z_cV (c := 0) (as := [(0, 1), (0, r7)]) (d' := 1) (st := []) d_M_does_92 mi_M_ranIf ml_M_399 mv_M_ranIf se_M_ranIf rfl rfl rfl rfl (ks_M_0 hx) rfl rfl (kl_M_0 hx) rfl rfl (b_M_ranIf_0 hx ?_)
    refine ⟨fun c26 => ?_, fun c26 => ?_⟩
    · have h := h.1 c26
      obtain ⟨c27, h⟩ := h
      refine ⟨c27, ?_⟩
      intro hro8
      show z_U X 5 m_M_does 95 [(0, (2, 0)), (1, (0, a1))] [(0, r7)] N σ g7 Q
      exact z_zret d_M_does_95 rfl (by decide) (by decide) (z_b01 hro8) ⟨rfl, rfl, h⟩
    · have h := h.2 c26
      refine ⟨by decide, ?_⟩
      obtain ⟨c28, h⟩ := h
      refine ⟨c28, ?_⟩
      obtain ⟨c29, h⟩ := h
      refine ⟨c29, ?_⟩
      intro hro9
      show z_U X 5 m_M_does 95 [(0, (2, 0)), (1, (0, a1))] [(0, r7)] N σ (z_up g7 16 1 ((g7 16 1) + 1)) Q
      exact z_zret d_M_does_95 rfl (by decide) (by decide) (z_b01 hro9) ⟨rfl, rfl, h⟩
  have h := h.2
  by_cases c30 : (g 1 a1) = 9
  · have h := h.1 c30
    refine z_ti c30 ?_
    refine z_tab (off := 90) (tgt := 96) d_M_does_6 (by decide) (by decide) (by decide) (by decide) ?_
    refine z_aload_n (i := 0) (c := 0) 0 d_M_does_96 rfl rfl rfl ?_
    refine z_cV (c := 0) (as := []) (d' := 3) (st := []) d_M_does_97 mi_M_flips ml_M_341 mv_M_flips se_M_flips rfl rfl rfl rfl (ks_M_0 hx) rfl rfl (kl_M_0 hx) rfl rfl (z_Omono h (fun r10 g10 _ h hro => ?_))
    show z_U X 5 m_M_does 100 [(0, (2, 0)), (1, (0, a1))] [] N σ g10 Q
    refine z_iconst (n := 1) d_M_does_100 (by decide) ?_
    exact z_zret d_M_does_101 rfl (by decide) (by decide) (by decide) ⟨rfl, rfl, h⟩
  have h := h.2
  by_cases c31 : (g 1 a1) = 10
  · have h := h.1 c31
    refine z_ti c31 ?_
    refine z_tab (off := 134) (tgt := 140) d_M_does_6 (by decide) (by decide) (by decide) (by decide) ?_
    refine z_aload_n (i := 0) (c := 0) 0 d_M_does_140 rfl rfl rfl ?_
    refine z_iconst (n := 3) d_M_does_141 (by decide) ?_
    refine z_aload_n (i := 0) (c := 0) 0 d_M_does_142 rfl rfl rfl ?_
    refine z_aload_n (i := 0) (c := 0) 0 d_M_does_143 rfl rfl rfl ?_
    refine z_getr (c := 0) (kI := 0) (r2 := 1) d_M_does_144 fd_M_at fl_M_7 rfl rfl rfl (ks_M_0 hx) (kl_M_0 hx) (kr_M_0_0 hx) ?_
    refine z_iconst (n := 2) d_M_does_147 (by decide) ?_
    refine z_iald (c := 1) (m := 3296) d_M_does_148 rfl (ks_M_1 hx) (kl_M_1 hx) rfl (by decide) (by decide) ?_
    refine z_aload_n (i := 0) (c := 0) 0 d_M_does_149 rfl rfl rfl ?_
    refine z_getr (c := 0) (kI := 0) (r2 := 1) d_M_does_150 fd_M_at fl_M_7 rfl rfl rfl (ks_M_0 hx) (kl_M_0 hx) (kr_M_0_0 hx) ?_
    refine z_iconst (n := 3) d_M_does_153 (by decide) ?_
    refine z_iald (c := 1) (m := 3296) d_M_does_154 rfl (ks_M_1 hx) (kl_M_1 hx) rfl (by decide) (by decide) ?_
    refine z_cV (c := 0) (as := [(0, g 1 2), (0, g 1 3)]) (d' := 3) (st := [(0, 3), (2, 0)]) d_M_does_155 mi_M_lifts ml_M_360 mv_M_lifts se_M_lifts rfl rfl rfl rfl (ks_M_0 hx) rfl rfl (kl_M_0 hx) rfl rfl (z_Omono h (fun r11 g11 _ h hro => ?_))
    show z_U X 5 m_M_does 158 [(0, (2, 0)), (1, (0, a1))] [(0, r11), (0, 3), (2, 0)] N σ g11 Q
    refine z_iconst (n := (-1)) d_M_does_158 (by decide) ?_
    refine z_icmp_eq (tgt := 166) d_M_does_159 (by decide) (fun c32 => ?_) (fun c32 => ?_)
    · have h := h.1 c32
      refine z_iconst (n := 0) d_M_does_166 (by decide) ?_
      refine z_cV (c := 0) (as := [(0, 3), (0, 0)]) (d' := 1) (st := []) d_M_does_167 mi_M_ranIf ml_M_399 mv_M_ranIf se_M_ranIf rfl rfl rfl rfl (ks_M_0 hx) rfl rfl (kl_M_0 hx) rfl rfl (b_M_ranIf_0 hx ?_)
      refine ⟨fun _ => ?_, fun c => absurd (by decide) c⟩
      refine ⟨by decide, ?_⟩
      intro _
      show z_U X 5 m_M_does 170 [(0, (2, 0)), (1, (0, a1))] [(0, 0)] N σ g11 Q
      exact z_zret d_M_does_170 rfl (by decide) (by decide) (by decide) ⟨rfl, rfl, h⟩
    · have h := h.2 c32
      refine z_iconst (n := 1) d_M_does_162 (by decide) ?_
      refine z_goto (tgt := 167) d_M_does_163 (by decide) ?_
      refine z_cV (c := 0) (as := [(0, 3), (0, 1)]) (d' := 1) (st := []) d_M_does_167 mi_M_ranIf ml_M_399 mv_M_ranIf se_M_ranIf rfl rfl rfl rfl (ks_M_0 hx) rfl rfl (kl_M_0 hx) rfl rfl (b_M_ranIf_0 hx ?_)
      refine ⟨fun c => absurd c (by decide), fun _ => ?_⟩
      refine ⟨by decide, ?_⟩
      obtain ⟨c33, h⟩ := h
      refine ⟨c33, ?_⟩
      refine ⟨by decide, ?_⟩
      intro _
      show z_U X 5 m_M_does 170 [(0, (2, 0)), (1, (0, a1))] [(0, 1)] N σ (z_up g11 16 3 ((g11 16 3) + 1)) Q
      exact z_zret d_M_does_170 rfl (by decide) (by decide) (by decide) ⟨rfl, rfl, h⟩
  have h := h.2
  by_cases c34 : (g 1 a1) = 11
  · have h := h.1 c34
    refine z_ti c34 ?_
    refine z_tab (off := 178) (tgt := 184) d_M_does_6 (by decide) (by decide) (by decide) (by decide) ?_
    refine z_aload_n (i := 0) (c := 0) 0 d_M_does_184 rfl rfl rfl ?_
    refine z_cV (c := 0) (as := []) (d' := 4) (st := []) d_M_does_185 mi_M_doesAny ml_M_405 mv_M_doesAny se_M_doesAny rfl rfl rfl rfl (ks_M_0 hx) rfl rfl (kl_M_0 hx) rfl rfl (z_Omono h (fun r12 g12 _ h hro => ?_))
    have h := h (z_b01 hro)
    have hzr12 := z_b01 hro
    show z_U X 5 m_M_does 188 [(0, (2, 0)), (1, (0, a1))] [(0, r12)] N σ g12 Q
    exact z_zret d_M_does_188 rfl (by decide) (by decide) hzr12 ⟨rfl, rfl, h⟩
  have h := h.2
  have h := h ⟨c3, c7, c8, c13, c14, c15, c20, c25, c30, c31, c34⟩
  refine z_tabo (tgt := 189) d_M_does_6 ((Int.lt_or_le (g 1 a1) 1).elim Or.inl (fun q => Or.inr (z_st (z_st (z_st (z_st (z_st (z_st (z_st (z_st (z_st (z_st (z_st q c3) c7) c8) c13) c14) c15) c20) c25) c30) c31) c34))) (by decide) ?_
  refine z_iconst (n := 1) d_M_does_189 (by decide) ?_
  exact z_zret d_M_does_190 rfl (by decide) (by decide) (by decide) ⟨rfl, rfl, h⟩
theorem d_M_gap_0 : decode (z_c m_M_gap) 0 = .ok (.iconst 0, 1) := by decide +kernel
theorem d_M_gap_1 : decode (z_c m_M_gap) 1 = .ok (.istore_n 1, 1) := by decide +kernel
theorem d_M_gap_2 : decode (z_c m_M_gap) 2 = .ok (.iconst 1, 1) := by decide +kernel
theorem d_M_gap_3 : decode (z_c m_M_gap) 3 = .ok (.istore_n 2, 1) := by decide +kernel
theorem d_M_gap_4 : decode (z_c m_M_gap) 4 = .ok (.lconst 0, 1) := by decide +kernel
theorem d_M_gap_5 : decode (z_c m_M_gap) 5 = .ok (.lstore_n 3, 1) := by decide +kernel
theorem d_M_gap_6 : decode (z_c m_M_gap) 6 = .ok (.lconst 1, 1) := by decide +kernel
theorem d_M_gap_7 : decode (z_c m_M_gap) 7 = .ok (.lstore 5, 2) := by decide +kernel
theorem d_M_gap_9 : decode (z_c m_M_gap) 9 = .ok (.iconst 0, 1) := by decide +kernel
theorem d_M_gap_10 : decode (z_c m_M_gap) 10 = .ok (.istore 7, 2) := by decide +kernel
theorem d_M_gap_12 : decode (z_c m_M_gap) 12 = .ok (.iload 7, 2) := by decide +kernel
theorem d_M_gap_14 : decode (z_c m_M_gap) 14 = .ok (.aload_n 0, 1) := by decide +kernel
theorem d_M_gap_15 : decode (z_c m_M_gap) 15 = .ok (.getfield 7, 3) := by decide +kernel
theorem d_M_gap_18 : decode (z_c m_M_gap) 18 = .ok (.iconst 4, 1) := by decide +kernel
theorem d_M_gap_19 : decode (z_c m_M_gap) 19 = .ok (.iaload, 1) := by decide +kernel
theorem d_M_gap_20 : decode (z_c m_M_gap) 20 = .ok (.if_icmp .gt 98, 3) := by decide +kernel
theorem d_M_gap_23 : decode (z_c m_M_gap) 23 = .ok (.aload_n 0, 1) := by decide +kernel
theorem d_M_gap_24 : decode (z_c m_M_gap) 24 = .ok (.iload 7, 2) := by decide +kernel
theorem d_M_gap_26 : decode (z_c m_M_gap) 26 = .ok (.invokevirtual 378, 3) := by decide +kernel
theorem d_M_gap_29 : decode (z_c m_M_gap) 29 = .ok (.istore 8, 2) := by decide +kernel
theorem d_M_gap_31 : decode (z_c m_M_gap) 31 = .ok (.iload 8, 2) := by decide +kernel
theorem d_M_gap_33 : decode (z_c m_M_gap) 33 = .ok (.iconst (-1), 1) := by decide +kernel
theorem d_M_gap_34 : decode (z_c m_M_gap) 34 = .ok (.if_icmp .ne 7, 3) := by decide +kernel
theorem d_M_gap_37 : decode (z_c m_M_gap) 37 = .ok (.iconst 1, 1) := by decide +kernel
theorem d_M_gap_38 : decode (z_c m_M_gap) 38 = .ok (.goto 9, 3) := by decide +kernel
theorem d_M_gap_41 : decode (z_c m_M_gap) 41 = .ok (.aload_n 0, 1) := by decide +kernel
theorem d_M_gap_42 : decode (z_c m_M_gap) 42 = .ok (.iload 8, 2) := by decide +kernel
theorem d_M_gap_44 : decode (z_c m_M_gap) 44 = .ok (.invokevirtual 366, 3) := by decide +kernel
theorem d_M_gap_47 : decode (z_c m_M_gap) 47 = .ok (.istore 9, 2) := by decide +kernel
theorem d_M_gap_49 : decode (z_c m_M_gap) 49 = .ok (.iload 8, 2) := by decide +kernel
theorem d_M_gap_51 : decode (z_c m_M_gap) 51 = .ok (.iconst (-1), 1) := by decide +kernel
theorem d_M_gap_52 : decode (z_c m_M_gap) 52 = .ok (.if_icmp .ne 7, 3) := by decide +kernel
theorem d_M_gap_55 : decode (z_c m_M_gap) 55 = .ok (.iconst 1, 1) := by decide +kernel
theorem d_M_gap_56 : decode (z_c m_M_gap) 56 = .ok (.goto 9, 3) := by decide +kernel
theorem d_M_gap_59 : decode (z_c m_M_gap) 59 = .ok (.aload_n 0, 1) := by decide +kernel
theorem d_M_gap_60 : decode (z_c m_M_gap) 60 = .ok (.iload 8, 2) := by decide +kernel
theorem d_M_gap_62 : decode (z_c m_M_gap) 62 = .ok (.invokevirtual 369, 3) := by decide +kernel
theorem d_M_gap_65 : decode (z_c m_M_gap) 65 = .ok (.istore 10, 2) := by decide +kernel
theorem d_M_gap_67 : decode (z_c m_M_gap) 67 = .ok (.iload 9, 2) := by decide +kernel
theorem d_M_gap_69 : decode (z_c m_M_gap) 69 = .ok (.iload_n 2, 1) := by decide +kernel
theorem d_M_gap_70 : decode (z_c m_M_gap) 70 = .ok (.imul, 1) := by decide +kernel
theorem d_M_gap_71 : decode (z_c m_M_gap) 71 = .ok (.iload_n 1, 1) := by decide +kernel
theorem d_M_gap_72 : decode (z_c m_M_gap) 72 = .ok (.iload 10, 2) := by decide +kernel
theorem d_M_gap_74 : decode (z_c m_M_gap) 74 = .ok (.imul, 1) := by decide +kernel
theorem d_M_gap_75 : decode (z_c m_M_gap) 75 = .ok (.isub, 1) := by decide +kernel
theorem d_M_gap_76 : decode (z_c m_M_gap) 76 = .ok (.i2l, 1) := by decide +kernel
theorem d_M_gap_77 : decode (z_c m_M_gap) 77 = .ok (.lstore 11, 2) := by decide +kernel
theorem d_M_gap_79 : decode (z_c m_M_gap) 79 = .ok (.iload_n 2, 1) := by decide +kernel
theorem d_M_gap_80 : decode (z_c m_M_gap) 80 = .ok (.iload 10, 2) := by decide +kernel
theorem d_M_gap_82 : decode (z_c m_M_gap) 82 = .ok (.imul, 1) := by decide +kernel
theorem d_M_gap_83 : decode (z_c m_M_gap) 83 = .ok (.i2l, 1) := by decide +kernel
theorem d_M_gap_84 : decode (z_c m_M_gap) 84 = .ok (.lstore 13, 2) := by decide +kernel
theorem d_M_gap_86 : decode (z_c m_M_gap) 86 = .ok (.lload 11, 2) := by decide +kernel
theorem d_M_gap_88 : decode (z_c m_M_gap) 88 = .ok (.lload 5, 2) := by decide +kernel
theorem d_M_gap_90 : decode (z_c m_M_gap) 90 = .ok (.lmul, 1) := by decide +kernel
theorem d_M_gap_91 : decode (z_c m_M_gap) 91 = .ok (.lload_n 3, 1) := by decide +kernel
theorem d_M_gap_92 : decode (z_c m_M_gap) 92 = .ok (.lload 13, 2) := by decide +kernel
theorem d_M_gap_94 : decode (z_c m_M_gap) 94 = .ok (.lmul, 1) := by decide +kernel
theorem d_M_gap_95 : decode (z_c m_M_gap) 95 = .ok (.lcmp, 1) := by decide +kernel
theorem d_M_gap_96 : decode (z_c m_M_gap) 96 = .ok (.ifCond .le 10, 3) := by decide +kernel
theorem d_M_gap_99 : decode (z_c m_M_gap) 99 = .ok (.lload 11, 2) := by decide +kernel
theorem d_M_gap_101 : decode (z_c m_M_gap) 101 = .ok (.lstore_n 3, 1) := by decide +kernel
theorem d_M_gap_102 : decode (z_c m_M_gap) 102 = .ok (.lload 13, 2) := by decide +kernel
theorem d_M_gap_104 : decode (z_c m_M_gap) 104 = .ok (.lstore 5, 2) := by decide +kernel
theorem d_M_gap_106 : decode (z_c m_M_gap) 106 = .ok (.iload 9, 2) := by decide +kernel
theorem d_M_gap_108 : decode (z_c m_M_gap) 108 = .ok (.istore_n 1, 1) := by decide +kernel
theorem d_M_gap_109 : decode (z_c m_M_gap) 109 = .ok (.iload 10, 2) := by decide +kernel
theorem d_M_gap_111 : decode (z_c m_M_gap) 111 = .ok (.istore_n 2, 1) := by decide +kernel
theorem d_M_gap_112 : decode (z_c m_M_gap) 112 = .ok (.iinc 7 1, 3) := by decide +kernel
theorem d_M_gap_115 : decode (z_c m_M_gap) 115 = .ok (.goto (-103), 3) := by decide +kernel
theorem d_M_gap_118 : decode (z_c m_M_gap) 118 = .ok (.aload_n 0, 1) := by decide +kernel
theorem d_M_gap_119 : decode (z_c m_M_gap) 119 = .ok (.lload_n 3, 1) := by decide +kernel
theorem d_M_gap_120 : decode (z_c m_M_gap) 120 = .ok (.lload 5, 2) := by decide +kernel
theorem d_M_gap_122 : decode (z_c m_M_gap) 122 = .ok (.invokevirtual 253, 3) := by decide +kernel
theorem d_M_gap_125 : decode (z_c m_M_gap) 125 = .ok (.ireturn, 1) := by decide +kernel
abbrev L_M_gap_12 (X : z_X) (N : Nat) (σ : z_G) (x1 x2 x3 x5 x7 : Int) (g : z_G) (Q : z_P) : Prop := z_U X 5 m_M_gap 12 [(0, (2, 0)), (1, (0, x1)), (2, (0, x2)), (3, (1, x3)), (5, (1, x5)), (7, (0, x7))] [] N σ g Q
set_option maxRecDepth 8000 in
theorem b_M_gap_0 {X : z_X} {N : Nat} {σ g : z_G} {Q : z_P} (hx : z_lay X N σ 0 z_SM z_RM) (h : L_M_gap_12 X N σ 0 1 0 1 0 g Q) : z_O X 5 m_M_gap [(2, 0)] N σ g Q := by
  refine z_Oenter mi_M_gap rfl (fun _ => ?_)
  show z_U X 5 m_M_gap 0 [(0, (2, 0))] [] N σ g Q
  refine z_iconst (n := 0) d_M_gap_0 (by decide) ?_
  refine z_istore_n (i := 1) (ls' := [(1, (0, 0)), (0, (2, 0))]) d_M_gap_1 rfl rfl rfl ?_
  refine z_iconst (n := 1) d_M_gap_2 (by decide) ?_
  refine z_istore_n (i := 2) (ls' := [(2, (0, 1)), (1, (0, 0)), (0, (2, 0))]) d_M_gap_3 rfl rfl rfl ?_
  refine z_lconst (v := 0) d_M_gap_4 (by decide) (by decide) ?_
  refine z_lstore_n (i := 3) (ls' := [(3, (1, 0)), (2, (0, 1)), (1, (0, 0)), (0, (2, 0))]) d_M_gap_5 rfl rfl rfl ?_
  refine z_lconst (v := 1) d_M_gap_6 (by decide) (by decide) ?_
  refine z_lstore (ls' := [(5, (1, 1)), (3, (1, 0)), (2, (0, 1)), (1, (0, 0)), (0, (2, 0))]) d_M_gap_7 rfl rfl ?_
  refine z_iconst (n := 0) d_M_gap_9 (by decide) ?_
  refine z_istore (ls' := [(7, (0, 0)), (5, (1, 1)), (3, (1, 0)), (2, (0, 1)), (1, (0, 0)), (0, (2, 0))]) d_M_gap_10 rfl rfl ?_
  refine z_sub (ls' := [(0, (2, 0)), (1, (0, 0)), (2, (0, 1)), (3, (1, 0)), (5, (1, 1)), (7, (0, 0))]) [5, 4, 3, 2, 1, 0] rfl ?_
  exact h
set_option maxRecDepth 8000 in
theorem b_M_gap_12 {X : z_X} {N : Nat} {σ g : z_G} {Q : z_P} {x1 x2 x3 x5 x7 : Int} (hx : z_lay X N σ 0 z_SM z_RM) (h : (((g 1 4) < x7) → (z_O X 2 m_M_tellsBy [(2, 0), (1, x3), (1, x5)] N σ g (fun r0 g0 => (r0 = 0 ∨ r0 = 1) → Q r0 g0))) ∧ (¬ ((g 1 4) < x7) → (z_O X 4 m_M_rising [(2, 0), (0, x7)] N σ g (fun r1 g1 => (((r1 = (-1)) → ((-2147483648 ≤ (1 * x2) ∧ (1 * x2) ≤ 2147483647) ∧ ((-2147483648 ≤ (x1 * 1) ∧ (x1 * 1) ≤ 2147483647) ∧ ((-2147483648 ≤ ((1 * x2) - (x1 * 1)) ∧ ((1 * x2) - (x1 * 1)) ≤ 2147483647) ∧ ((-2147483648 ≤ (x2 * 1) ∧ (x2 * 1) ≤ 2147483647) ∧ ((-9223372036854775808 ≤ (((1 * x2) - (x1 * 1)) * x5) ∧ (((1 * x2) - (x1 * 1)) * x5) ≤ 9223372036854775807) ∧ ((-9223372036854775808 ≤ (x3 * (x2 * 1)) ∧ (x3 * (x2 * 1)) ≤ 9223372036854775807) ∧ ((((((1 * x2) - (x1 * 1)) * x5) ≤ (x3 * (x2 * 1))) → ((-2147483648 ≤ (x7 + 1) ∧ (x7 + 1) ≤ 2147483647) ∧ L_M_gap_12 X N σ 1 1 x3 x5 (x7 + 1) g1 Q)) ∧ (¬ ((((1 * x2) - (x1 * 1)) * x5) ≤ (x3 * (x2 * 1))) → ((-2147483648 ≤ (x7 + 1) ∧ (x7 + 1) ≤ 2147483647) ∧ L_M_gap_12 X N σ 1 1 ((1 * x2) - (x1 * 1)) (x2 * 1) (x7 + 1) g1 Q)))))))))) ∧ (¬ (r1 = (-1)) → ((-2147483648 ≤ (3 * r1) ∧ (3 * r1) ≤ 2147483647) ∧ ((-2147483648 ≤ (10 + (3 * r1)) ∧ (10 + (3 * r1)) ≤ 2147483647) ∧ ((0 ≤ (10 + (3 * r1)) ∧ (10 + (3 * r1)) < 3296) ∧ ((-2147483648 ≤ ((10 + (3 * r1)) + 1) ∧ ((10 + (3 * r1)) + 1) ≤ 2147483647) ∧ ((0 ≤ ((10 + (3 * r1)) + 1) ∧ ((10 + (3 * r1)) + 1) < 3296) ∧ ((-2147483648 ≤ ((g1 1 (10 + (3 * r1))) * x2) ∧ ((g1 1 (10 + (3 * r1))) * x2) ≤ 2147483647) ∧ ((-2147483648 ≤ (x1 * (g1 1 ((10 + (3 * r1)) + 1))) ∧ (x1 * (g1 1 ((10 + (3 * r1)) + 1))) ≤ 2147483647) ∧ ((-2147483648 ≤ (((g1 1 (10 + (3 * r1))) * x2) - (x1 * (g1 1 ((10 + (3 * r1)) + 1)))) ∧ (((g1 1 (10 + (3 * r1))) * x2) - (x1 * (g1 1 ((10 + (3 * r1)) + 1)))) ≤ 2147483647) ∧ ((-2147483648 ≤ (x2 * (g1 1 ((10 + (3 * r1)) + 1))) ∧ (x2 * (g1 1 ((10 + (3 * r1)) + 1))) ≤ 2147483647) ∧ ((-9223372036854775808 ≤ ((((g1 1 (10 + (3 * r1))) * x2) - (x1 * (g1 1 ((10 + (3 * r1)) + 1)))) * x5) ∧ ((((g1 1 (10 + (3 * r1))) * x2) - (x1 * (g1 1 ((10 + (3 * r1)) + 1)))) * x5) ≤ 9223372036854775807) ∧ ((-9223372036854775808 ≤ (x3 * (x2 * (g1 1 ((10 + (3 * r1)) + 1)))) ∧ (x3 * (x2 * (g1 1 ((10 + (3 * r1)) + 1)))) ≤ 9223372036854775807) ∧ (((((((g1 1 (10 + (3 * r1))) * x2) - (x1 * (g1 1 ((10 + (3 * r1)) + 1)))) * x5) ≤ (x3 * (x2 * (g1 1 ((10 + (3 * r1)) + 1))))) → ((-2147483648 ≤ (x7 + 1) ∧ (x7 + 1) ≤ 2147483647) ∧ L_M_gap_12 X N σ (g1 1 (10 + (3 * r1))) (g1 1 ((10 + (3 * r1)) + 1)) x3 x5 (x7 + 1) g1 Q)) ∧ (¬ (((((g1 1 (10 + (3 * r1))) * x2) - (x1 * (g1 1 ((10 + (3 * r1)) + 1)))) * x5) ≤ (x3 * (x2 * (g1 1 ((10 + (3 * r1)) + 1))))) → ((-2147483648 ≤ (x7 + 1) ∧ (x7 + 1) ≤ 2147483647) ∧ L_M_gap_12 X N σ (g1 1 (10 + (3 * r1))) (g1 1 ((10 + (3 * r1)) + 1)) (((g1 1 (10 + (3 * r1))) * x2) - (x1 * (g1 1 ((10 + (3 * r1)) + 1)))) (x2 * (g1 1 ((10 + (3 * r1)) + 1))) (x7 + 1) g1 Q)))))))))))))))))))) : L_M_gap_12 X N σ x1 x2 x3 x5 x7 g Q := by
  refine z_iload 5 d_M_gap_12 rfl ?_
  refine z_aload_n (i := 0) (c := 0) 0 d_M_gap_14 rfl rfl rfl ?_
  refine z_getr (c := 0) (kI := 0) (r2 := 1) d_M_gap_15 fd_M_at fl_M_7 rfl rfl rfl (ks_M_0 hx) (kl_M_0 hx) (kr_M_0_0 hx) ?_
  refine z_iconst (n := 4) d_M_gap_18 (by decide) ?_
  refine z_iald (c := 1) (m := 3296) d_M_gap_19 rfl (ks_M_1 hx) (kl_M_1 hx) rfl (by decide) (by decide) ?_
  refine z_icmp_gt (tgt := 118) d_M_gap_20 (by decide) (fun c1 => ?_) (fun c1 => ?_)
  · have h := h.1 c1
    refine z_aload_n (i := 0) (c := 0) 0 d_M_gap_118 rfl rfl rfl ?_
    refine z_lload_n (i := 3) 3 d_M_gap_119 rfl rfl ?_
    refine z_lload 4 d_M_gap_120 rfl ?_
    refine z_cV (c := 0) (as := [(1, x3), (1, x5)]) (d' := 2) (st := []) d_M_gap_122 mi_M_tellsBy ml_M_253 mv_M_tellsBy se_M_tellsBy rfl rfl rfl rfl (ks_M_0 hx) rfl rfl (kl_M_0 hx) rfl rfl (z_Omono h (fun r0 g0 _ h hro => ?_))
    have h := h (z_b01 hro)
    have hzr0 := z_b01 hro
    show z_U X 5 m_M_gap 125 [(0, (2, 0)), (1, (0, x1)), (2, (0, x2)), (3, (1, x3)), (5, (1, x5)), (7, (0, x7))] [(0, r0)] N σ g0 Q
    exact z_zret d_M_gap_125 rfl (by decide) (by decide) hzr0 ⟨rfl, rfl, h⟩
  · have h := h.2 c1
    refine z_aload_n (i := 0) (c := 0) 0 d_M_gap_23 rfl rfl rfl ?_
    refine z_iload 5 d_M_gap_24 rfl ?_
    refine z_cV (c := 0) (as := [(0, x7)]) (d' := 4) (st := []) d_M_gap_26 mi_M_rising ml_M_378 mv_M_rising se_M_rising rfl rfl rfl rfl (ks_M_0 hx) rfl rfl (kl_M_0 hx) rfl rfl (z_Omono h (fun r1 g1 _ h hro => ?_))
    show z_U X 5 m_M_gap 29 [(0, (2, 0)), (1, (0, x1)), (2, (0, x2)), (3, (1, x3)), (5, (1, x5)), (7, (0, x7))] [(0, r1)] N σ g1 Q
    refine z_istore (ls' := [(8, (0, r1)), (0, (2, 0)), (1, (0, x1)), (2, (0, x2)), (3, (1, x3)), (5, (1, x5)), (7, (0, x7))]) d_M_gap_29 rfl rfl ?_
    refine z_iload 0 d_M_gap_31 rfl ?_
    refine z_iconst (n := (-1)) d_M_gap_33 (by decide) ?_
    refine z_icmp_ne (tgt := 41) d_M_gap_34 (by decide) (fun c2 => ?_) (fun c2 => ?_)
    · have h := h.2 c2
      refine z_aload_n (i := 0) (c := 0) 1 d_M_gap_41 rfl rfl rfl ?_
      refine z_iload 0 d_M_gap_42 rfl ?_
      refine z_cV (c := 0) (as := [(0, r1)]) (d' := 2) (st := []) d_M_gap_44 mi_M_topOf ml_M_366 mv_M_topOf se_M_topOf rfl rfl rfl rfl (ks_M_0 hx) rfl rfl (kl_M_0 hx) rfl rfl (b_M_topOf_0 hx ?_)
      obtain ⟨c3, h⟩ := h
      refine ⟨c3, ?_⟩
      obtain ⟨c4, h⟩ := h
      refine ⟨c4, ?_⟩
      obtain ⟨c5, h⟩ := h
      refine ⟨c5, ?_⟩
      intro _
      show z_U X 5 m_M_gap 47 [(8, (0, r1)), (0, (2, 0)), (1, (0, x1)), (2, (0, x2)), (3, (1, x3)), (5, (1, x5)), (7, (0, x7))] [(0, g1 1 (10 + (3 * r1)))] N σ g1 Q
      refine z_istore (ls' := [(9, (0, g1 1 (10 + (3 * r1)))), (8, (0, r1)), (0, (2, 0)), (1, (0, x1)), (2, (0, x2)), (3, (1, x3)), (5, (1, x5)), (7, (0, x7))]) d_M_gap_47 rfl rfl ?_
      refine z_iload 1 d_M_gap_49 rfl ?_
      refine z_iconst (n := (-1)) d_M_gap_51 (by decide) ?_
      refine z_icmp_ne (tgt := 59) d_M_gap_52 (by decide) (fun _ => ?_) (fun c => absurd c c2)
      refine z_aload_n (i := 0) (c := 0) 2 d_M_gap_59 rfl rfl rfl ?_
      refine z_iload 1 d_M_gap_60 rfl ?_
      refine z_cV (c := 0) (as := [(0, r1)]) (d' := 2) (st := []) d_M_gap_62 mi_M_bottomOf ml_M_369 mv_M_bottomOf se_M_bottomOf rfl rfl rfl rfl (ks_M_0 hx) rfl rfl (kl_M_0 hx) rfl rfl (b_M_bottomOf_0 hx ?_)
      refine ⟨c3, ?_⟩
      refine ⟨c4, ?_⟩
      obtain ⟨c6, h⟩ := h
      refine ⟨c6, ?_⟩
      obtain ⟨c7, h⟩ := h
      refine ⟨c7, ?_⟩
      intro _
      show z_U X 5 m_M_gap 65 [(9, (0, g1 1 (10 + (3 * r1)))), (8, (0, r1)), (0, (2, 0)), (1, (0, x1)), (2, (0, x2)), (3, (1, x3)), (5, (1, x5)), (7, (0, x7))] [(0, g1 1 ((10 + (3 * r1)) + 1))] N σ g1 Q
      refine z_istore (ls' := [(10, (0, g1 1 ((10 + (3 * r1)) + 1))), (9, (0, g1 1 (10 + (3 * r1)))), (8, (0, r1)), (0, (2, 0)), (1, (0, x1)), (2, (0, x2)), (3, (1, x3)), (5, (1, x5)), (7, (0, x7))]) d_M_gap_65 rfl rfl ?_
      refine z_iload 1 d_M_gap_67 rfl ?_
      refine z_iload_n (i := 2) 5 d_M_gap_69 rfl rfl ?_
      obtain ⟨c8, h⟩ := h
      refine z_imul d_M_gap_70 c8 ?_
      refine z_iload_n (i := 1) 4 d_M_gap_71 rfl rfl ?_
      refine z_iload 0 d_M_gap_72 rfl ?_
      obtain ⟨c9, h⟩ := h
      refine z_imul d_M_gap_74 c9 ?_
      obtain ⟨c10, h⟩ := h
      refine z_isub d_M_gap_75 c10 ?_
      refine z_i2l d_M_gap_76 ?_
      refine z_lstore (ls' := [(11, (1, ((g1 1 (10 + (3 * r1))) * x2) - (x1 * (g1 1 ((10 + (3 * r1)) + 1))))), (10, (0, g1 1 ((10 + (3 * r1)) + 1))), (9, (0, g1 1 (10 + (3 * r1)))), (8, (0, r1)), (0, (2, 0)), (1, (0, x1)), (2, (0, x2)), (3, (1, x3)), (5, (1, x5)), (7, (0, x7))]) d_M_gap_77 rfl rfl ?_
      refine z_iload_n (i := 2) 6 d_M_gap_79 rfl rfl ?_
      refine z_iload 1 d_M_gap_80 rfl ?_
      obtain ⟨c11, h⟩ := h
      refine z_imul d_M_gap_82 c11 ?_
      refine z_i2l d_M_gap_83 ?_
      refine z_lstore (ls' := [(13, (1, x2 * (g1 1 ((10 + (3 * r1)) + 1)))), (11, (1, ((g1 1 (10 + (3 * r1))) * x2) - (x1 * (g1 1 ((10 + (3 * r1)) + 1))))), (10, (0, g1 1 ((10 + (3 * r1)) + 1))), (9, (0, g1 1 (10 + (3 * r1)))), (8, (0, r1)), (0, (2, 0)), (1, (0, x1)), (2, (0, x2)), (3, (1, x3)), (5, (1, x5)), (7, (0, x7))]) d_M_gap_84 rfl rfl ?_
      refine z_lload 1 d_M_gap_86 rfl ?_
      refine z_lload 9 d_M_gap_88 rfl ?_
      obtain ⟨c12, h⟩ := h
      refine z_lmul d_M_gap_90 c12 ?_
      refine z_lload_n (i := 3) 8 d_M_gap_91 rfl rfl ?_
      refine z_lload 0 d_M_gap_92 rfl ?_
      obtain ⟨c13, h⟩ := h
      refine z_lmul d_M_gap_94 c13 ?_
      refine z_lcmp_le (tgt := 106) d_M_gap_95 d_M_gap_96 (by decide) (fun c14 => ?_) (fun c14 => ?_)
      · have h := h.1 c14
        refine z_iload 3 d_M_gap_106 rfl ?_
        refine z_istore_n (i := 1) (ls' := [(1, (0, g1 1 (10 + (3 * r1)))), (13, (1, x2 * (g1 1 ((10 + (3 * r1)) + 1)))), (11, (1, ((g1 1 (10 + (3 * r1))) * x2) - (x1 * (g1 1 ((10 + (3 * r1)) + 1))))), (10, (0, g1 1 ((10 + (3 * r1)) + 1))), (9, (0, g1 1 (10 + (3 * r1)))), (8, (0, r1)), (0, (2, 0)), (2, (0, x2)), (3, (1, x3)), (5, (1, x5)), (7, (0, x7))]) d_M_gap_108 rfl rfl rfl ?_
        refine z_iload 3 d_M_gap_109 rfl ?_
        refine z_istore_n (i := 2) (ls' := [(2, (0, g1 1 ((10 + (3 * r1)) + 1))), (1, (0, g1 1 (10 + (3 * r1)))), (13, (1, x2 * (g1 1 ((10 + (3 * r1)) + 1)))), (11, (1, ((g1 1 (10 + (3 * r1))) * x2) - (x1 * (g1 1 ((10 + (3 * r1)) + 1))))), (10, (0, g1 1 ((10 + (3 * r1)) + 1))), (9, (0, g1 1 (10 + (3 * r1)))), (8, (0, r1)), (0, (2, 0)), (3, (1, x3)), (5, (1, x5)), (7, (0, x7))]) d_M_gap_111 rfl rfl rfl ?_
        obtain ⟨c15, h⟩ := h
        refine z_iinc (n := 1) (ls' := [(7, (0, x7 + 1)), (2, (0, g1 1 ((10 + (3 * r1)) + 1))), (1, (0, g1 1 (10 + (3 * r1)))), (13, (1, x2 * (g1 1 ((10 + (3 * r1)) + 1)))), (11, (1, ((g1 1 (10 + (3 * r1))) * x2) - (x1 * (g1 1 ((10 + (3 * r1)) + 1))))), (10, (0, g1 1 ((10 + (3 * r1)) + 1))), (9, (0, g1 1 (10 + (3 * r1)))), (8, (0, r1)), (0, (2, 0)), (3, (1, x3)), (5, (1, x5))]) 10 d_M_gap_112 rfl c15 rfl rfl ?_
        refine z_goto (tgt := 12) d_M_gap_115 (by decide) ?_
        refine z_sub (ls' := [(0, (2, 0)), (1, (0, g1 1 (10 + (3 * r1)))), (2, (0, g1 1 ((10 + (3 * r1)) + 1))), (3, (1, x3)), (5, (1, x5)), (7, (0, x7 + 1))]) [8, 2, 1, 9, 10, 0] rfl ?_
        exact h
      · have h := h.2 c14
        refine z_lload 1 d_M_gap_99 rfl ?_
        refine z_lstore_n (i := 3) (ls' := [(3, (1, ((g1 1 (10 + (3 * r1))) * x2) - (x1 * (g1 1 ((10 + (3 * r1)) + 1))))), (13, (1, x2 * (g1 1 ((10 + (3 * r1)) + 1)))), (11, (1, ((g1 1 (10 + (3 * r1))) * x2) - (x1 * (g1 1 ((10 + (3 * r1)) + 1))))), (10, (0, g1 1 ((10 + (3 * r1)) + 1))), (9, (0, g1 1 (10 + (3 * r1)))), (8, (0, r1)), (0, (2, 0)), (1, (0, x1)), (2, (0, x2)), (5, (1, x5)), (7, (0, x7))]) d_M_gap_101 rfl rfl rfl ?_
        refine z_lload 1 d_M_gap_102 rfl ?_
        refine z_lstore (ls' := [(5, (1, x2 * (g1 1 ((10 + (3 * r1)) + 1)))), (3, (1, ((g1 1 (10 + (3 * r1))) * x2) - (x1 * (g1 1 ((10 + (3 * r1)) + 1))))), (13, (1, x2 * (g1 1 ((10 + (3 * r1)) + 1)))), (11, (1, ((g1 1 (10 + (3 * r1))) * x2) - (x1 * (g1 1 ((10 + (3 * r1)) + 1))))), (10, (0, g1 1 ((10 + (3 * r1)) + 1))), (9, (0, g1 1 (10 + (3 * r1)))), (8, (0, r1)), (0, (2, 0)), (1, (0, x1)), (2, (0, x2)), (7, (0, x7))]) d_M_gap_104 rfl rfl ?_
        refine z_iload 5 d_M_gap_106 rfl ?_
        refine z_istore_n (i := 1) (ls' := [(1, (0, g1 1 (10 + (3 * r1)))), (5, (1, x2 * (g1 1 ((10 + (3 * r1)) + 1)))), (3, (1, ((g1 1 (10 + (3 * r1))) * x2) - (x1 * (g1 1 ((10 + (3 * r1)) + 1))))), (13, (1, x2 * (g1 1 ((10 + (3 * r1)) + 1)))), (11, (1, ((g1 1 (10 + (3 * r1))) * x2) - (x1 * (g1 1 ((10 + (3 * r1)) + 1))))), (10, (0, g1 1 ((10 + (3 * r1)) + 1))), (9, (0, g1 1 (10 + (3 * r1)))), (8, (0, r1)), (0, (2, 0)), (2, (0, x2)), (7, (0, x7))]) d_M_gap_108 rfl rfl rfl ?_
        refine z_iload 5 d_M_gap_109 rfl ?_
        refine z_istore_n (i := 2) (ls' := [(2, (0, g1 1 ((10 + (3 * r1)) + 1))), (1, (0, g1 1 (10 + (3 * r1)))), (5, (1, x2 * (g1 1 ((10 + (3 * r1)) + 1)))), (3, (1, ((g1 1 (10 + (3 * r1))) * x2) - (x1 * (g1 1 ((10 + (3 * r1)) + 1))))), (13, (1, x2 * (g1 1 ((10 + (3 * r1)) + 1)))), (11, (1, ((g1 1 (10 + (3 * r1))) * x2) - (x1 * (g1 1 ((10 + (3 * r1)) + 1))))), (10, (0, g1 1 ((10 + (3 * r1)) + 1))), (9, (0, g1 1 (10 + (3 * r1)))), (8, (0, r1)), (0, (2, 0)), (7, (0, x7))]) d_M_gap_111 rfl rfl rfl ?_
        obtain ⟨c16, h⟩ := h
        refine z_iinc (n := 1) (ls' := [(7, (0, x7 + 1)), (2, (0, g1 1 ((10 + (3 * r1)) + 1))), (1, (0, g1 1 (10 + (3 * r1)))), (5, (1, x2 * (g1 1 ((10 + (3 * r1)) + 1)))), (3, (1, ((g1 1 (10 + (3 * r1))) * x2) - (x1 * (g1 1 ((10 + (3 * r1)) + 1))))), (13, (1, x2 * (g1 1 ((10 + (3 * r1)) + 1)))), (11, (1, ((g1 1 (10 + (3 * r1))) * x2) - (x1 * (g1 1 ((10 + (3 * r1)) + 1))))), (10, (0, g1 1 ((10 + (3 * r1)) + 1))), (9, (0, g1 1 (10 + (3 * r1)))), (8, (0, r1)), (0, (2, 0))]) 10 d_M_gap_112 rfl c16 rfl rfl ?_
        refine z_goto (tgt := 12) d_M_gap_115 (by decide) ?_
        refine z_sub (ls' := [(0, (2, 0)), (1, (0, g1 1 (10 + (3 * r1)))), (2, (0, g1 1 ((10 + (3 * r1)) + 1))), (3, (1, ((g1 1 (10 + (3 * r1))) * x2) - (x1 * (g1 1 ((10 + (3 * r1)) + 1))))), (5, (1, x2 * (g1 1 ((10 + (3 * r1)) + 1)))), (7, (0, x7 + 1))]) [10, 2, 1, 4, 3, 0] rfl ?_
        exact h
    · have h := h.1 c2
      refine z_iconst (n := 1) d_M_gap_37 (by decide) ?_
      refine z_goto (tgt := 47) d_M_gap_38 (by decide) ?_
      refine z_istore (ls' := [(9, (0, 1)), (8, (0, r1)), (0, (2, 0)), (1, (0, x1)), (2, (0, x2)), (3, (1, x3)), (5, (1, x5)), (7, (0, x7))]) d_M_gap_47 rfl rfl ?_
      refine z_iload 1 d_M_gap_49 rfl ?_
      refine z_iconst (n := (-1)) d_M_gap_51 (by decide) ?_
      refine z_icmp_ne (tgt := 59) d_M_gap_52 (by decide) (fun c => absurd c2 c) (fun _ => ?_)
      refine z_iconst (n := 1) d_M_gap_55 (by decide) ?_
      refine z_goto (tgt := 65) d_M_gap_56 (by decide) ?_
      refine z_istore (ls' := [(10, (0, 1)), (9, (0, 1)), (8, (0, r1)), (0, (2, 0)), (1, (0, x1)), (2, (0, x2)), (3, (1, x3)), (5, (1, x5)), (7, (0, x7))]) d_M_gap_65 rfl rfl ?_
      refine z_iload 1 d_M_gap_67 rfl ?_
      refine z_iload_n (i := 2) 5 d_M_gap_69 rfl rfl ?_
      obtain ⟨c17, h⟩ := h
      refine z_imul d_M_gap_70 c17 ?_
      refine z_iload_n (i := 1) 4 d_M_gap_71 rfl rfl ?_
      refine z_iload 0 d_M_gap_72 rfl ?_
      obtain ⟨c18, h⟩ := h
      refine z_imul d_M_gap_74 c18 ?_
      obtain ⟨c19, h⟩ := h
      refine z_isub d_M_gap_75 c19 ?_
      refine z_i2l d_M_gap_76 ?_
      refine z_lstore (ls' := [(11, (1, (1 * x2) - (x1 * 1))), (10, (0, 1)), (9, (0, 1)), (8, (0, r1)), (0, (2, 0)), (1, (0, x1)), (2, (0, x2)), (3, (1, x3)), (5, (1, x5)), (7, (0, x7))]) d_M_gap_77 rfl rfl ?_
      refine z_iload_n (i := 2) 6 d_M_gap_79 rfl rfl ?_
      refine z_iload 1 d_M_gap_80 rfl ?_
      obtain ⟨c20, h⟩ := h
      refine z_imul d_M_gap_82 c20 ?_
      refine z_i2l d_M_gap_83 ?_
      refine z_lstore (ls' := [(13, (1, x2 * 1)), (11, (1, (1 * x2) - (x1 * 1))), (10, (0, 1)), (9, (0, 1)), (8, (0, r1)), (0, (2, 0)), (1, (0, x1)), (2, (0, x2)), (3, (1, x3)), (5, (1, x5)), (7, (0, x7))]) d_M_gap_84 rfl rfl ?_
      refine z_lload 1 d_M_gap_86 rfl ?_
      refine z_lload 9 d_M_gap_88 rfl ?_
      obtain ⟨c21, h⟩ := h
      refine z_lmul d_M_gap_90 c21 ?_
      refine z_lload_n (i := 3) 8 d_M_gap_91 rfl rfl ?_
      refine z_lload 0 d_M_gap_92 rfl ?_
      obtain ⟨c22, h⟩ := h
      refine z_lmul d_M_gap_94 c22 ?_
      refine z_lcmp_le (tgt := 106) d_M_gap_95 d_M_gap_96 (by decide) (fun c23 => ?_) (fun c23 => ?_)
      · have h := h.1 c23
        refine z_iload 3 d_M_gap_106 rfl ?_
        refine z_istore_n (i := 1) (ls' := [(1, (0, 1)), (13, (1, x2 * 1)), (11, (1, (1 * x2) - (x1 * 1))), (10, (0, 1)), (9, (0, 1)), (8, (0, r1)), (0, (2, 0)), (2, (0, x2)), (3, (1, x3)), (5, (1, x5)), (7, (0, x7))]) d_M_gap_108 rfl rfl rfl ?_
        refine z_iload 3 d_M_gap_109 rfl ?_
        refine z_istore_n (i := 2) (ls' := [(2, (0, 1)), (1, (0, 1)), (13, (1, x2 * 1)), (11, (1, (1 * x2) - (x1 * 1))), (10, (0, 1)), (9, (0, 1)), (8, (0, r1)), (0, (2, 0)), (3, (1, x3)), (5, (1, x5)), (7, (0, x7))]) d_M_gap_111 rfl rfl rfl ?_
        obtain ⟨c24, h⟩ := h
        refine z_iinc (n := 1) (ls' := [(7, (0, x7 + 1)), (2, (0, 1)), (1, (0, 1)), (13, (1, x2 * 1)), (11, (1, (1 * x2) - (x1 * 1))), (10, (0, 1)), (9, (0, 1)), (8, (0, r1)), (0, (2, 0)), (3, (1, x3)), (5, (1, x5))]) 10 d_M_gap_112 rfl c24 rfl rfl ?_
        refine z_goto (tgt := 12) d_M_gap_115 (by decide) ?_
        refine z_sub (ls' := [(0, (2, 0)), (1, (0, 1)), (2, (0, 1)), (3, (1, x3)), (5, (1, x5)), (7, (0, x7 + 1))]) [8, 2, 1, 9, 10, 0] rfl ?_
        exact h
      · have h := h.2 c23
        refine z_lload 1 d_M_gap_99 rfl ?_
        refine z_lstore_n (i := 3) (ls' := [(3, (1, (1 * x2) - (x1 * 1))), (13, (1, x2 * 1)), (11, (1, (1 * x2) - (x1 * 1))), (10, (0, 1)), (9, (0, 1)), (8, (0, r1)), (0, (2, 0)), (1, (0, x1)), (2, (0, x2)), (5, (1, x5)), (7, (0, x7))]) d_M_gap_101 rfl rfl rfl ?_
        refine z_lload 1 d_M_gap_102 rfl ?_
        refine z_lstore (ls' := [(5, (1, x2 * 1)), (3, (1, (1 * x2) - (x1 * 1))), (13, (1, x2 * 1)), (11, (1, (1 * x2) - (x1 * 1))), (10, (0, 1)), (9, (0, 1)), (8, (0, r1)), (0, (2, 0)), (1, (0, x1)), (2, (0, x2)), (7, (0, x7))]) d_M_gap_104 rfl rfl ?_
        refine z_iload 5 d_M_gap_106 rfl ?_
        refine z_istore_n (i := 1) (ls' := [(1, (0, 1)), (5, (1, x2 * 1)), (3, (1, (1 * x2) - (x1 * 1))), (13, (1, x2 * 1)), (11, (1, (1 * x2) - (x1 * 1))), (10, (0, 1)), (9, (0, 1)), (8, (0, r1)), (0, (2, 0)), (2, (0, x2)), (7, (0, x7))]) d_M_gap_108 rfl rfl rfl ?_
        refine z_iload 5 d_M_gap_109 rfl ?_
        refine z_istore_n (i := 2) (ls' := [(2, (0, 1)), (1, (0, 1)), (5, (1, x2 * 1)), (3, (1, (1 * x2) - (x1 * 1))), (13, (1, x2 * 1)), (11, (1, (1 * x2) - (x1 * 1))), (10, (0, 1)), (9, (0, 1)), (8, (0, r1)), (0, (2, 0)), (7, (0, x7))]) d_M_gap_111 rfl rfl rfl ?_
        obtain ⟨c25, h⟩ := h
        refine z_iinc (n := 1) (ls' := [(7, (0, x7 + 1)), (2, (0, 1)), (1, (0, 1)), (5, (1, x2 * 1)), (3, (1, (1 * x2) - (x1 * 1))), (13, (1, x2 * 1)), (11, (1, (1 * x2) - (x1 * 1))), (10, (0, 1)), (9, (0, 1)), (8, (0, r1)), (0, (2, 0))]) 10 d_M_gap_112 rfl c25 rfl rfl ?_
        refine z_goto (tgt := 12) d_M_gap_115 (by decide) ?_
        refine z_sub (ls' := [(0, (2, 0)), (1, (0, 1)), (2, (0, 1)), (3, (1, (1 * x2) - (x1 * 1))), (5, (1, x2 * 1)), (7, (0, x7 + 1))]) [10, 2, 1, 4, 3, 0] rfl ?_
        exact h
theorem d_M_heaviest_0 : decode (z_c m_M_heaviest) 0 = .ok (.iconst (-1), 1) := by decide +kernel
theorem d_M_heaviest_1 : decode (z_c m_M_heaviest) 1 = .ok (.istore_n 1, 1) := by decide +kernel
theorem d_M_heaviest_2 : decode (z_c m_M_heaviest) 2 = .ok (.iconst 0, 1) := by decide +kernel
theorem d_M_heaviest_3 : decode (z_c m_M_heaviest) 3 = .ok (.istore_n 2, 1) := by decide +kernel
theorem d_M_heaviest_4 : decode (z_c m_M_heaviest) 4 = .ok (.iload_n 2, 1) := by decide +kernel
theorem d_M_heaviest_5 : decode (z_c m_M_heaviest) 5 = .ok (.aload_n 0, 1) := by decide +kernel
theorem d_M_heaviest_6 : decode (z_c m_M_heaviest) 6 = .ok (.getfield 7, 3) := by decide +kernel
theorem d_M_heaviest_9 : decode (z_c m_M_heaviest) 9 = .ok (.iconst 4, 1) := by decide +kernel
theorem d_M_heaviest_10 : decode (z_c m_M_heaviest) 10 = .ok (.iaload, 1) := by decide +kernel
theorem d_M_heaviest_11 : decode (z_c m_M_heaviest) 11 = .ok (.if_icmp .ge 35, 3) := by decide +kernel
theorem d_M_heaviest_14 : decode (z_c m_M_heaviest) 14 = .ok (.aload_n 0, 1) := by decide +kernel
theorem d_M_heaviest_15 : decode (z_c m_M_heaviest) 15 = .ok (.iload_n 2, 1) := by decide +kernel
theorem d_M_heaviest_16 : decode (z_c m_M_heaviest) 16 = .ok (.invokevirtual 378, 3) := by decide +kernel
theorem d_M_heaviest_19 : decode (z_c m_M_heaviest) 19 = .ok (.istore_n 3, 1) := by decide +kernel
theorem d_M_heaviest_20 : decode (z_c m_M_heaviest) 20 = .ok (.iload_n 1, 1) := by decide +kernel
theorem d_M_heaviest_21 : decode (z_c m_M_heaviest) 21 = .ok (.iconst (-1), 1) := by decide +kernel
theorem d_M_heaviest_22 : decode (z_c m_M_heaviest) 22 = .ok (.if_icmp .eq 16, 3) := by decide +kernel
theorem d_M_heaviest_25 : decode (z_c m_M_heaviest) 25 = .ok (.aload_n 0, 1) := by decide +kernel
theorem d_M_heaviest_26 : decode (z_c m_M_heaviest) 26 = .ok (.iload_n 3, 1) := by decide +kernel
theorem d_M_heaviest_27 : decode (z_c m_M_heaviest) 27 = .ok (.invokevirtual 352, 3) := by decide +kernel
theorem d_M_heaviest_30 : decode (z_c m_M_heaviest) 30 = .ok (.aload_n 0, 1) := by decide +kernel
theorem d_M_heaviest_31 : decode (z_c m_M_heaviest) 31 = .ok (.iload_n 1, 1) := by decide +kernel
theorem d_M_heaviest_32 : decode (z_c m_M_heaviest) 32 = .ok (.invokevirtual 352, 3) := by decide +kernel
theorem d_M_heaviest_35 : decode (z_c m_M_heaviest) 35 = .ok (.if_icmp .le 5, 3) := by decide +kernel
theorem d_M_heaviest_38 : decode (z_c m_M_heaviest) 38 = .ok (.iload_n 3, 1) := by decide +kernel
theorem d_M_heaviest_39 : decode (z_c m_M_heaviest) 39 = .ok (.istore_n 1, 1) := by decide +kernel
theorem d_M_heaviest_40 : decode (z_c m_M_heaviest) 40 = .ok (.iinc 2 1, 3) := by decide +kernel
theorem d_M_heaviest_43 : decode (z_c m_M_heaviest) 43 = .ok (.goto (-39), 3) := by decide +kernel
theorem d_M_heaviest_46 : decode (z_c m_M_heaviest) 46 = .ok (.aload_n 0, 1) := by decide +kernel
theorem d_M_heaviest_47 : decode (z_c m_M_heaviest) 47 = .ok (.iload_n 1, 1) := by decide +kernel
theorem d_M_heaviest_48 : decode (z_c m_M_heaviest) 48 = .ok (.invokevirtual 372, 3) := by decide +kernel
theorem d_M_heaviest_51 : decode (z_c m_M_heaviest) 51 = .ok (.ireturn, 1) := by decide +kernel
abbrev L_M_heaviest_4 (X : z_X) (N : Nat) (σ : z_G) (x1 x2 : Int) (g : z_G) (Q : z_P) : Prop := z_U X 5 m_M_heaviest 4 [(0, (2, 0)), (1, (0, x1)), (2, (0, x2))] [] N σ g Q
set_option maxRecDepth 8000 in
theorem b_M_heaviest_0 {X : z_X} {N : Nat} {σ g : z_G} {Q : z_P} (hx : z_lay X N σ 0 z_SM z_RM) (h : L_M_heaviest_4 X N σ (-1) 0 g Q) : z_O X 5 m_M_heaviest [(2, 0)] N σ g Q := by
  refine z_Oenter mi_M_heaviest rfl (fun _ => ?_)
  show z_U X 5 m_M_heaviest 0 [(0, (2, 0))] [] N σ g Q
  refine z_iconst (n := (-1)) d_M_heaviest_0 (by decide) ?_
  refine z_istore_n (i := 1) (ls' := [(1, (0, (-1))), (0, (2, 0))]) d_M_heaviest_1 rfl rfl rfl ?_
  refine z_iconst (n := 0) d_M_heaviest_2 (by decide) ?_
  refine z_istore_n (i := 2) (ls' := [(2, (0, 0)), (1, (0, (-1))), (0, (2, 0))]) d_M_heaviest_3 rfl rfl rfl ?_
  refine z_sub (ls' := [(0, (2, 0)), (1, (0, (-1))), (2, (0, 0))]) [2, 1, 0] rfl ?_
  exact h
set_option maxRecDepth 8000 in
theorem b_M_heaviest_4 {X : z_X} {N : Nat} {σ g : z_G} {Q : z_P} {x1 x2 : Int} (hx : z_lay X N σ 0 z_SM z_RM) (h : (((g 1 4) ≤ x2) → (z_O X 3 m_M_tellsPin [(2, 0), (0, x1)] N σ g (fun r0 g0 => (r0 = 0 ∨ r0 = 1) → Q r0 g0))) ∧ (¬ ((g 1 4) ≤ x2) → (z_O X 4 m_M_rising [(2, 0), (0, x2)] N σ g (fun r1 g1 => (((x1 = (-1)) → ((-2147483648 ≤ (x2 + 1) ∧ (x2 + 1) ≤ 2147483647) ∧ L_M_heaviest_4 X N σ r1 (x2 + 1) g1 Q)) ∧ (¬ (x1 = (-1)) → ((-2147483648 ≤ (3 * r1) ∧ (3 * r1) ≤ 2147483647) ∧ ((-2147483648 ≤ (10 + (3 * r1)) ∧ (10 + (3 * r1)) ≤ 2147483647) ∧ ((-2147483648 ≤ ((10 + (3 * r1)) + 2) ∧ ((10 + (3 * r1)) + 2) ≤ 2147483647) ∧ ((0 ≤ ((10 + (3 * r1)) + 2) ∧ ((10 + (3 * r1)) + 2) < 3296) ∧ ((-2147483648 ≤ (3 * x1) ∧ (3 * x1) ≤ 2147483647) ∧ ((-2147483648 ≤ (10 + (3 * x1)) ∧ (10 + (3 * x1)) ≤ 2147483647) ∧ ((-2147483648 ≤ ((10 + (3 * x1)) + 2) ∧ ((10 + (3 * x1)) + 2) ≤ 2147483647) ∧ ((0 ≤ ((10 + (3 * x1)) + 2) ∧ ((10 + (3 * x1)) + 2) < 3296) ∧ ((((g1 1 ((10 + (3 * r1)) + 2)) ≤ (g1 1 ((10 + (3 * x1)) + 2))) → ((-2147483648 ≤ (x2 + 1) ∧ (x2 + 1) ≤ 2147483647) ∧ L_M_heaviest_4 X N σ x1 (x2 + 1) g1 Q)) ∧ (¬ ((g1 1 ((10 + (3 * r1)) + 2)) ≤ (g1 1 ((10 + (3 * x1)) + 2))) → ((-2147483648 ≤ (x2 + 1) ∧ (x2 + 1) ≤ 2147483647) ∧ L_M_heaviest_4 X N σ r1 (x2 + 1) g1 Q))))))))))))))))) : L_M_heaviest_4 X N σ x1 x2 g Q := by
  refine z_iload_n (i := 2) 2 d_M_heaviest_4 rfl rfl ?_
  refine z_aload_n (i := 0) (c := 0) 0 d_M_heaviest_5 rfl rfl rfl ?_
  refine z_getr (c := 0) (kI := 0) (r2 := 1) d_M_heaviest_6 fd_M_at fl_M_7 rfl rfl rfl (ks_M_0 hx) (kl_M_0 hx) (kr_M_0_0 hx) ?_
  refine z_iconst (n := 4) d_M_heaviest_9 (by decide) ?_
  refine z_iald (c := 1) (m := 3296) d_M_heaviest_10 rfl (ks_M_1 hx) (kl_M_1 hx) rfl (by decide) (by decide) ?_
  refine z_icmp_ge (tgt := 46) d_M_heaviest_11 (by decide) (fun c1 => ?_) (fun c1 => ?_)
  · have h := h.1 c1
    refine z_aload_n (i := 0) (c := 0) 0 d_M_heaviest_46 rfl rfl rfl ?_
    refine z_iload_n (i := 1) 1 d_M_heaviest_47 rfl rfl ?_
    refine z_cV (c := 0) (as := [(0, x1)]) (d' := 3) (st := []) d_M_heaviest_48 mi_M_tellsPin ml_M_372 mv_M_tellsPin se_M_tellsPin rfl rfl rfl rfl (ks_M_0 hx) rfl rfl (kl_M_0 hx) rfl rfl (z_Omono h (fun r0 g0 _ h hro => ?_))
    have h := h (z_b01 hro)
    have hzr0 := z_b01 hro
    show z_U X 5 m_M_heaviest 51 [(0, (2, 0)), (1, (0, x1)), (2, (0, x2))] [(0, r0)] N σ g0 Q
    exact z_zret d_M_heaviest_51 rfl (by decide) (by decide) hzr0 ⟨rfl, rfl, h⟩
  · have h := h.2 c1
    refine z_aload_n (i := 0) (c := 0) 0 d_M_heaviest_14 rfl rfl rfl ?_
    refine z_iload_n (i := 2) 2 d_M_heaviest_15 rfl rfl ?_
    refine z_cV (c := 0) (as := [(0, x2)]) (d' := 4) (st := []) d_M_heaviest_16 mi_M_rising ml_M_378 mv_M_rising se_M_rising rfl rfl rfl rfl (ks_M_0 hx) rfl rfl (kl_M_0 hx) rfl rfl (z_Omono h (fun r1 g1 _ h hro => ?_))
    show z_U X 5 m_M_heaviest 19 [(0, (2, 0)), (1, (0, x1)), (2, (0, x2))] [(0, r1)] N σ g1 Q
    refine z_istore_n (i := 3) (ls' := [(3, (0, r1)), (0, (2, 0)), (1, (0, x1)), (2, (0, x2))]) d_M_heaviest_19 rfl rfl rfl ?_
    refine z_iload_n (i := 1) 2 d_M_heaviest_20 rfl rfl ?_
    refine z_iconst (n := (-1)) d_M_heaviest_21 (by decide) ?_
    refine z_icmp_eq (tgt := 38) d_M_heaviest_22 (by decide) (fun c2 => ?_) (fun c2 => ?_)
    · have h := h.1 c2
      refine z_iload_n (i := 3) 0 d_M_heaviest_38 rfl rfl ?_
      refine z_istore_n (i := 1) (ls' := [(1, (0, r1)), (3, (0, r1)), (0, (2, 0)), (2, (0, x2))]) d_M_heaviest_39 rfl rfl rfl ?_
      obtain ⟨c3, h⟩ := h
      refine z_iinc (n := 1) (ls' := [(2, (0, x2 + 1)), (1, (0, r1)), (3, (0, r1)), (0, (2, 0))]) 3 d_M_heaviest_40 rfl c3 rfl rfl ?_
      refine z_goto (tgt := 4) d_M_heaviest_43 (by decide) ?_
      refine z_sub (ls' := [(0, (2, 0)), (1, (0, r1)), (2, (0, x2 + 1))]) [3, 1, 0] rfl ?_
      exact h
    · have h := h.2 c2
      refine z_aload_n (i := 0) (c := 0) 1 d_M_heaviest_25 rfl rfl rfl ?_
      refine z_iload_n (i := 3) 0 d_M_heaviest_26 rfl rfl ?_
      refine z_cV (c := 0) (as := [(0, r1)]) (d' := 2) (st := []) d_M_heaviest_27 mi_M_weightOf ml_M_352 mv_M_weightOf se_M_weightOf rfl rfl rfl rfl (ks_M_0 hx) rfl rfl (kl_M_0 hx) rfl rfl (b_M_weightOf_0 hx ?_)
      obtain ⟨c4, h⟩ := h
      refine ⟨c4, ?_⟩
      obtain ⟨c5, h⟩ := h
      refine ⟨c5, ?_⟩
      obtain ⟨c6, h⟩ := h
      refine ⟨c6, ?_⟩
      obtain ⟨c7, h⟩ := h
      refine ⟨c7, ?_⟩
      intro _
      show z_U X 5 m_M_heaviest 30 [(3, (0, r1)), (0, (2, 0)), (1, (0, x1)), (2, (0, x2))] [(0, g1 1 ((10 + (3 * r1)) + 2))] N σ g1 Q
      refine z_aload_n (i := 0) (c := 0) 1 d_M_heaviest_30 rfl rfl rfl ?_
      refine z_iload_n (i := 1) 2 d_M_heaviest_31 rfl rfl ?_
      refine z_cV (c := 0) (as := [(0, x1)]) (d' := 2) (st := [(0, g1 1 ((10 + (3 * r1)) + 2))]) d_M_heaviest_32 mi_M_weightOf ml_M_352 mv_M_weightOf se_M_weightOf rfl rfl rfl rfl (ks_M_0 hx) rfl rfl (kl_M_0 hx) rfl rfl (b_M_weightOf_0 hx ?_)
      obtain ⟨c8, h⟩ := h
      refine ⟨c8, ?_⟩
      obtain ⟨c9, h⟩ := h
      refine ⟨c9, ?_⟩
      obtain ⟨c10, h⟩ := h
      refine ⟨c10, ?_⟩
      obtain ⟨c11, h⟩ := h
      refine ⟨c11, ?_⟩
      intro _
      show z_U X 5 m_M_heaviest 35 [(3, (0, r1)), (0, (2, 0)), (1, (0, x1)), (2, (0, x2))] [(0, g1 1 ((10 + (3 * x1)) + 2)), (0, g1 1 ((10 + (3 * r1)) + 2))] N σ g1 Q
      refine z_icmp_le (tgt := 40) d_M_heaviest_35 (by decide) (fun c12 => ?_) (fun c12 => ?_)
      · have h := h.1 c12
        obtain ⟨c13, h⟩ := h
        refine z_iinc (n := 1) (ls' := [(2, (0, x2 + 1)), (3, (0, r1)), (0, (2, 0)), (1, (0, x1))]) 3 d_M_heaviest_40 rfl c13 rfl rfl ?_
        refine z_goto (tgt := 4) d_M_heaviest_43 (by decide) ?_
        refine z_sub (ls' := [(0, (2, 0)), (1, (0, x1)), (2, (0, x2 + 1))]) [2, 3, 0] rfl ?_
        exact h
      · have h := h.2 c12
        refine z_iload_n (i := 3) 0 d_M_heaviest_38 rfl rfl ?_
        refine z_istore_n (i := 1) (ls' := [(1, (0, r1)), (3, (0, r1)), (0, (2, 0)), (2, (0, x2))]) d_M_heaviest_39 rfl rfl rfl ?_
        obtain ⟨c14, h⟩ := h
        refine z_iinc (n := 1) (ls' := [(2, (0, x2 + 1)), (1, (0, r1)), (3, (0, r1)), (0, (2, 0))]) 3 d_M_heaviest_40 rfl c14 rfl rfl ?_
        refine z_goto (tgt := 4) d_M_heaviest_43 (by decide) ?_
        refine z_sub (ls' := [(0, (2, 0)), (1, (0, r1)), (2, (0, x2 + 1))]) [3, 1, 0] rfl ?_
        exact h
theorem d_M_middle_0 : decode (z_c m_M_middle) 0 = .ok (.iconst 0, 1) := by decide +kernel
theorem d_M_middle_1 : decode (z_c m_M_middle) 1 = .ok (.istore_n 1, 1) := by decide +kernel
theorem d_M_middle_2 : decode (z_c m_M_middle) 2 = .ok (.aload_n 0, 1) := by decide +kernel
theorem d_M_middle_3 : decode (z_c m_M_middle) 3 = .ok (.iconst 0, 1) := by decide +kernel
theorem d_M_middle_4 : decode (z_c m_M_middle) 4 = .ok (.invokevirtual 378, 3) := by decide +kernel
theorem d_M_middle_7 : decode (z_c m_M_middle) 7 = .ok (.istore_n 2, 1) := by decide +kernel
theorem d_M_middle_8 : decode (z_c m_M_middle) 8 = .ok (.iload_n 2, 1) := by decide +kernel
theorem d_M_middle_9 : decode (z_c m_M_middle) 9 = .ok (.iconst (-1), 1) := by decide +kernel
theorem d_M_middle_10 : decode (z_c m_M_middle) 10 = .ok (.if_icmp .eq 40, 3) := by decide +kernel
theorem d_M_middle_13 : decode (z_c m_M_middle) 13 = .ok (.iconst 2, 1) := by decide +kernel
theorem d_M_middle_14 : decode (z_c m_M_middle) 14 = .ok (.aload_n 0, 1) := by decide +kernel
theorem d_M_middle_15 : decode (z_c m_M_middle) 15 = .ok (.aload_n 0, 1) := by decide +kernel
theorem d_M_middle_16 : decode (z_c m_M_middle) 16 = .ok (.iload_n 2, 1) := by decide +kernel
theorem d_M_middle_17 : decode (z_c m_M_middle) 17 = .ok (.invokevirtual 366, 3) := by decide +kernel
theorem d_M_middle_20 : decode (z_c m_M_middle) 20 = .ok (.aload_n 0, 1) := by decide +kernel
theorem d_M_middle_21 : decode (z_c m_M_middle) 21 = .ok (.iload_n 2, 1) := by decide +kernel
theorem d_M_middle_22 : decode (z_c m_M_middle) 22 = .ok (.invokevirtual 369, 3) := by decide +kernel
theorem d_M_middle_25 : decode (z_c m_M_middle) 25 = .ok (.invokevirtual 257, 3) := by decide +kernel
theorem d_M_middle_28 : decode (z_c m_M_middle) 28 = .ok (.imul, 1) := by decide +kernel
theorem d_M_middle_29 : decode (z_c m_M_middle) 29 = .ok (.aload_n 0, 1) := by decide +kernel
theorem d_M_middle_30 : decode (z_c m_M_middle) 30 = .ok (.iconst 1, 1) := by decide +kernel
theorem d_M_middle_31 : decode (z_c m_M_middle) 31 = .ok (.iconst 1, 1) := by decide +kernel
theorem d_M_middle_32 : decode (z_c m_M_middle) 32 = .ok (.invokevirtual 257, 3) := by decide +kernel
theorem d_M_middle_35 : decode (z_c m_M_middle) 35 = .ok (.if_icmp .ge 15, 3) := by decide +kernel
theorem d_M_middle_38 : decode (z_c m_M_middle) 38 = .ok (.iinc 1 1, 3) := by decide +kernel
theorem d_M_middle_41 : decode (z_c m_M_middle) 41 = .ok (.aload_n 0, 1) := by decide +kernel
theorem d_M_middle_42 : decode (z_c m_M_middle) 42 = .ok (.iload_n 1, 1) := by decide +kernel
theorem d_M_middle_43 : decode (z_c m_M_middle) 43 = .ok (.invokevirtual 378, 3) := by decide +kernel
theorem d_M_middle_46 : decode (z_c m_M_middle) 46 = .ok (.istore_n 2, 1) := by decide +kernel
theorem d_M_middle_47 : decode (z_c m_M_middle) 47 = .ok (.goto (-39), 3) := by decide +kernel
theorem d_M_middle_50 : decode (z_c m_M_middle) 50 = .ok (.aload_n 0, 1) := by decide +kernel
theorem d_M_middle_51 : decode (z_c m_M_middle) 51 = .ok (.iload_n 2, 1) := by decide +kernel
theorem d_M_middle_52 : decode (z_c m_M_middle) 52 = .ok (.invokevirtual 372, 3) := by decide +kernel
theorem d_M_middle_55 : decode (z_c m_M_middle) 55 = .ok (.ireturn, 1) := by decide +kernel
abbrev L_M_middle_8 (X : z_X) (N : Nat) (σ : z_G) (x1 x2 : Int) (g : z_G) (Q : z_P) : Prop := z_U X 5 m_M_middle 8 [(0, (2, 0)), (1, (0, x1)), (2, (0, x2))] [] N σ g Q
set_option maxRecDepth 8000 in
theorem b_M_middle_0 {X : z_X} {N : Nat} {σ g : z_G} {Q : z_P} (hx : z_lay X N σ 0 z_SM z_RM) (h : z_O X 4 m_M_rising [(2, 0), (0, 0)] N σ g (fun r0 g0 => L_M_middle_8 X N σ 0 r0 g0 Q)) : z_O X 5 m_M_middle [(2, 0)] N σ g Q := by
  refine z_Oenter mi_M_middle rfl (fun _ => ?_)
  show z_U X 5 m_M_middle 0 [(0, (2, 0))] [] N σ g Q
  refine z_iconst (n := 0) d_M_middle_0 (by decide) ?_
  refine z_istore_n (i := 1) (ls' := [(1, (0, 0)), (0, (2, 0))]) d_M_middle_1 rfl rfl rfl ?_
  refine z_aload_n (i := 0) (c := 0) 1 d_M_middle_2 rfl rfl rfl ?_
  refine z_iconst (n := 0) d_M_middle_3 (by decide) ?_
  refine z_cV (c := 0) (as := [(0, 0)]) (d' := 4) (st := []) d_M_middle_4 mi_M_rising ml_M_378 mv_M_rising se_M_rising rfl rfl rfl rfl (ks_M_0 hx) rfl rfl (kl_M_0 hx) rfl rfl (z_Omono h (fun r0 g0 _ h hro => ?_))
  show z_U X 5 m_M_middle 7 [(1, (0, 0)), (0, (2, 0))] [(0, r0)] N σ g0 Q
  refine z_istore_n (i := 2) (ls' := [(2, (0, r0)), (1, (0, 0)), (0, (2, 0))]) d_M_middle_7 rfl rfl rfl ?_
  refine z_sub (ls' := [(0, (2, 0)), (1, (0, 0)), (2, (0, r0))]) [2, 1, 0] rfl ?_
  exact h
set_option maxRecDepth 8000 in
theorem b_M_middle_8 {X : z_X} {N : Nat} {σ g : z_G} {Q : z_P} {x1 x2 : Int} (hx : z_lay X N σ 0 z_SM z_RM) (h : ((x2 = (-1)) → (z_O X 3 m_M_tellsPin [(2, 0), (0, x2)] N σ g (fun r0 g0 => (r0 = 0 ∨ r0 = 1) → Q r0 g0))) ∧ (¬ (x2 = (-1)) → ((-2147483648 ≤ (3 * x2) ∧ (3 * x2) ≤ 2147483647) ∧ ((-2147483648 ≤ (10 + (3 * x2)) ∧ (10 + (3 * x2)) ≤ 2147483647) ∧ ((0 ≤ (10 + (3 * x2)) ∧ (10 + (3 * x2)) < 3296) ∧ ((-2147483648 ≤ ((10 + (3 * x2)) + 1) ∧ ((10 + (3 * x2)) + 1) ≤ 2147483647) ∧ ((0 ≤ ((10 + (3 * x2)) + 1) ∧ ((10 + (3 * x2)) + 1) < 3296) ∧ (z_O X 3 m_M_weightTo [(2, 0), (0, g 1 (10 + (3 * x2))), (0, g 1 ((10 + (3 * x2)) + 1))] N σ g (fun r1 g1 => ((-2147483648 ≤ (2 * r1) ∧ (2 * r1) ≤ 2147483647) ∧ (z_O X 3 m_M_weightTo [(2, 0), (0, 1), (0, 1)] N σ g1 (fun r2 g2 => (((r2 ≤ (2 * r1)) → (z_O X 3 m_M_tellsPin [(2, 0), (0, x2)] N σ g2 (fun r3 g3 => (r3 = 0 ∨ r3 = 1) → Q r3 g3))) ∧ (¬ (r2 ≤ (2 * r1)) → ((-2147483648 ≤ (x1 + 1) ∧ (x1 + 1) ≤ 2147483647) ∧ (z_O X 4 m_M_rising [(2, 0), (0, x1 + 1)] N σ g2 (fun r4 g4 => L_M_middle_8 X N σ (x1 + 1) r4 g4 Q))))))))))))))))) : L_M_middle_8 X N σ x1 x2 g Q := by
  refine z_iload_n (i := 2) 2 d_M_middle_8 rfl rfl ?_
  refine z_iconst (n := (-1)) d_M_middle_9 (by decide) ?_
  refine z_icmp_eq (tgt := 50) d_M_middle_10 (by decide) (fun c1 => ?_) (fun c1 => ?_)
  · have h := h.1 c1
    refine z_aload_n (i := 0) (c := 0) 0 d_M_middle_50 rfl rfl rfl ?_
    refine z_iload_n (i := 2) 2 d_M_middle_51 rfl rfl ?_
    refine z_cV (c := 0) (as := [(0, x2)]) (d' := 3) (st := []) d_M_middle_52 mi_M_tellsPin ml_M_372 mv_M_tellsPin se_M_tellsPin rfl rfl rfl rfl (ks_M_0 hx) rfl rfl (kl_M_0 hx) rfl rfl (z_Omono h (fun r0 g0 _ h hro => ?_))
    have h := h (z_b01 hro)
    have hzr0 := z_b01 hro
    show z_U X 5 m_M_middle 55 [(0, (2, 0)), (1, (0, x1)), (2, (0, x2))] [(0, r0)] N σ g0 Q
    exact z_zret d_M_middle_55 rfl (by decide) (by decide) hzr0 ⟨rfl, rfl, h⟩
  · have h := h.2 c1
    refine z_iconst (n := 2) d_M_middle_13 (by decide) ?_
    refine z_aload_n (i := 0) (c := 0) 0 d_M_middle_14 rfl rfl rfl ?_
    refine z_aload_n (i := 0) (c := 0) 0 d_M_middle_15 rfl rfl rfl ?_
    refine z_iload_n (i := 2) 2 d_M_middle_16 rfl rfl ?_
    refine z_cV (c := 0) (as := [(0, x2)]) (d' := 2) (st := [(2, 0), (0, 2)]) d_M_middle_17 mi_M_topOf ml_M_366 mv_M_topOf se_M_topOf rfl rfl rfl rfl (ks_M_0 hx) rfl rfl (kl_M_0 hx) rfl rfl (b_M_topOf_0 hx ?_)
    obtain ⟨c2, h⟩ := h
    refine ⟨c2, ?_⟩
    obtain ⟨c3, h⟩ := h
    refine ⟨c3, ?_⟩
    obtain ⟨c4, h⟩ := h
    refine ⟨c4, ?_⟩
    intro _
    show z_U X 5 m_M_middle 20 [(0, (2, 0)), (1, (0, x1)), (2, (0, x2))] [(0, g 1 (10 + (3 * x2))), (2, 0), (0, 2)] N σ g Q
    refine z_aload_n (i := 0) (c := 0) 0 d_M_middle_20 rfl rfl rfl ?_
    refine z_iload_n (i := 2) 2 d_M_middle_21 rfl rfl ?_
    refine z_cV (c := 0) (as := [(0, x2)]) (d' := 2) (st := [(0, g 1 (10 + (3 * x2))), (2, 0), (0, 2)]) d_M_middle_22 mi_M_bottomOf ml_M_369 mv_M_bottomOf se_M_bottomOf rfl rfl rfl rfl (ks_M_0 hx) rfl rfl (kl_M_0 hx) rfl rfl (b_M_bottomOf_0 hx ?_)
    refine ⟨c2, ?_⟩
    refine ⟨c3, ?_⟩
    obtain ⟨c5, h⟩ := h
    refine ⟨c5, ?_⟩
    obtain ⟨c6, h⟩ := h
    refine ⟨c6, ?_⟩
    intro _
    show z_U X 5 m_M_middle 25 [(0, (2, 0)), (1, (0, x1)), (2, (0, x2))] [(0, g 1 ((10 + (3 * x2)) + 1)), (0, g 1 (10 + (3 * x2))), (2, 0), (0, 2)] N σ g Q
    refine z_cV (c := 0) (as := [(0, g 1 (10 + (3 * x2))), (0, g 1 ((10 + (3 * x2)) + 1))]) (d' := 3) (st := [(0, 2)]) d_M_middle_25 mi_M_weightTo ml_M_257 mv_M_weightTo se_M_weightTo rfl rfl rfl rfl (ks_M_0 hx) rfl rfl (kl_M_0 hx) rfl rfl (z_Omono h (fun r1 g1 _ h hro => ?_))
    show z_U X 5 m_M_middle 28 [(0, (2, 0)), (1, (0, x1)), (2, (0, x2))] [(0, r1), (0, 2)] N σ g1 Q
    obtain ⟨c7, h⟩ := h
    refine z_imul d_M_middle_28 c7 ?_
    refine z_aload_n (i := 0) (c := 0) 0 d_M_middle_29 rfl rfl rfl ?_
    refine z_iconst (n := 1) d_M_middle_30 (by decide) ?_
    refine z_iconst (n := 1) d_M_middle_31 (by decide) ?_
    refine z_cV (c := 0) (as := [(0, 1), (0, 1)]) (d' := 3) (st := [(0, 2 * r1)]) d_M_middle_32 mi_M_weightTo ml_M_257 mv_M_weightTo se_M_weightTo rfl rfl rfl rfl (ks_M_0 hx) rfl rfl (kl_M_0 hx) rfl rfl (z_Omono h (fun r2 g2 _ h hro => ?_))
    show z_U X 5 m_M_middle 35 [(0, (2, 0)), (1, (0, x1)), (2, (0, x2))] [(0, r2), (0, 2 * r1)] N σ g2 Q
    refine z_icmp_ge (tgt := 50) d_M_middle_35 (by decide) (fun c8 => ?_) (fun c8 => ?_)
    · have h := h.1 c8
      refine z_aload_n (i := 0) (c := 0) 0 d_M_middle_50 rfl rfl rfl ?_
      refine z_iload_n (i := 2) 2 d_M_middle_51 rfl rfl ?_
      refine z_cV (c := 0) (as := [(0, x2)]) (d' := 3) (st := []) d_M_middle_52 mi_M_tellsPin ml_M_372 mv_M_tellsPin se_M_tellsPin rfl rfl rfl rfl (ks_M_0 hx) rfl rfl (kl_M_0 hx) rfl rfl (z_Omono h (fun r3 g3 _ h hro => ?_))
      have h := h (z_b01 hro)
      have hzr3 := z_b01 hro
      show z_U X 5 m_M_middle 55 [(0, (2, 0)), (1, (0, x1)), (2, (0, x2))] [(0, r3)] N σ g3 Q
      exact z_zret d_M_middle_55 rfl (by decide) (by decide) hzr3 ⟨rfl, rfl, h⟩
    · have h := h.2 c8
      obtain ⟨c9, h⟩ := h
      refine z_iinc (n := 1) (ls' := [(1, (0, x1 + 1)), (0, (2, 0)), (2, (0, x2))]) 1 d_M_middle_38 rfl c9 rfl rfl ?_
      refine z_aload_n (i := 0) (c := 0) 1 d_M_middle_41 rfl rfl rfl ?_
      refine z_iload_n (i := 1) 0 d_M_middle_42 rfl rfl ?_
      refine z_cV (c := 0) (as := [(0, x1 + 1)]) (d' := 4) (st := []) d_M_middle_43 mi_M_rising ml_M_378 mv_M_rising se_M_rising rfl rfl rfl rfl (ks_M_0 hx) rfl rfl (kl_M_0 hx) rfl rfl (z_Omono h (fun r4 g4 _ h hro => ?_))
      show z_U X 5 m_M_middle 46 [(1, (0, x1 + 1)), (0, (2, 0)), (2, (0, x2))] [(0, r4)] N σ g4 Q
      refine z_istore_n (i := 2) (ls' := [(2, (0, r4)), (1, (0, x1 + 1)), (0, (2, 0))]) d_M_middle_46 rfl rfl rfl ?_
      refine z_goto (tgt := 8) d_M_middle_47 (by decide) ?_
      refine z_sub (ls' := [(0, (2, 0)), (1, (0, x1 + 1)), (2, (0, r4))]) [2, 1, 0] rfl ?_
      exact h
theorem d_M_nearest_0 : decode (z_c m_M_nearest) 0 = .ok (.iload_n 1, 1) := by decide +kernel
theorem d_M_nearest_1 : decode (z_c m_M_nearest) 1 = .ok (.iload_n 2, 1) := by decide +kernel
theorem d_M_nearest_2 : decode (z_c m_M_nearest) 2 = .ok (.invokestatic 272, 3) := by decide +kernel
theorem d_M_nearest_5 : decode (z_c m_M_nearest) 5 = .ok (.ifCond .ne 9, 3) := by decide +kernel
theorem d_M_nearest_8 : decode (z_c m_M_nearest) 8 = .ok (.aload_n 0, 1) := by decide +kernel
theorem d_M_nearest_9 : decode (z_c m_M_nearest) 9 = .ok (.iconst 1, 1) := by decide +kernel
theorem d_M_nearest_10 : decode (z_c m_M_nearest) 10 = .ok (.invokevirtual 94, 3) := by decide +kernel
theorem d_M_nearest_13 : decode (z_c m_M_nearest) 13 = .ok (.ireturn, 1) := by decide +kernel
theorem d_M_nearest_14 : decode (z_c m_M_nearest) 14 = .ok (.aload_n 0, 1) := by decide +kernel
theorem d_M_nearest_15 : decode (z_c m_M_nearest) 15 = .ok (.iload_n 1, 1) := by decide +kernel
theorem d_M_nearest_16 : decode (z_c m_M_nearest) 16 = .ok (.iload_n 2, 1) := by decide +kernel
theorem d_M_nearest_17 : decode (z_c m_M_nearest) 17 = .ok (.invokevirtual 275, 3) := by decide +kernel
theorem d_M_nearest_20 : decode (z_c m_M_nearest) 20 = .ok (.istore_n 3, 1) := by decide +kernel
theorem d_M_nearest_21 : decode (z_c m_M_nearest) 21 = .ok (.aload_n 0, 1) := by decide +kernel
theorem d_M_nearest_22 : decode (z_c m_M_nearest) 22 = .ok (.iload_n 3, 1) := by decide +kernel
theorem d_M_nearest_23 : decode (z_c m_M_nearest) 23 = .ok (.iload_n 1, 1) := by decide +kernel
theorem d_M_nearest_24 : decode (z_c m_M_nearest) 24 = .ok (.iload_n 2, 1) := by decide +kernel
theorem d_M_nearest_25 : decode (z_c m_M_nearest) 25 = .ok (.invokevirtual 278, 3) := by decide +kernel
theorem d_M_nearest_28 : decode (z_c m_M_nearest) 28 = .ok (.ifCond .eq 9, 3) := by decide +kernel
theorem d_M_nearest_31 : decode (z_c m_M_nearest) 31 = .ok (.aload_n 0, 1) := by decide +kernel
theorem d_M_nearest_32 : decode (z_c m_M_nearest) 32 = .ok (.iload_n 3, 1) := by decide +kernel
theorem d_M_nearest_33 : decode (z_c m_M_nearest) 33 = .ok (.invokevirtual 269, 3) := by decide +kernel
theorem d_M_nearest_36 : decode (z_c m_M_nearest) 36 = .ok (.ireturn, 1) := by decide +kernel
theorem d_M_nearest_37 : decode (z_c m_M_nearest) 37 = .ok (.iload_n 1, 1) := by decide +kernel
theorem d_M_nearest_38 : decode (z_c m_M_nearest) 38 = .ok (.aload_n 0, 1) := by decide +kernel
theorem d_M_nearest_39 : decode (z_c m_M_nearest) 39 = .ok (.getfield 47, 3) := by decide +kernel
theorem d_M_nearest_42 : decode (z_c m_M_nearest) 42 = .ok (.iload_n 3, 1) := by decide +kernel
theorem d_M_nearest_43 : decode (z_c m_M_nearest) 43 = .ok (.iconst 1, 1) := by decide +kernel
theorem d_M_nearest_44 : decode (z_c m_M_nearest) 44 = .ok (.isub, 1) := by decide +kernel
theorem d_M_nearest_45 : decode (z_c m_M_nearest) 45 = .ok (.iaload, 1) := by decide +kernel
theorem d_M_nearest_46 : decode (z_c m_M_nearest) 46 = .ok (.imul, 1) := by decide +kernel
theorem d_M_nearest_47 : decode (z_c m_M_nearest) 47 = .ok (.aload_n 0, 1) := by decide +kernel
theorem d_M_nearest_48 : decode (z_c m_M_nearest) 48 = .ok (.getfield 44, 3) := by decide +kernel
theorem d_M_nearest_51 : decode (z_c m_M_nearest) 51 = .ok (.iload_n 3, 1) := by decide +kernel
theorem d_M_nearest_52 : decode (z_c m_M_nearest) 52 = .ok (.iconst 1, 1) := by decide +kernel
theorem d_M_nearest_53 : decode (z_c m_M_nearest) 53 = .ok (.isub, 1) := by decide +kernel
theorem d_M_nearest_54 : decode (z_c m_M_nearest) 54 = .ok (.iaload, 1) := by decide +kernel
theorem d_M_nearest_55 : decode (z_c m_M_nearest) 55 = .ok (.iload_n 2, 1) := by decide +kernel
theorem d_M_nearest_56 : decode (z_c m_M_nearest) 56 = .ok (.imul, 1) := by decide +kernel
theorem d_M_nearest_57 : decode (z_c m_M_nearest) 57 = .ok (.isub, 1) := by decide +kernel
theorem d_M_nearest_58 : decode (z_c m_M_nearest) 58 = .ok (.i2l, 1) := by decide +kernel
theorem d_M_nearest_59 : decode (z_c m_M_nearest) 59 = .ok (.aload_n 0, 1) := by decide +kernel
theorem d_M_nearest_60 : decode (z_c m_M_nearest) 60 = .ok (.getfield 47, 3) := by decide +kernel
theorem d_M_nearest_63 : decode (z_c m_M_nearest) 63 = .ok (.iload_n 3, 1) := by decide +kernel
theorem d_M_nearest_64 : decode (z_c m_M_nearest) 64 = .ok (.iaload, 1) := by decide +kernel
theorem d_M_nearest_65 : decode (z_c m_M_nearest) 65 = .ok (.i2l, 1) := by decide +kernel
theorem d_M_nearest_66 : decode (z_c m_M_nearest) 66 = .ok (.lmul, 1) := by decide +kernel
theorem d_M_nearest_67 : decode (z_c m_M_nearest) 67 = .ok (.lstore 4, 2) := by decide +kernel
theorem d_M_nearest_69 : decode (z_c m_M_nearest) 69 = .ok (.aload_n 0, 1) := by decide +kernel
theorem d_M_nearest_70 : decode (z_c m_M_nearest) 70 = .ok (.getfield 44, 3) := by decide +kernel
theorem d_M_nearest_73 : decode (z_c m_M_nearest) 73 = .ok (.iload_n 3, 1) := by decide +kernel
theorem d_M_nearest_74 : decode (z_c m_M_nearest) 74 = .ok (.iaload, 1) := by decide +kernel
theorem d_M_nearest_75 : decode (z_c m_M_nearest) 75 = .ok (.iload_n 2, 1) := by decide +kernel
theorem d_M_nearest_76 : decode (z_c m_M_nearest) 76 = .ok (.imul, 1) := by decide +kernel
theorem d_M_nearest_77 : decode (z_c m_M_nearest) 77 = .ok (.iload_n 1, 1) := by decide +kernel
theorem d_M_nearest_78 : decode (z_c m_M_nearest) 78 = .ok (.aload_n 0, 1) := by decide +kernel
theorem d_M_nearest_79 : decode (z_c m_M_nearest) 79 = .ok (.getfield 47, 3) := by decide +kernel
theorem d_M_nearest_82 : decode (z_c m_M_nearest) 82 = .ok (.iload_n 3, 1) := by decide +kernel
theorem d_M_nearest_83 : decode (z_c m_M_nearest) 83 = .ok (.iaload, 1) := by decide +kernel
theorem d_M_nearest_84 : decode (z_c m_M_nearest) 84 = .ok (.imul, 1) := by decide +kernel
theorem d_M_nearest_85 : decode (z_c m_M_nearest) 85 = .ok (.isub, 1) := by decide +kernel
theorem d_M_nearest_86 : decode (z_c m_M_nearest) 86 = .ok (.i2l, 1) := by decide +kernel
theorem d_M_nearest_87 : decode (z_c m_M_nearest) 87 = .ok (.aload_n 0, 1) := by decide +kernel
theorem d_M_nearest_88 : decode (z_c m_M_nearest) 88 = .ok (.getfield 47, 3) := by decide +kernel
theorem d_M_nearest_91 : decode (z_c m_M_nearest) 91 = .ok (.iload_n 3, 1) := by decide +kernel
theorem d_M_nearest_92 : decode (z_c m_M_nearest) 92 = .ok (.iconst 1, 1) := by decide +kernel
theorem d_M_nearest_93 : decode (z_c m_M_nearest) 93 = .ok (.isub, 1) := by decide +kernel
theorem d_M_nearest_94 : decode (z_c m_M_nearest) 94 = .ok (.iaload, 1) := by decide +kernel
theorem d_M_nearest_95 : decode (z_c m_M_nearest) 95 = .ok (.i2l, 1) := by decide +kernel
theorem d_M_nearest_96 : decode (z_c m_M_nearest) 96 = .ok (.lmul, 1) := by decide +kernel
theorem d_M_nearest_97 : decode (z_c m_M_nearest) 97 = .ok (.lstore 6, 2) := by decide +kernel
theorem d_M_nearest_99 : decode (z_c m_M_nearest) 99 = .ok (.aload_n 0, 1) := by decide +kernel
theorem d_M_nearest_100 : decode (z_c m_M_nearest) 100 = .ok (.lload 4, 2) := by decide +kernel
theorem d_M_nearest_102 : decode (z_c m_M_nearest) 102 = .ok (.lload 6, 2) := by decide +kernel
theorem d_M_nearest_104 : decode (z_c m_M_nearest) 104 = .ok (.lcmp, 1) := by decide +kernel
theorem d_M_nearest_105 : decode (z_c m_M_nearest) 105 = .ok (.ifCond .gt 9, 3) := by decide +kernel
theorem d_M_nearest_108 : decode (z_c m_M_nearest) 108 = .ok (.iload_n 3, 1) := by decide +kernel
theorem d_M_nearest_109 : decode (z_c m_M_nearest) 109 = .ok (.iconst 1, 1) := by decide +kernel
theorem d_M_nearest_110 : decode (z_c m_M_nearest) 110 = .ok (.isub, 1) := by decide +kernel
theorem d_M_nearest_111 : decode (z_c m_M_nearest) 111 = .ok (.goto 4, 3) := by decide +kernel
theorem d_M_nearest_114 : decode (z_c m_M_nearest) 114 = .ok (.iload_n 3, 1) := by decide +kernel
theorem d_M_nearest_115 : decode (z_c m_M_nearest) 115 = .ok (.invokevirtual 269, 3) := by decide +kernel
theorem d_M_nearest_118 : decode (z_c m_M_nearest) 118 = .ok (.ireturn, 1) := by decide +kernel
set_option maxRecDepth 8000 in
theorem b_M_nearest_0 {X : z_X} {N : Nat} {σ g : z_G} {Q : z_P} {a1 a2 : Int} (hx : z_lay X N σ 0 z_SM z_RM) (h : ((a2 < 1) → Q 0 (z_up g 0 1 1)) ∧ (¬ (a2 < 1) → (((9999 < a2) → Q 0 (z_up g 0 1 1)) ∧ (¬ (9999 < a2) → (((a1 < 0) → Q 0 (z_up g 0 1 1)) ∧ (¬ (a1 < 0) → (((a2 < a1) → Q 0 (z_up g 0 1 1)) ∧ (¬ (a2 < a1) → (z_O X 4 m_M_lessThan [(2, 0), (0, a1), (0, a2)] N σ g (fun r0 g0 => ((((g0 0 24) ≤ r0) → ((-2147483648 ≤ (r0 - 1) ∧ (r0 - 1) ≤ 2147483647) ∧ ((0 ≤ (r0 - 1) ∧ (r0 - 1) < 12233) ∧ ((-2147483648 ≤ (a1 * (g0 9 (r0 - 1))) ∧ (a1 * (g0 9 (r0 - 1))) ≤ 2147483647) ∧ ((-2147483648 ≤ ((g0 8 (r0 - 1)) * a2) ∧ ((g0 8 (r0 - 1)) * a2) ≤ 2147483647) ∧ ((-2147483648 ≤ ((a1 * (g0 9 (r0 - 1))) - ((g0 8 (r0 - 1)) * a2)) ∧ ((a1 * (g0 9 (r0 - 1))) - ((g0 8 (r0 - 1)) * a2)) ≤ 2147483647) ∧ ((0 ≤ r0 ∧ r0 < 12233) ∧ ((-9223372036854775808 ≤ (((a1 * (g0 9 (r0 - 1))) - ((g0 8 (r0 - 1)) * a2)) * (g0 9 r0)) ∧ (((a1 * (g0 9 (r0 - 1))) - ((g0 8 (r0 - 1)) * a2)) * (g0 9 r0)) ≤ 9223372036854775807) ∧ ((-2147483648 ≤ ((g0 8 r0) * a2) ∧ ((g0 8 r0) * a2) ≤ 2147483647) ∧ ((-2147483648 ≤ (a1 * (g0 9 r0)) ∧ (a1 * (g0 9 r0)) ≤ 2147483647) ∧ ((-2147483648 ≤ (((g0 8 r0) * a2) - (a1 * (g0 9 r0))) ∧ (((g0 8 r0) * a2) - (a1 * (g0 9 r0))) ≤ 2147483647) ∧ ((-9223372036854775808 ≤ ((((g0 8 r0) * a2) - (a1 * (g0 9 r0))) * (g0 9 (r0 - 1))) ∧ ((((g0 8 r0) * a2) - (a1 * (g0 9 r0))) * (g0 9 (r0 - 1))) ≤ 9223372036854775807) ∧ (((((((g0 8 r0) * a2) - (a1 * (g0 9 r0))) * (g0 9 (r0 - 1))) < (((a1 * (g0 9 (r0 - 1))) - ((g0 8 (r0 - 1)) * a2)) * (g0 9 r0))) → (z_O X 3 m_M_tellsRow [(2, 0), (0, r0)] N σ g0 (fun r1 g1 => (r1 = 0 ∨ r1 = 1) → Q r1 g1))) ∧ (¬ (((((g0 8 r0) * a2) - (a1 * (g0 9 r0))) * (g0 9 (r0 - 1))) < (((a1 * (g0 9 (r0 - 1))) - ((g0 8 (r0 - 1)) * a2)) * (g0 9 r0))) → (z_O X 3 m_M_tellsRow [(2, 0), (0, r0 - 1)] N σ g0 (fun r2 g2 => (r2 = 0 ∨ r2 = 1) → Q r2 g2)))))))))))))))) ∧ (¬ ((g0 0 24) ≤ r0) → ((0 ≤ r0 ∧ r0 < 12233) ∧ ((-2147483648 ≤ ((g0 8 r0) * a2) ∧ ((g0 8 r0) * a2) ≤ 2147483647) ∧ ((-2147483648 ≤ (a1 * (g0 9 r0)) ∧ (a1 * (g0 9 r0)) ≤ 2147483647) ∧ (((((g0 8 r0) * a2) = (a1 * (g0 9 r0))) → (z_O X 3 m_M_tellsRow [(2, 0), (0, r0)] N σ g0 (fun r3 g3 => (r3 = 0 ∨ r3 = 1) → Q r3 g3))) ∧ (¬ (((g0 8 r0) * a2) = (a1 * (g0 9 r0))) → ((-2147483648 ≤ (r0 - 1) ∧ (r0 - 1) ≤ 2147483647) ∧ ((0 ≤ (r0 - 1) ∧ (r0 - 1) < 12233) ∧ ((-2147483648 ≤ (a1 * (g0 9 (r0 - 1))) ∧ (a1 * (g0 9 (r0 - 1))) ≤ 2147483647) ∧ ((-2147483648 ≤ ((g0 8 (r0 - 1)) * a2) ∧ ((g0 8 (r0 - 1)) * a2) ≤ 2147483647) ∧ ((-2147483648 ≤ ((a1 * (g0 9 (r0 - 1))) - ((g0 8 (r0 - 1)) * a2)) ∧ ((a1 * (g0 9 (r0 - 1))) - ((g0 8 (r0 - 1)) * a2)) ≤ 2147483647) ∧ ((-9223372036854775808 ≤ (((a1 * (g0 9 (r0 - 1))) - ((g0 8 (r0 - 1)) * a2)) * (g0 9 r0)) ∧ (((a1 * (g0 9 (r0 - 1))) - ((g0 8 (r0 - 1)) * a2)) * (g0 9 r0)) ≤ 9223372036854775807) ∧ ((-2147483648 ≤ (((g0 8 r0) * a2) - (a1 * (g0 9 r0))) ∧ (((g0 8 r0) * a2) - (a1 * (g0 9 r0))) ≤ 2147483647) ∧ ((-9223372036854775808 ≤ ((((g0 8 r0) * a2) - (a1 * (g0 9 r0))) * (g0 9 (r0 - 1))) ∧ ((((g0 8 r0) * a2) - (a1 * (g0 9 r0))) * (g0 9 (r0 - 1))) ≤ 9223372036854775807) ∧ (((((((g0 8 r0) * a2) - (a1 * (g0 9 r0))) * (g0 9 (r0 - 1))) < (((a1 * (g0 9 (r0 - 1))) - ((g0 8 (r0 - 1)) * a2)) * (g0 9 r0))) → (z_O X 3 m_M_tellsRow [(2, 0), (0, r0)] N σ g0 (fun r4 g4 => (r4 = 0 ∨ r4 = 1) → Q r4 g4))) ∧ (¬ (((((g0 8 r0) * a2) - (a1 * (g0 9 r0))) * (g0 9 (r0 - 1))) < (((a1 * (g0 9 (r0 - 1))) - ((g0 8 (r0 - 1)) * a2)) * (g0 9 r0))) → (z_O X 3 m_M_tellsRow [(2, 0), (0, r0 - 1)] N σ g0 (fun r5 g5 => (r5 = 0 ∨ r5 = 1) → Q r5 g5))))))))))))))))))))))))))))) : z_O X 5 m_M_nearest [(2, 0), (0, a1), (0, a2)] N σ g Q := by
  refine z_Oenter mi_M_nearest rfl (fun _ => ?_)
  show z_U X 5 m_M_nearest 0 [(0, (2, 0)), (1, (0, a1)), (2, (0, a2))] [] N σ g Q
  refine z_iload_n (i := 1) 1 d_M_nearest_0 rfl rfl ?_
  refine z_iload_n (i := 2) 2 d_M_nearest_1 rfl rfl ?_
  refine z_cS (as := [(0, a1), (0, a2)]) (d' := 1) (st := []) d_M_nearest_2 mi_M_isValue ml_M_272 ms_M_isValue rfl rfl rfl rfl rfl (b_M_isValue_0  ?_)
  refine ⟨fun c1 => ?_, fun c1 => ?_⟩
  · have h := h.1 c1
    intro _
    show z_U X 5 m_M_nearest 5 [(0, (2, 0)), (1, (0, a1)), (2, (0, a2))] [(0, 0)] N σ g Q
    refine z_if_ne (tgt := 14) d_M_nearest_5 (by decide) (fun c => absurd (by decide) c) (fun _ => ?_)
    refine z_aload_n (i := 0) (c := 0) 0 d_M_nearest_8 rfl rfl rfl ?_
    refine z_iconst (n := 1) d_M_nearest_9 (by decide) ?_
    refine z_cV (c := 0) (as := [(0, 1)]) (d' := 1) (st := []) d_M_nearest_10 mi_M_is ml_M_94 mv_M_is se_M_is rfl rfl rfl rfl (ks_M_0 hx) rfl rfl (kl_M_0 hx) rfl rfl (b_M_is_0 hx ?_)
    refine ⟨fun c => absurd c (by decide), fun _ => ?_⟩
    intro _
    show z_U X 5 m_M_nearest 13 [(0, (2, 0)), (1, (0, a1)), (2, (0, a2))] [(0, 0)] N σ (z_up g 0 1 1) Q
    exact z_zret d_M_nearest_13 rfl (by decide) (by decide) (by decide) ⟨rfl, rfl, h⟩
  · have h := h.2 c1
    refine ⟨fun c2 => ?_, fun c2 => ?_⟩
    · have h := h.1 c2
      intro _
      show z_U X 5 m_M_nearest 5 [(0, (2, 0)), (1, (0, a1)), (2, (0, a2))] [(0, 0)] N σ g Q
      refine z_if_ne (tgt := 14) d_M_nearest_5 (by decide) (fun c => absurd (by decide) c) (fun _ => ?_)
      refine z_aload_n (i := 0) (c := 0) 0 d_M_nearest_8 rfl rfl rfl ?_
      refine z_iconst (n := 1) d_M_nearest_9 (by decide) ?_
      refine z_cV (c := 0) (as := [(0, 1)]) (d' := 1) (st := []) d_M_nearest_10 mi_M_is ml_M_94 mv_M_is se_M_is rfl rfl rfl rfl (ks_M_0 hx) rfl rfl (kl_M_0 hx) rfl rfl (b_M_is_0 hx ?_)
      refine ⟨fun c => absurd c (by decide), fun _ => ?_⟩
      intro _
      show z_U X 5 m_M_nearest 13 [(0, (2, 0)), (1, (0, a1)), (2, (0, a2))] [(0, 0)] N σ (z_up g 0 1 1) Q
      exact z_zret d_M_nearest_13 rfl (by decide) (by decide) (by decide) ⟨rfl, rfl, h⟩
    · have h := h.2 c2
      refine ⟨fun c3 => ?_, fun c3 => ?_⟩
      · have h := h.1 c3
        intro _
        show z_U X 5 m_M_nearest 5 [(0, (2, 0)), (1, (0, a1)), (2, (0, a2))] [(0, 0)] N σ g Q
        refine z_if_ne (tgt := 14) d_M_nearest_5 (by decide) (fun c => absurd (by decide) c) (fun _ => ?_)
        refine z_aload_n (i := 0) (c := 0) 0 d_M_nearest_8 rfl rfl rfl ?_
        refine z_iconst (n := 1) d_M_nearest_9 (by decide) ?_
        refine z_cV (c := 0) (as := [(0, 1)]) (d' := 1) (st := []) d_M_nearest_10 mi_M_is ml_M_94 mv_M_is se_M_is rfl rfl rfl rfl (ks_M_0 hx) rfl rfl (kl_M_0 hx) rfl rfl (b_M_is_0 hx ?_)
        refine ⟨fun c => absurd c (by decide), fun _ => ?_⟩
        intro _
        show z_U X 5 m_M_nearest 13 [(0, (2, 0)), (1, (0, a1)), (2, (0, a2))] [(0, 0)] N σ (z_up g 0 1 1) Q
        exact z_zret d_M_nearest_13 rfl (by decide) (by decide) (by decide) ⟨rfl, rfl, h⟩
      · have h := h.2 c3
        refine ⟨fun c4 => ?_, fun c4 => ?_⟩
        · have h := h.1 c4
          intro _
          show z_U X 5 m_M_nearest 5 [(0, (2, 0)), (1, (0, a1)), (2, (0, a2))] [(0, 0)] N σ g Q
          refine z_if_ne (tgt := 14) d_M_nearest_5 (by decide) (fun c => absurd (by decide) c) (fun _ => ?_)
          refine z_aload_n (i := 0) (c := 0) 0 d_M_nearest_8 rfl rfl rfl ?_
          refine z_iconst (n := 1) d_M_nearest_9 (by decide) ?_
          refine z_cV (c := 0) (as := [(0, 1)]) (d' := 1) (st := []) d_M_nearest_10 mi_M_is ml_M_94 mv_M_is se_M_is rfl rfl rfl rfl (ks_M_0 hx) rfl rfl (kl_M_0 hx) rfl rfl (b_M_is_0 hx ?_)
          refine ⟨fun c => absurd c (by decide), fun _ => ?_⟩
          intro _
          show z_U X 5 m_M_nearest 13 [(0, (2, 0)), (1, (0, a1)), (2, (0, a2))] [(0, 0)] N σ (z_up g 0 1 1) Q
          exact z_zret d_M_nearest_13 rfl (by decide) (by decide) (by decide) ⟨rfl, rfl, h⟩
        · have h := h.2 c4
          intro _
          show z_U X 5 m_M_nearest 5 [(0, (2, 0)), (1, (0, a1)), (2, (0, a2))] [(0, 1)] N σ g Q
          refine z_if_ne (tgt := 14) d_M_nearest_5 (by decide) (fun _ => ?_) (fun c => absurd c (by decide))
          refine z_aload_n (i := 0) (c := 0) 0 d_M_nearest_14 rfl rfl rfl ?_
          refine z_iload_n (i := 1) 1 d_M_nearest_15 rfl rfl ?_
          refine z_iload_n (i := 2) 2 d_M_nearest_16 rfl rfl ?_
          refine z_cV (c := 0) (as := [(0, a1), (0, a2)]) (d' := 4) (st := []) d_M_nearest_17 mi_M_lessThan ml_M_275 mv_M_lessThan se_M_lessThan rfl rfl rfl rfl (ks_M_0 hx) rfl rfl (kl_M_0 hx) rfl rfl (z_Omono h (fun r0 g0 _ h hro => ?_))
          show z_U X 5 m_M_nearest 20 [(0, (2, 0)), (1, (0, a1)), (2, (0, a2))] [(0, r0)] N σ g0 Q
          refine z_istore_n (i := 3) (ls' := [(3, (0, r0)), (0, (2, 0)), (1, (0, a1)), (2, (0, a2))]) d_M_nearest_20 rfl rfl rfl ?_
          refine z_aload_n (i := 0) (c := 0) 1 d_M_nearest_21 rfl rfl rfl ?_
          refine z_iload_n (i := 3) 0 d_M_nearest_22 rfl rfl ?_
          refine z_iload_n (i := 1) 2 d_M_nearest_23 rfl rfl ?_
          refine z_iload_n (i := 2) 3 d_M_nearest_24 rfl rfl ?_
          refine z_cV (c := 0) (as := [(0, r0), (0, a1), (0, a2)]) (d' := 1) (st := []) d_M_nearest_25 mi_M_isAt ml_M_278 mv_M_isAt se_M_isAt rfl rfl rfl rfl (ks_M_0 hx) rfl rfl (kl_M_0 hx) rfl rfl (b_M_isAt_0 hx ?_)
          refine ⟨fun c5 => ?_, fun c5 => ?_⟩
          · have h := h.1 c5
            intro _
            show z_U X 5 m_M_nearest 28 [(3, (0, r0)), (0, (2, 0)), (1, (0, a1)), (2, (0, a2))] [(0, 0)] N σ g0 Q
            refine z_if_eq (tgt := 37) d_M_nearest_28 (by decide) (fun _ => ?_) (fun c => absurd (by decide) c)
            refine z_iload_n (i := 1) 2 d_M_nearest_37 rfl rfl ?_
            refine z_aload_n (i := 0) (c := 0) 1 d_M_nearest_38 rfl rfl rfl ?_
            refine z_getr (c := 0) (kI := 23) (r2 := 9) d_M_nearest_39 fd_M_bottomBy fl_M_47 rfl rfl rfl (ks_M_0 hx) (kl_M_0 hx) (kr_M_0_23 hx) ?_
            refine z_iload_n (i := 3) 0 d_M_nearest_42 rfl rfl ?_
            refine z_iconst (n := 1) d_M_nearest_43 (by decide) ?_
            obtain ⟨c6, h⟩ := h
            refine z_isub d_M_nearest_44 c6 ?_
            obtain ⟨c7, h⟩ := h
            refine z_iald (c := 9) (m := 12233) d_M_nearest_45 rfl (ks_M_9 hx) (kl_M_9 hx) rfl (by decide) c7 ?_
            obtain ⟨c8, h⟩ := h
            refine z_imul d_M_nearest_46 c8 ?_
            refine z_aload_n (i := 0) (c := 0) 1 d_M_nearest_47 rfl rfl rfl ?_
            refine z_getr (c := 0) (kI := 22) (r2 := 8) d_M_nearest_48 fd_M_topBy fl_M_44 rfl rfl rfl (ks_M_0 hx) (kl_M_0 hx) (kr_M_0_22 hx) ?_
            refine z_iload_n (i := 3) 0 d_M_nearest_51 rfl rfl ?_
            refine z_iconst (n := 1) d_M_nearest_52 (by decide) ?_
            refine z_isub d_M_nearest_53 c6 ?_
            refine z_iald (c := 8) (m := 12233) d_M_nearest_54 rfl (ks_M_8 hx) (kl_M_8 hx) rfl (by decide) c7 ?_
            refine z_iload_n (i := 2) 3 d_M_nearest_55 rfl rfl ?_
            obtain ⟨c9, h⟩ := h
            refine z_imul d_M_nearest_56 c9 ?_
            obtain ⟨c10, h⟩ := h
            refine z_isub d_M_nearest_57 c10 ?_
            refine z_i2l d_M_nearest_58 ?_
            refine z_aload_n (i := 0) (c := 0) 1 d_M_nearest_59 rfl rfl rfl ?_
            refine z_getr (c := 0) (kI := 23) (r2 := 9) d_M_nearest_60 fd_M_bottomBy fl_M_47 rfl rfl rfl (ks_M_0 hx) (kl_M_0 hx) (kr_M_0_23 hx) ?_
            refine z_iload_n (i := 3) 0 d_M_nearest_63 rfl rfl ?_
            obtain ⟨c11, h⟩ := h
            refine z_iald (c := 9) (m := 12233) d_M_nearest_64 rfl (ks_M_9 hx) (kl_M_9 hx) rfl (by decide) c11 ?_
            refine z_i2l d_M_nearest_65 ?_
            obtain ⟨c12, h⟩ := h
            refine z_lmul d_M_nearest_66 c12 ?_
            refine z_lstore (ls' := [(4, (1, ((a1 * (g0 9 (r0 - 1))) - ((g0 8 (r0 - 1)) * a2)) * (g0 9 r0))), (3, (0, r0)), (0, (2, 0)), (1, (0, a1)), (2, (0, a2))]) d_M_nearest_67 rfl rfl ?_
            refine z_aload_n (i := 0) (c := 0) 2 d_M_nearest_69 rfl rfl rfl ?_
            refine z_getr (c := 0) (kI := 22) (r2 := 8) d_M_nearest_70 fd_M_topBy fl_M_44 rfl rfl rfl (ks_M_0 hx) (kl_M_0 hx) (kr_M_0_22 hx) ?_
            refine z_iload_n (i := 3) 1 d_M_nearest_73 rfl rfl ?_
            refine z_iald (c := 8) (m := 12233) d_M_nearest_74 rfl (ks_M_8 hx) (kl_M_8 hx) rfl (by decide) c11 ?_
            refine z_iload_n (i := 2) 4 d_M_nearest_75 rfl rfl ?_
            obtain ⟨c13, h⟩ := h
            refine z_imul d_M_nearest_76 c13 ?_
            refine z_iload_n (i := 1) 3 d_M_nearest_77 rfl rfl ?_
            refine z_aload_n (i := 0) (c := 0) 2 d_M_nearest_78 rfl rfl rfl ?_
            refine z_getr (c := 0) (kI := 23) (r2 := 9) d_M_nearest_79 fd_M_bottomBy fl_M_47 rfl rfl rfl (ks_M_0 hx) (kl_M_0 hx) (kr_M_0_23 hx) ?_
            refine z_iload_n (i := 3) 1 d_M_nearest_82 rfl rfl ?_
            refine z_iald (c := 9) (m := 12233) d_M_nearest_83 rfl (ks_M_9 hx) (kl_M_9 hx) rfl (by decide) c11 ?_
            obtain ⟨c14, h⟩ := h
            refine z_imul d_M_nearest_84 c14 ?_
            obtain ⟨c15, h⟩ := h
            refine z_isub d_M_nearest_85 c15 ?_
            refine z_i2l d_M_nearest_86 ?_
            refine z_aload_n (i := 0) (c := 0) 2 d_M_nearest_87 rfl rfl rfl ?_
            refine z_getr (c := 0) (kI := 23) (r2 := 9) d_M_nearest_88 fd_M_bottomBy fl_M_47 rfl rfl rfl (ks_M_0 hx) (kl_M_0 hx) (kr_M_0_23 hx) ?_
            refine z_iload_n (i := 3) 1 d_M_nearest_91 rfl rfl ?_
            refine z_iconst (n := 1) d_M_nearest_92 (by decide) ?_
            refine z_isub d_M_nearest_93 c6 ?_
            refine z_iald (c := 9) (m := 12233) d_M_nearest_94 rfl (ks_M_9 hx) (kl_M_9 hx) rfl (by decide) c7 ?_
            refine z_i2l d_M_nearest_95 ?_
            obtain ⟨c16, h⟩ := h
            refine z_lmul d_M_nearest_96 c16 ?_
            refine z_lstore (ls' := [(6, (1, (((g0 8 r0) * a2) - (a1 * (g0 9 r0))) * (g0 9 (r0 - 1)))), (4, (1, ((a1 * (g0 9 (r0 - 1))) - ((g0 8 (r0 - 1)) * a2)) * (g0 9 r0))), (3, (0, r0)), (0, (2, 0)), (1, (0, a1)), (2, (0, a2))]) d_M_nearest_97 rfl rfl ?_
            refine z_aload_n (i := 0) (c := 0) 3 d_M_nearest_99 rfl rfl rfl ?_
            refine z_lload 1 d_M_nearest_100 rfl ?_
            refine z_lload 0 d_M_nearest_102 rfl ?_
            refine z_lcmp_gt (tgt := 114) d_M_nearest_104 d_M_nearest_105 (by decide) (fun c17 => ?_) (fun c17 => ?_)
            · have h := h.1 c17
              refine z_iload_n (i := 3) 2 d_M_nearest_114 rfl rfl ?_
              refine z_cV (c := 0) (as := [(0, r0)]) (d' := 3) (st := []) d_M_nearest_115 mi_M_tellsRow ml_M_269 mv_M_tellsRow se_M_tellsRow rfl rfl rfl rfl (ks_M_0 hx) rfl rfl (kl_M_0 hx) rfl rfl (z_Omono h (fun r1 g1 _ h hro => ?_))
              have h := h (z_b01 hro)
              have hzr1 := z_b01 hro
              show z_U X 5 m_M_nearest 118 [(6, (1, (((g0 8 r0) * a2) - (a1 * (g0 9 r0))) * (g0 9 (r0 - 1)))), (4, (1, ((a1 * (g0 9 (r0 - 1))) - ((g0 8 (r0 - 1)) * a2)) * (g0 9 r0))), (3, (0, r0)), (0, (2, 0)), (1, (0, a1)), (2, (0, a2))] [(0, r1)] N σ g1 Q
              exact z_zret d_M_nearest_118 rfl (by decide) (by decide) hzr1 ⟨rfl, rfl, h⟩
            · have h := h.2 c17
              refine z_iload_n (i := 3) 2 d_M_nearest_108 rfl rfl ?_
              refine z_iconst (n := 1) d_M_nearest_109 (by decide) ?_
              refine z_isub d_M_nearest_110 c6 ?_
              refine z_goto (tgt := 115) d_M_nearest_111 (by decide) ?_
              refine z_cV (c := 0) (as := [(0, r0 - 1)]) (d' := 3) (st := []) d_M_nearest_115 mi_M_tellsRow ml_M_269 mv_M_tellsRow se_M_tellsRow rfl rfl rfl rfl (ks_M_0 hx) rfl rfl (kl_M_0 hx) rfl rfl (z_Omono h (fun r2 g2 _ h hro => ?_))
              have h := h (z_b01 hro)
              have hzr2 := z_b01 hro
              show z_U X 5 m_M_nearest 118 [(6, (1, (((g0 8 r0) * a2) - (a1 * (g0 9 r0))) * (g0 9 (r0 - 1)))), (4, (1, ((a1 * (g0 9 (r0 - 1))) - ((g0 8 (r0 - 1)) * a2)) * (g0 9 r0))), (3, (0, r0)), (0, (2, 0)), (1, (0, a1)), (2, (0, a2))] [(0, r2)] N σ g2 Q
              exact z_zret d_M_nearest_118 rfl (by decide) (by decide) hzr2 ⟨rfl, rfl, h⟩
          · have h := h.2 c5
            obtain ⟨c18, h⟩ := h
            refine ⟨c18, ?_⟩
            obtain ⟨c19, h⟩ := h
            refine ⟨c19, ?_⟩
            obtain ⟨c20, h⟩ := h
            refine ⟨c20, ?_⟩
            refine ⟨fun c21 => ?_, fun c21 => ?_⟩
            · have h := h.1 c21
              intro _
              show z_U X 5 m_M_nearest 28 [(3, (0, r0)), (0, (2, 0)), (1, (0, a1)), (2, (0, a2))] [(0, 1)] N σ g0 Q
              refine z_if_eq (tgt := 37) d_M_nearest_28 (by decide) (fun c => absurd c (by decide)) (fun _ => ?_)
              refine z_aload_n (i := 0) (c := 0) 1 d_M_nearest_31 rfl rfl rfl ?_
              refine z_iload_n (i := 3) 0 d_M_nearest_32 rfl rfl ?_
              refine z_cV (c := 0) (as := [(0, r0)]) (d' := 3) (st := []) d_M_nearest_33 mi_M_tellsRow ml_M_269 mv_M_tellsRow se_M_tellsRow rfl rfl rfl rfl (ks_M_0 hx) rfl rfl (kl_M_0 hx) rfl rfl (z_Omono h (fun r3 g3 _ h hro => ?_))
              have h := h (z_b01 hro)
              have hzr3 := z_b01 hro
              show z_U X 5 m_M_nearest 36 [(3, (0, r0)), (0, (2, 0)), (1, (0, a1)), (2, (0, a2))] [(0, r3)] N σ g3 Q
              exact z_zret d_M_nearest_36 rfl (by decide) (by decide) hzr3 ⟨rfl, rfl, h⟩
            · have h := h.2 c21
              intro _
              show z_U X 5 m_M_nearest 28 [(3, (0, r0)), (0, (2, 0)), (1, (0, a1)), (2, (0, a2))] [(0, 0)] N σ g0 Q
              refine z_if_eq (tgt := 37) d_M_nearest_28 (by decide) (fun _ => ?_) (fun c => absurd (by decide) c)
              refine z_iload_n (i := 1) 2 d_M_nearest_37 rfl rfl ?_
              refine z_aload_n (i := 0) (c := 0) 1 d_M_nearest_38 rfl rfl rfl ?_
              refine z_getr (c := 0) (kI := 23) (r2 := 9) d_M_nearest_39 fd_M_bottomBy fl_M_47 rfl rfl rfl (ks_M_0 hx) (kl_M_0 hx) (kr_M_0_23 hx) ?_
              refine z_iload_n (i := 3) 0 d_M_nearest_42 rfl rfl ?_
              refine z_iconst (n := 1) d_M_nearest_43 (by decide) ?_
              obtain ⟨c22, h⟩ := h
              refine z_isub d_M_nearest_44 c22 ?_
              obtain ⟨c23, h⟩ := h
              refine z_iald (c := 9) (m := 12233) d_M_nearest_45 rfl (ks_M_9 hx) (kl_M_9 hx) rfl (by decide) c23 ?_
              obtain ⟨c24, h⟩ := h
              refine z_imul d_M_nearest_46 c24 ?_
              refine z_aload_n (i := 0) (c := 0) 1 d_M_nearest_47 rfl rfl rfl ?_
              refine z_getr (c := 0) (kI := 22) (r2 := 8) d_M_nearest_48 fd_M_topBy fl_M_44 rfl rfl rfl (ks_M_0 hx) (kl_M_0 hx) (kr_M_0_22 hx) ?_
              refine z_iload_n (i := 3) 0 d_M_nearest_51 rfl rfl ?_
              refine z_iconst (n := 1) d_M_nearest_52 (by decide) ?_
              refine z_isub d_M_nearest_53 c22 ?_
              refine z_iald (c := 8) (m := 12233) d_M_nearest_54 rfl (ks_M_8 hx) (kl_M_8 hx) rfl (by decide) c23 ?_
              refine z_iload_n (i := 2) 3 d_M_nearest_55 rfl rfl ?_
              obtain ⟨c25, h⟩ := h
              refine z_imul d_M_nearest_56 c25 ?_
              obtain ⟨c26, h⟩ := h
              refine z_isub d_M_nearest_57 c26 ?_
              refine z_i2l d_M_nearest_58 ?_
              refine z_aload_n (i := 0) (c := 0) 1 d_M_nearest_59 rfl rfl rfl ?_
              refine z_getr (c := 0) (kI := 23) (r2 := 9) d_M_nearest_60 fd_M_bottomBy fl_M_47 rfl rfl rfl (ks_M_0 hx) (kl_M_0 hx) (kr_M_0_23 hx) ?_
              refine z_iload_n (i := 3) 0 d_M_nearest_63 rfl rfl ?_
              refine z_iald (c := 9) (m := 12233) d_M_nearest_64 rfl (ks_M_9 hx) (kl_M_9 hx) rfl (by decide) c18 ?_
              refine z_i2l d_M_nearest_65 ?_
              obtain ⟨c27, h⟩ := h
              refine z_lmul d_M_nearest_66 c27 ?_
              refine z_lstore (ls' := [(4, (1, ((a1 * (g0 9 (r0 - 1))) - ((g0 8 (r0 - 1)) * a2)) * (g0 9 r0))), (3, (0, r0)), (0, (2, 0)), (1, (0, a1)), (2, (0, a2))]) d_M_nearest_67 rfl rfl ?_
              refine z_aload_n (i := 0) (c := 0) 2 d_M_nearest_69 rfl rfl rfl ?_
              refine z_getr (c := 0) (kI := 22) (r2 := 8) d_M_nearest_70 fd_M_topBy fl_M_44 rfl rfl rfl (ks_M_0 hx) (kl_M_0 hx) (kr_M_0_22 hx) ?_
              refine z_iload_n (i := 3) 1 d_M_nearest_73 rfl rfl ?_
              refine z_iald (c := 8) (m := 12233) d_M_nearest_74 rfl (ks_M_8 hx) (kl_M_8 hx) rfl (by decide) c18 ?_
              refine z_iload_n (i := 2) 4 d_M_nearest_75 rfl rfl ?_
              refine z_imul d_M_nearest_76 c19 ?_
              refine z_iload_n (i := 1) 3 d_M_nearest_77 rfl rfl ?_
              refine z_aload_n (i := 0) (c := 0) 2 d_M_nearest_78 rfl rfl rfl ?_
              refine z_getr (c := 0) (kI := 23) (r2 := 9) d_M_nearest_79 fd_M_bottomBy fl_M_47 rfl rfl rfl (ks_M_0 hx) (kl_M_0 hx) (kr_M_0_23 hx) ?_
              refine z_iload_n (i := 3) 1 d_M_nearest_82 rfl rfl ?_
              refine z_iald (c := 9) (m := 12233) d_M_nearest_83 rfl (ks_M_9 hx) (kl_M_9 hx) rfl (by decide) c18 ?_
              refine z_imul d_M_nearest_84 c20 ?_
              obtain ⟨c28, h⟩ := h
              refine z_isub d_M_nearest_85 c28 ?_
              refine z_i2l d_M_nearest_86 ?_
              refine z_aload_n (i := 0) (c := 0) 2 d_M_nearest_87 rfl rfl rfl ?_
              refine z_getr (c := 0) (kI := 23) (r2 := 9) d_M_nearest_88 fd_M_bottomBy fl_M_47 rfl rfl rfl (ks_M_0 hx) (kl_M_0 hx) (kr_M_0_23 hx) ?_
              refine z_iload_n (i := 3) 1 d_M_nearest_91 rfl rfl ?_
              refine z_iconst (n := 1) d_M_nearest_92 (by decide) ?_
              refine z_isub d_M_nearest_93 c22 ?_
              refine z_iald (c := 9) (m := 12233) d_M_nearest_94 rfl (ks_M_9 hx) (kl_M_9 hx) rfl (by decide) c23 ?_
              refine z_i2l d_M_nearest_95 ?_
              obtain ⟨c29, h⟩ := h
              refine z_lmul d_M_nearest_96 c29 ?_
              refine z_lstore (ls' := [(6, (1, (((g0 8 r0) * a2) - (a1 * (g0 9 r0))) * (g0 9 (r0 - 1)))), (4, (1, ((a1 * (g0 9 (r0 - 1))) - ((g0 8 (r0 - 1)) * a2)) * (g0 9 r0))), (3, (0, r0)), (0, (2, 0)), (1, (0, a1)), (2, (0, a2))]) d_M_nearest_97 rfl rfl ?_
              refine z_aload_n (i := 0) (c := 0) 3 d_M_nearest_99 rfl rfl rfl ?_
              refine z_lload 1 d_M_nearest_100 rfl ?_
              refine z_lload 0 d_M_nearest_102 rfl ?_
              refine z_lcmp_gt (tgt := 114) d_M_nearest_104 d_M_nearest_105 (by decide) (fun c30 => ?_) (fun c30 => ?_)
              · have h := h.1 c30
                refine z_iload_n (i := 3) 2 d_M_nearest_114 rfl rfl ?_
                refine z_cV (c := 0) (as := [(0, r0)]) (d' := 3) (st := []) d_M_nearest_115 mi_M_tellsRow ml_M_269 mv_M_tellsRow se_M_tellsRow rfl rfl rfl rfl (ks_M_0 hx) rfl rfl (kl_M_0 hx) rfl rfl (z_Omono h (fun r4 g4 _ h hro => ?_))
                have h := h (z_b01 hro)
                have hzr4 := z_b01 hro
                show z_U X 5 m_M_nearest 118 [(6, (1, (((g0 8 r0) * a2) - (a1 * (g0 9 r0))) * (g0 9 (r0 - 1)))), (4, (1, ((a1 * (g0 9 (r0 - 1))) - ((g0 8 (r0 - 1)) * a2)) * (g0 9 r0))), (3, (0, r0)), (0, (2, 0)), (1, (0, a1)), (2, (0, a2))] [(0, r4)] N σ g4 Q
                exact z_zret d_M_nearest_118 rfl (by decide) (by decide) hzr4 ⟨rfl, rfl, h⟩
              · have h := h.2 c30
                refine z_iload_n (i := 3) 2 d_M_nearest_108 rfl rfl ?_
                refine z_iconst (n := 1) d_M_nearest_109 (by decide) ?_
                refine z_isub d_M_nearest_110 c22 ?_
                refine z_goto (tgt := 115) d_M_nearest_111 (by decide) ?_
                refine z_cV (c := 0) (as := [(0, r0 - 1)]) (d' := 3) (st := []) d_M_nearest_115 mi_M_tellsRow ml_M_269 mv_M_tellsRow se_M_tellsRow rfl rfl rfl rfl (ks_M_0 hx) rfl rfl (kl_M_0 hx) rfl rfl (z_Omono h (fun r5 g5 _ h hro => ?_))
                have h := h (z_b01 hro)
                have hzr5 := z_b01 hro
                show z_U X 5 m_M_nearest 118 [(6, (1, (((g0 8 r0) * a2) - (a1 * (g0 9 r0))) * (g0 9 (r0 - 1)))), (4, (1, ((a1 * (g0 9 (r0 - 1))) - ((g0 8 (r0 - 1)) * a2)) * (g0 9 r0))), (3, (0, r0)), (0, (2, 0)), (1, (0, a1)), (2, (0, a2))] [(0, r5)] N σ g5 Q
                exact z_zret d_M_nearest_118 rfl (by decide) (by decide) hzr5 ⟨rfl, rfl, h⟩
theorem d_M_place_0 : decode (z_c m_M_place) 0 = .ok (.iload_n 1, 1) := by decide +kernel
theorem d_M_place_1 : decode (z_c m_M_place) 1 = .ok (.iload_n 2, 1) := by decide +kernel
theorem d_M_place_2 : decode (z_c m_M_place) 2 = .ok (.invokestatic 272, 3) := by decide +kernel
theorem d_M_place_5 : decode (z_c m_M_place) 5 = .ok (.ifCond .ne 9, 3) := by decide +kernel
theorem d_M_place_8 : decode (z_c m_M_place) 8 = .ok (.aload_n 0, 1) := by decide +kernel
theorem d_M_place_9 : decode (z_c m_M_place) 9 = .ok (.iconst 1, 1) := by decide +kernel
theorem d_M_place_10 : decode (z_c m_M_place) 10 = .ok (.invokevirtual 87, 3) := by decide +kernel
theorem d_M_place_13 : decode (z_c m_M_place) 13 = .ok (.ireturn, 1) := by decide +kernel
theorem d_M_place_14 : decode (z_c m_M_place) 14 = .ok (.aload_n 0, 1) := by decide +kernel
theorem d_M_place_15 : decode (z_c m_M_place) 15 = .ok (.iload_n 1, 1) := by decide +kernel
theorem d_M_place_16 : decode (z_c m_M_place) 16 = .ok (.iload_n 2, 1) := by decide +kernel
theorem d_M_place_17 : decode (z_c m_M_place) 17 = .ok (.invokevirtual 275, 3) := by decide +kernel
theorem d_M_place_20 : decode (z_c m_M_place) 20 = .ok (.istore_n 3, 1) := by decide +kernel
theorem d_M_place_21 : decode (z_c m_M_place) 21 = .ok (.aload_n 0, 1) := by decide +kernel
theorem d_M_place_22 : decode (z_c m_M_place) 22 = .ok (.iload_n 3, 1) := by decide +kernel
theorem d_M_place_23 : decode (z_c m_M_place) 23 = .ok (.iload_n 1, 1) := by decide +kernel
theorem d_M_place_24 : decode (z_c m_M_place) 24 = .ok (.iload_n 2, 1) := by decide +kernel
theorem d_M_place_25 : decode (z_c m_M_place) 25 = .ok (.invokevirtual 278, 3) := by decide +kernel
theorem d_M_place_28 : decode (z_c m_M_place) 28 = .ok (.ifCond .eq 11, 3) := by decide +kernel
theorem d_M_place_31 : decode (z_c m_M_place) 31 = .ok (.aload_n 0, 1) := by decide +kernel
theorem d_M_place_32 : decode (z_c m_M_place) 32 = .ok (.iload_n 3, 1) := by decide +kernel
theorem d_M_place_33 : decode (z_c m_M_place) 33 = .ok (.invokevirtual 91, 3) := by decide +kernel
theorem d_M_place_36 : decode (z_c m_M_place) 36 = .ok (.goto 9, 3) := by decide +kernel
theorem d_M_place_39 : decode (z_c m_M_place) 39 = .ok (.aload_n 0, 1) := by decide +kernel
theorem d_M_place_40 : decode (z_c m_M_place) 40 = .ok (.bipush 6, 2) := by decide +kernel
theorem d_M_place_42 : decode (z_c m_M_place) 42 = .ok (.invokevirtual 87, 3) := by decide +kernel
theorem d_M_place_45 : decode (z_c m_M_place) 45 = .ok (.ireturn, 1) := by decide +kernel
set_option maxRecDepth 8000 in
theorem b_M_place_0 {X : z_X} {N : Nat} {σ g : z_G} {Q : z_P} {a1 a2 : Int} (hx : z_lay X N σ 0 z_SM z_RM) (h : ((a2 < 1) → Q (-1) (z_up g 0 1 1)) ∧ (¬ (a2 < 1) → (((9999 < a2) → Q (-1) (z_up g 0 1 1)) ∧ (¬ (9999 < a2) → (((a1 < 0) → Q (-1) (z_up g 0 1 1)) ∧ (¬ (a1 < 0) → (((a2 < a1) → Q (-1) (z_up g 0 1 1)) ∧ (¬ (a2 < a1) → (z_O X 4 m_M_lessThan [(2, 0), (0, a1), (0, a2)] N σ g (fun r0 g0 => ((((g0 0 24) ≤ r0) → Q (-1) (z_up g0 0 1 6)) ∧ (¬ ((g0 0 24) ≤ r0) → ((0 ≤ r0 ∧ r0 < 12233) ∧ ((-2147483648 ≤ ((g0 8 r0) * a2) ∧ ((g0 8 r0) * a2) ≤ 2147483647) ∧ ((-2147483648 ≤ (a1 * (g0 9 r0)) ∧ (a1 * (g0 9 r0)) ≤ 2147483647) ∧ (((((g0 8 r0) * a2) = (a1 * (g0 9 r0))) → Q r0 (z_up g0 0 1 0)) ∧ (¬ (((g0 8 r0) * a2) = (a1 * (g0 9 r0))) → Q (-1) (z_up g0 0 1 6)))))))))))))))))) : z_O X 5 m_M_place [(2, 0), (0, a1), (0, a2)] N σ g Q := by
  refine z_Oenter mi_M_place rfl (fun _ => ?_)
  show z_U X 5 m_M_place 0 [(0, (2, 0)), (1, (0, a1)), (2, (0, a2))] [] N σ g Q
  refine z_iload_n (i := 1) 1 d_M_place_0 rfl rfl ?_
  refine z_iload_n (i := 2) 2 d_M_place_1 rfl rfl ?_
  refine z_cS (as := [(0, a1), (0, a2)]) (d' := 1) (st := []) d_M_place_2 mi_M_isValue ml_M_272 ms_M_isValue rfl rfl rfl rfl rfl (b_M_isValue_0  ?_)
  refine ⟨fun c1 => ?_, fun c1 => ?_⟩
  · have h := h.1 c1
    intro _
    show z_U X 5 m_M_place 5 [(0, (2, 0)), (1, (0, a1)), (2, (0, a2))] [(0, 0)] N σ g Q
    refine z_if_ne (tgt := 14) d_M_place_5 (by decide) (fun c => absurd (by decide) c) (fun _ => ?_)
    refine z_aload_n (i := 0) (c := 0) 0 d_M_place_8 rfl rfl rfl ?_
    refine z_iconst (n := 1) d_M_place_9 (by decide) ?_
    refine z_cV (c := 0) (as := [(0, 1)]) (d' := 1) (st := []) d_M_place_10 mi_M_refuse ml_M_87 mv_M_refuse se_M_refuse rfl rfl rfl rfl (ks_M_0 hx) rfl rfl (kl_M_0 hx) rfl rfl (b_M_refuse_0 hx ?_)
    intro _
    show z_U X 5 m_M_place 13 [(0, (2, 0)), (1, (0, a1)), (2, (0, a2))] [(0, (-1))] N σ (z_up g 0 1 1) Q
    exact z_iret d_M_place_13 rfl (by decide) (by decide) ⟨rfl, rfl, h⟩
  · have h := h.2 c1
    refine ⟨fun c2 => ?_, fun c2 => ?_⟩
    · have h := h.1 c2
      intro _
      show z_U X 5 m_M_place 5 [(0, (2, 0)), (1, (0, a1)), (2, (0, a2))] [(0, 0)] N σ g Q
      refine z_if_ne (tgt := 14) d_M_place_5 (by decide) (fun c => absurd (by decide) c) (fun _ => ?_)
      refine z_aload_n (i := 0) (c := 0) 0 d_M_place_8 rfl rfl rfl ?_
      refine z_iconst (n := 1) d_M_place_9 (by decide) ?_
      refine z_cV (c := 0) (as := [(0, 1)]) (d' := 1) (st := []) d_M_place_10 mi_M_refuse ml_M_87 mv_M_refuse se_M_refuse rfl rfl rfl rfl (ks_M_0 hx) rfl rfl (kl_M_0 hx) rfl rfl (b_M_refuse_0 hx ?_)
      intro _
      show z_U X 5 m_M_place 13 [(0, (2, 0)), (1, (0, a1)), (2, (0, a2))] [(0, (-1))] N σ (z_up g 0 1 1) Q
      exact z_iret d_M_place_13 rfl (by decide) (by decide) ⟨rfl, rfl, h⟩
    · have h := h.2 c2
      refine ⟨fun c3 => ?_, fun c3 => ?_⟩
      · have h := h.1 c3
        intro _
        show z_U X 5 m_M_place 5 [(0, (2, 0)), (1, (0, a1)), (2, (0, a2))] [(0, 0)] N σ g Q
        refine z_if_ne (tgt := 14) d_M_place_5 (by decide) (fun c => absurd (by decide) c) (fun _ => ?_)
        refine z_aload_n (i := 0) (c := 0) 0 d_M_place_8 rfl rfl rfl ?_
        refine z_iconst (n := 1) d_M_place_9 (by decide) ?_
        refine z_cV (c := 0) (as := [(0, 1)]) (d' := 1) (st := []) d_M_place_10 mi_M_refuse ml_M_87 mv_M_refuse se_M_refuse rfl rfl rfl rfl (ks_M_0 hx) rfl rfl (kl_M_0 hx) rfl rfl (b_M_refuse_0 hx ?_)
        intro _
        show z_U X 5 m_M_place 13 [(0, (2, 0)), (1, (0, a1)), (2, (0, a2))] [(0, (-1))] N σ (z_up g 0 1 1) Q
        exact z_iret d_M_place_13 rfl (by decide) (by decide) ⟨rfl, rfl, h⟩
      · have h := h.2 c3
        refine ⟨fun c4 => ?_, fun c4 => ?_⟩
        · have h := h.1 c4
          intro _
          show z_U X 5 m_M_place 5 [(0, (2, 0)), (1, (0, a1)), (2, (0, a2))] [(0, 0)] N σ g Q
          refine z_if_ne (tgt := 14) d_M_place_5 (by decide) (fun c => absurd (by decide) c) (fun _ => ?_)
          refine z_aload_n (i := 0) (c := 0) 0 d_M_place_8 rfl rfl rfl ?_
          refine z_iconst (n := 1) d_M_place_9 (by decide) ?_
          refine z_cV (c := 0) (as := [(0, 1)]) (d' := 1) (st := []) d_M_place_10 mi_M_refuse ml_M_87 mv_M_refuse se_M_refuse rfl rfl rfl rfl (ks_M_0 hx) rfl rfl (kl_M_0 hx) rfl rfl (b_M_refuse_0 hx ?_)
          intro _
          show z_U X 5 m_M_place 13 [(0, (2, 0)), (1, (0, a1)), (2, (0, a2))] [(0, (-1))] N σ (z_up g 0 1 1) Q
          exact z_iret d_M_place_13 rfl (by decide) (by decide) ⟨rfl, rfl, h⟩
        · have h := h.2 c4
          intro _
          show z_U X 5 m_M_place 5 [(0, (2, 0)), (1, (0, a1)), (2, (0, a2))] [(0, 1)] N σ g Q
          refine z_if_ne (tgt := 14) d_M_place_5 (by decide) (fun _ => ?_) (fun c => absurd c (by decide))
          refine z_aload_n (i := 0) (c := 0) 0 d_M_place_14 rfl rfl rfl ?_
          refine z_iload_n (i := 1) 1 d_M_place_15 rfl rfl ?_
          refine z_iload_n (i := 2) 2 d_M_place_16 rfl rfl ?_
          refine z_cV (c := 0) (as := [(0, a1), (0, a2)]) (d' := 4) (st := []) d_M_place_17 mi_M_lessThan ml_M_275 mv_M_lessThan se_M_lessThan rfl rfl rfl rfl (ks_M_0 hx) rfl rfl (kl_M_0 hx) rfl rfl (z_Omono h (fun r0 g0 _ h hro => ?_))
          show z_U X 5 m_M_place 20 [(0, (2, 0)), (1, (0, a1)), (2, (0, a2))] [(0, r0)] N σ g0 Q
          refine z_istore_n (i := 3) (ls' := [(3, (0, r0)), (0, (2, 0)), (1, (0, a1)), (2, (0, a2))]) d_M_place_20 rfl rfl rfl ?_
          refine z_aload_n (i := 0) (c := 0) 1 d_M_place_21 rfl rfl rfl ?_
          refine z_iload_n (i := 3) 0 d_M_place_22 rfl rfl ?_
          refine z_iload_n (i := 1) 2 d_M_place_23 rfl rfl ?_
          refine z_iload_n (i := 2) 3 d_M_place_24 rfl rfl ?_
          refine z_cV (c := 0) (as := [(0, r0), (0, a1), (0, a2)]) (d' := 1) (st := []) d_M_place_25 mi_M_isAt ml_M_278 mv_M_isAt se_M_isAt rfl rfl rfl rfl (ks_M_0 hx) rfl rfl (kl_M_0 hx) rfl rfl (b_M_isAt_0 hx ?_)
          refine ⟨fun c5 => ?_, fun c5 => ?_⟩
          · have h := h.1 c5
            intro _
            show z_U X 5 m_M_place 28 [(3, (0, r0)), (0, (2, 0)), (1, (0, a1)), (2, (0, a2))] [(0, 0)] N σ g0 Q
            refine z_if_eq (tgt := 39) d_M_place_28 (by decide) (fun _ => ?_) (fun c => absurd (by decide) c)
            refine z_aload_n (i := 0) (c := 0) 1 d_M_place_39 rfl rfl rfl ?_
            refine z_bipush (n := 6) d_M_place_40 (by decide) (by decide) ?_
            refine z_cV (c := 0) (as := [(0, 6)]) (d' := 1) (st := []) d_M_place_42 mi_M_refuse ml_M_87 mv_M_refuse se_M_refuse rfl rfl rfl rfl (ks_M_0 hx) rfl rfl (kl_M_0 hx) rfl rfl (b_M_refuse_0 hx ?_)
            intro _
            show z_U X 5 m_M_place 45 [(3, (0, r0)), (0, (2, 0)), (1, (0, a1)), (2, (0, a2))] [(0, (-1))] N σ (z_up g0 0 1 6) Q
            exact z_iret d_M_place_45 rfl (by decide) (by decide) ⟨rfl, rfl, h⟩
          · have h := h.2 c5
            obtain ⟨c6, h⟩ := h
            refine ⟨c6, ?_⟩
            obtain ⟨c7, h⟩ := h
            refine ⟨c7, ?_⟩
            obtain ⟨c8, h⟩ := h
            refine ⟨c8, ?_⟩
            refine ⟨fun c9 => ?_, fun c9 => ?_⟩
            · have h := h.1 c9
              intro _
              show z_U X 5 m_M_place 28 [(3, (0, r0)), (0, (2, 0)), (1, (0, a1)), (2, (0, a2))] [(0, 1)] N σ g0 Q
              refine z_if_eq (tgt := 39) d_M_place_28 (by decide) (fun c => absurd c (by decide)) (fun _ => ?_)
              refine z_aload_n (i := 0) (c := 0) 1 d_M_place_31 rfl rfl rfl ?_
              refine z_iload_n (i := 3) 0 d_M_place_32 rfl rfl ?_
              refine z_cV (c := 0) (as := [(0, r0)]) (d' := 1) (st := []) d_M_place_33 mi_M_gives ml_M_91 mv_M_gives se_M_gives rfl rfl rfl rfl (ks_M_0 hx) rfl rfl (kl_M_0 hx) rfl rfl (b_M_gives_0 hx ?_)
              intro _
              show z_U X 5 m_M_place 36 [(3, (0, r0)), (0, (2, 0)), (1, (0, a1)), (2, (0, a2))] [(0, r0)] N σ (z_up g0 0 1 0) Q
              refine z_goto (tgt := 45) d_M_place_36 (by decide) ?_
              exact z_iret d_M_place_45 rfl (by decide) (by decide) ⟨rfl, rfl, h⟩
            · have h := h.2 c9
              intro _
              show z_U X 5 m_M_place 28 [(3, (0, r0)), (0, (2, 0)), (1, (0, a1)), (2, (0, a2))] [(0, 0)] N σ g0 Q
              refine z_if_eq (tgt := 39) d_M_place_28 (by decide) (fun _ => ?_) (fun c => absurd (by decide) c)
              refine z_aload_n (i := 0) (c := 0) 1 d_M_place_39 rfl rfl rfl ?_
              refine z_bipush (n := 6) d_M_place_40 (by decide) (by decide) ?_
              refine z_cV (c := 0) (as := [(0, 6)]) (d' := 1) (st := []) d_M_place_42 mi_M_refuse ml_M_87 mv_M_refuse se_M_refuse rfl rfl rfl rfl (ks_M_0 hx) rfl rfl (kl_M_0 hx) rfl rfl (b_M_refuse_0 hx ?_)
              intro _
              show z_U X 5 m_M_place 45 [(3, (0, r0)), (0, (2, 0)), (1, (0, a1)), (2, (0, a2))] [(0, (-1))] N σ (z_up g0 0 1 6) Q
              exact z_iret d_M_place_45 rfl (by decide) (by decide) ⟨rfl, rfl, h⟩
theorem d_M_rank_0 : decode (z_c m_M_rank) 0 = .ok (.iload_n 1, 1) := by decide +kernel
theorem d_M_rank_1 : decode (z_c m_M_rank) 1 = .ok (.iload_n 2, 1) := by decide +kernel
theorem d_M_rank_2 : decode (z_c m_M_rank) 2 = .ok (.invokestatic 272, 3) := by decide +kernel
theorem d_M_rank_5 : decode (z_c m_M_rank) 5 = .ok (.ifCond .eq 16, 3) := by decide +kernel
theorem d_M_rank_8 : decode (z_c m_M_rank) 8 = .ok (.aload_n 0, 1) := by decide +kernel
theorem d_M_rank_9 : decode (z_c m_M_rank) 9 = .ok (.aload_n 0, 1) := by decide +kernel
theorem d_M_rank_10 : decode (z_c m_M_rank) 10 = .ok (.iload_n 1, 1) := by decide +kernel
theorem d_M_rank_11 : decode (z_c m_M_rank) 11 = .ok (.iload_n 2, 1) := by decide +kernel
theorem d_M_rank_12 : decode (z_c m_M_rank) 12 = .ok (.invokevirtual 275, 3) := by decide +kernel
theorem d_M_rank_15 : decode (z_c m_M_rank) 15 = .ok (.invokevirtual 91, 3) := by decide +kernel
theorem d_M_rank_18 : decode (z_c m_M_rank) 18 = .ok (.goto 8, 3) := by decide +kernel
theorem d_M_rank_21 : decode (z_c m_M_rank) 21 = .ok (.aload_n 0, 1) := by decide +kernel
theorem d_M_rank_22 : decode (z_c m_M_rank) 22 = .ok (.iconst 1, 1) := by decide +kernel
theorem d_M_rank_23 : decode (z_c m_M_rank) 23 = .ok (.invokevirtual 87, 3) := by decide +kernel
theorem d_M_rank_26 : decode (z_c m_M_rank) 26 = .ok (.ireturn, 1) := by decide +kernel
set_option maxRecDepth 8000 in
theorem b_M_rank_0 {X : z_X} {N : Nat} {σ g : z_G} {Q : z_P} {a1 a2 : Int} (hx : z_lay X N σ 0 z_SM z_RM) (h : ((a2 < 1) → Q (-1) (z_up g 0 1 1)) ∧ (¬ (a2 < 1) → (((9999 < a2) → Q (-1) (z_up g 0 1 1)) ∧ (¬ (9999 < a2) → (((a1 < 0) → Q (-1) (z_up g 0 1 1)) ∧ (¬ (a1 < 0) → (((a2 < a1) → Q (-1) (z_up g 0 1 1)) ∧ (¬ (a2 < a1) → (z_O X 4 m_M_lessThan [(2, 0), (0, a1), (0, a2)] N σ g (fun r0 g0 => Q r0 (z_up g0 0 1 0))))))))))) : z_O X 5 m_M_rank [(2, 0), (0, a1), (0, a2)] N σ g Q := by
  refine z_Oenter mi_M_rank rfl (fun _ => ?_)
  show z_U X 5 m_M_rank 0 [(0, (2, 0)), (1, (0, a1)), (2, (0, a2))] [] N σ g Q
  refine z_iload_n (i := 1) 1 d_M_rank_0 rfl rfl ?_
  refine z_iload_n (i := 2) 2 d_M_rank_1 rfl rfl ?_
  refine z_cS (as := [(0, a1), (0, a2)]) (d' := 1) (st := []) d_M_rank_2 mi_M_isValue ml_M_272 ms_M_isValue rfl rfl rfl rfl rfl (b_M_isValue_0  ?_)
  refine ⟨fun c1 => ?_, fun c1 => ?_⟩
  · have h := h.1 c1
    intro _
    show z_U X 5 m_M_rank 5 [(0, (2, 0)), (1, (0, a1)), (2, (0, a2))] [(0, 0)] N σ g Q
    refine z_if_eq (tgt := 21) d_M_rank_5 (by decide) (fun _ => ?_) (fun c => absurd (by decide) c)
    refine z_aload_n (i := 0) (c := 0) 0 d_M_rank_21 rfl rfl rfl ?_
    refine z_iconst (n := 1) d_M_rank_22 (by decide) ?_
    refine z_cV (c := 0) (as := [(0, 1)]) (d' := 1) (st := []) d_M_rank_23 mi_M_refuse ml_M_87 mv_M_refuse se_M_refuse rfl rfl rfl rfl (ks_M_0 hx) rfl rfl (kl_M_0 hx) rfl rfl (b_M_refuse_0 hx ?_)
    intro _
    show z_U X 5 m_M_rank 26 [(0, (2, 0)), (1, (0, a1)), (2, (0, a2))] [(0, (-1))] N σ (z_up g 0 1 1) Q
    exact z_iret d_M_rank_26 rfl (by decide) (by decide) ⟨rfl, rfl, h⟩
  · have h := h.2 c1
    refine ⟨fun c2 => ?_, fun c2 => ?_⟩
    · have h := h.1 c2
      intro _
      show z_U X 5 m_M_rank 5 [(0, (2, 0)), (1, (0, a1)), (2, (0, a2))] [(0, 0)] N σ g Q
      refine z_if_eq (tgt := 21) d_M_rank_5 (by decide) (fun _ => ?_) (fun c => absurd (by decide) c)
      refine z_aload_n (i := 0) (c := 0) 0 d_M_rank_21 rfl rfl rfl ?_
      refine z_iconst (n := 1) d_M_rank_22 (by decide) ?_
      refine z_cV (c := 0) (as := [(0, 1)]) (d' := 1) (st := []) d_M_rank_23 mi_M_refuse ml_M_87 mv_M_refuse se_M_refuse rfl rfl rfl rfl (ks_M_0 hx) rfl rfl (kl_M_0 hx) rfl rfl (b_M_refuse_0 hx ?_)
      intro _
      show z_U X 5 m_M_rank 26 [(0, (2, 0)), (1, (0, a1)), (2, (0, a2))] [(0, (-1))] N σ (z_up g 0 1 1) Q
      exact z_iret d_M_rank_26 rfl (by decide) (by decide) ⟨rfl, rfl, h⟩
    · have h := h.2 c2
      refine ⟨fun c3 => ?_, fun c3 => ?_⟩
      · have h := h.1 c3
        intro _
        show z_U X 5 m_M_rank 5 [(0, (2, 0)), (1, (0, a1)), (2, (0, a2))] [(0, 0)] N σ g Q
        refine z_if_eq (tgt := 21) d_M_rank_5 (by decide) (fun _ => ?_) (fun c => absurd (by decide) c)
        refine z_aload_n (i := 0) (c := 0) 0 d_M_rank_21 rfl rfl rfl ?_
        refine z_iconst (n := 1) d_M_rank_22 (by decide) ?_
        refine z_cV (c := 0) (as := [(0, 1)]) (d' := 1) (st := []) d_M_rank_23 mi_M_refuse ml_M_87 mv_M_refuse se_M_refuse rfl rfl rfl rfl (ks_M_0 hx) rfl rfl (kl_M_0 hx) rfl rfl (b_M_refuse_0 hx ?_)
        intro _
        show z_U X 5 m_M_rank 26 [(0, (2, 0)), (1, (0, a1)), (2, (0, a2))] [(0, (-1))] N σ (z_up g 0 1 1) Q
        exact z_iret d_M_rank_26 rfl (by decide) (by decide) ⟨rfl, rfl, h⟩
      · have h := h.2 c3
        refine ⟨fun c4 => ?_, fun c4 => ?_⟩
        · have h := h.1 c4
          intro _
          show z_U X 5 m_M_rank 5 [(0, (2, 0)), (1, (0, a1)), (2, (0, a2))] [(0, 0)] N σ g Q
          refine z_if_eq (tgt := 21) d_M_rank_5 (by decide) (fun _ => ?_) (fun c => absurd (by decide) c)
          refine z_aload_n (i := 0) (c := 0) 0 d_M_rank_21 rfl rfl rfl ?_
          refine z_iconst (n := 1) d_M_rank_22 (by decide) ?_
          refine z_cV (c := 0) (as := [(0, 1)]) (d' := 1) (st := []) d_M_rank_23 mi_M_refuse ml_M_87 mv_M_refuse se_M_refuse rfl rfl rfl rfl (ks_M_0 hx) rfl rfl (kl_M_0 hx) rfl rfl (b_M_refuse_0 hx ?_)
          intro _
          show z_U X 5 m_M_rank 26 [(0, (2, 0)), (1, (0, a1)), (2, (0, a2))] [(0, (-1))] N σ (z_up g 0 1 1) Q
          exact z_iret d_M_rank_26 rfl (by decide) (by decide) ⟨rfl, rfl, h⟩
        · have h := h.2 c4
          intro _
          show z_U X 5 m_M_rank 5 [(0, (2, 0)), (1, (0, a1)), (2, (0, a2))] [(0, 1)] N σ g Q
          refine z_if_eq (tgt := 21) d_M_rank_5 (by decide) (fun c => absurd c (by decide)) (fun _ => ?_)
          refine z_aload_n (i := 0) (c := 0) 0 d_M_rank_8 rfl rfl rfl ?_
          refine z_aload_n (i := 0) (c := 0) 0 d_M_rank_9 rfl rfl rfl ?_
          refine z_iload_n (i := 1) 1 d_M_rank_10 rfl rfl ?_
          refine z_iload_n (i := 2) 2 d_M_rank_11 rfl rfl ?_
          refine z_cV (c := 0) (as := [(0, a1), (0, a2)]) (d' := 4) (st := [(2, 0)]) d_M_rank_12 mi_M_lessThan ml_M_275 mv_M_lessThan se_M_lessThan rfl rfl rfl rfl (ks_M_0 hx) rfl rfl (kl_M_0 hx) rfl rfl (z_Omono h (fun r0 g0 _ h hro => ?_))
          show z_U X 5 m_M_rank 15 [(0, (2, 0)), (1, (0, a1)), (2, (0, a2))] [(0, r0), (2, 0)] N σ g0 Q
          refine z_cV (c := 0) (as := [(0, r0)]) (d' := 1) (st := []) d_M_rank_15 mi_M_gives ml_M_91 mv_M_gives se_M_gives rfl rfl rfl rfl (ks_M_0 hx) rfl rfl (kl_M_0 hx) rfl rfl (b_M_gives_0 hx ?_)
          intro _
          show z_U X 5 m_M_rank 18 [(0, (2, 0)), (1, (0, a1)), (2, (0, a2))] [(0, r0)] N σ (z_up g0 0 1 0) Q
          refine z_goto (tgt := 26) d_M_rank_18 (by decide) ?_
          exact z_iret d_M_rank_26 rfl (by decide) (by decide) ⟨rfl, rfl, h⟩
theorem d_M_risingAt_0 : decode (z_c m_M_risingAt) 0 = .ok (.iload_n 1, 1) := by decide +kernel
theorem d_M_risingAt_1 : decode (z_c m_M_risingAt) 1 = .ok (.ifCond .ge 11, 3) := by decide +kernel
theorem d_M_risingAt_4 : decode (z_c m_M_risingAt) 4 = .ok (.aload_n 0, 1) := by decide +kernel
theorem d_M_risingAt_5 : decode (z_c m_M_risingAt) 5 = .ok (.iconst 1, 1) := by decide +kernel
theorem d_M_risingAt_6 : decode (z_c m_M_risingAt) 6 = .ok (.invokevirtual 94, 3) := by decide +kernel
theorem d_M_risingAt_9 : decode (z_c m_M_risingAt) 9 = .ok (.goto 12, 3) := by decide +kernel
theorem d_M_risingAt_12 : decode (z_c m_M_risingAt) 12 = .ok (.aload_n 0, 1) := by decide +kernel
theorem d_M_risingAt_13 : decode (z_c m_M_risingAt) 13 = .ok (.aload_n 0, 1) := by decide +kernel
theorem d_M_risingAt_14 : decode (z_c m_M_risingAt) 14 = .ok (.iload_n 1, 1) := by decide +kernel
theorem d_M_risingAt_15 : decode (z_c m_M_risingAt) 15 = .ok (.invokevirtual 378, 3) := by decide +kernel
theorem d_M_risingAt_18 : decode (z_c m_M_risingAt) 18 = .ok (.invokevirtual 372, 3) := by decide +kernel
theorem d_M_risingAt_21 : decode (z_c m_M_risingAt) 21 = .ok (.ireturn, 1) := by decide +kernel
set_option maxRecDepth 8000 in
theorem b_M_risingAt_0 {X : z_X} {N : Nat} {σ g : z_G} {Q : z_P} {a1 : Int} (hx : z_lay X N σ 0 z_SM z_RM) (h : ((0 ≤ a1) → (z_O X 4 m_M_rising [(2, 0), (0, a1)] N σ g (fun r0 g0 => (z_O X 3 m_M_tellsPin [(2, 0), (0, r0)] N σ g0 (fun r1 g1 => (r1 = 0 ∨ r1 = 1) → Q r1 g1))))) ∧ (¬ (0 ≤ a1) → Q 0 (z_up g 0 1 1))) : z_O X 5 m_M_risingAt [(2, 0), (0, a1)] N σ g Q := by
  refine z_Oenter mi_M_risingAt rfl (fun _ => ?_)
  show z_U X 5 m_M_risingAt 0 [(0, (2, 0)), (1, (0, a1))] [] N σ g Q
  refine z_iload_n (i := 1) 1 d_M_risingAt_0 rfl rfl ?_
  refine z_if_ge (tgt := 12) d_M_risingAt_1 (by decide) (fun c1 => ?_) (fun c1 => ?_)
  · have h := h.1 c1
    refine z_aload_n (i := 0) (c := 0) 0 d_M_risingAt_12 rfl rfl rfl ?_
    refine z_aload_n (i := 0) (c := 0) 0 d_M_risingAt_13 rfl rfl rfl ?_
    refine z_iload_n (i := 1) 1 d_M_risingAt_14 rfl rfl ?_
    refine z_cV (c := 0) (as := [(0, a1)]) (d' := 4) (st := [(2, 0)]) d_M_risingAt_15 mi_M_rising ml_M_378 mv_M_rising se_M_rising rfl rfl rfl rfl (ks_M_0 hx) rfl rfl (kl_M_0 hx) rfl rfl (z_Omono h (fun r0 g0 _ h hro => ?_))
    show z_U X 5 m_M_risingAt 18 [(0, (2, 0)), (1, (0, a1))] [(0, r0), (2, 0)] N σ g0 Q
    refine z_cV (c := 0) (as := [(0, r0)]) (d' := 3) (st := []) d_M_risingAt_18 mi_M_tellsPin ml_M_372 mv_M_tellsPin se_M_tellsPin rfl rfl rfl rfl (ks_M_0 hx) rfl rfl (kl_M_0 hx) rfl rfl (z_Omono h (fun r1 g1 _ h hro => ?_))
    have h := h (z_b01 hro)
    have hzr1 := z_b01 hro
    show z_U X 5 m_M_risingAt 21 [(0, (2, 0)), (1, (0, a1))] [(0, r1)] N σ g1 Q
    exact z_zret d_M_risingAt_21 rfl (by decide) (by decide) hzr1 ⟨rfl, rfl, h⟩
  · have h := h.2 c1
    refine z_aload_n (i := 0) (c := 0) 0 d_M_risingAt_4 rfl rfl rfl ?_
    refine z_iconst (n := 1) d_M_risingAt_5 (by decide) ?_
    refine z_cV (c := 0) (as := [(0, 1)]) (d' := 1) (st := []) d_M_risingAt_6 mi_M_is ml_M_94 mv_M_is se_M_is rfl rfl rfl rfl (ks_M_0 hx) rfl rfl (kl_M_0 hx) rfl rfl (b_M_is_0 hx ?_)
    refine ⟨fun c => absurd c (by decide), fun _ => ?_⟩
    intro _
    show z_U X 5 m_M_risingAt 9 [(0, (2, 0)), (1, (0, a1))] [(0, 0)] N σ (z_up g 0 1 1) Q
    refine z_goto (tgt := 21) d_M_risingAt_9 (by decide) ?_
    exact z_zret d_M_risingAt_21 rfl (by decide) (by decide) (by decide) ⟨rfl, rfl, h⟩
theorem d_M_lives_0 : decode (z_c m_M_lives) 0 = .ok (.aload_n 0, 1) := by decide +kernel
theorem d_M_lives_1 : decode (z_c m_M_lives) 1 = .ok (.iload_n 1, 1) := by decide +kernel
theorem d_M_lives_2 : decode (z_c m_M_lives) 2 = .ok (.putfield 392, 3) := by decide +kernel
theorem d_M_lives_5 : decode (z_c m_M_lives) 5 = .ok (.aload_n 0, 1) := by decide +kernel
theorem d_M_lives_6 : decode (z_c m_M_lives) 6 = .ok (.iconst 0, 1) := by decide +kernel
theorem d_M_lives_7 : decode (z_c m_M_lives) 7 = .ok (.putfield 408, 3) := by decide +kernel
theorem d_M_lives_10 : decode (z_c m_M_lives) 10 = .ok (.iconst 0, 1) := by decide +kernel
theorem d_M_lives_11 : decode (z_c m_M_lives) 11 = .ok (.istore_n 2, 1) := by decide +kernel
theorem d_M_lives_12 : decode (z_c m_M_lives) 12 = .ok (.iload_n 2, 1) := by decide +kernel
theorem d_M_lives_13 : decode (z_c m_M_lives) 13 = .ok (.iconst 5, 1) := by decide +kernel
theorem d_M_lives_14 : decode (z_c m_M_lives) 14 = .ok (.if_icmp .ge 16, 3) := by decide +kernel
theorem d_M_lives_17 : decode (z_c m_M_lives) 17 = .ok (.aload_n 0, 1) := by decide +kernel
theorem d_M_lives_18 : decode (z_c m_M_lives) 18 = .ok (.getfield 68, 3) := by decide +kernel
theorem d_M_lives_21 : decode (z_c m_M_lives) 21 = .ok (.iload_n 2, 1) := by decide +kernel
theorem d_M_lives_22 : decode (z_c m_M_lives) 22 = .ok (.iconst 0, 1) := by decide +kernel
theorem d_M_lives_23 : decode (z_c m_M_lives) 23 = .ok (.iastore, 1) := by decide +kernel
theorem d_M_lives_24 : decode (z_c m_M_lives) 24 = .ok (.iinc 2 1, 3) := by decide +kernel
theorem d_M_lives_27 : decode (z_c m_M_lives) 27 = .ok (.goto (-15), 3) := by decide +kernel
theorem d_M_lives_30 : decode (z_c m_M_lives) 30 = .ok (.iconst 0, 1) := by decide +kernel
theorem d_M_lives_31 : decode (z_c m_M_lives) 31 = .ok (.istore_n 2, 1) := by decide +kernel
theorem d_M_lives_32 : decode (z_c m_M_lives) 32 = .ok (.iload_n 2, 1) := by decide +kernel
theorem d_M_lives_33 : decode (z_c m_M_lives) 33 = .ok (.aload_n 0, 1) := by decide +kernel
theorem d_M_lives_34 : decode (z_c m_M_lives) 34 = .ok (.getfield 7, 3) := by decide +kernel
theorem d_M_lives_37 : decode (z_c m_M_lives) 37 = .ok (.bipush 6, 2) := by decide +kernel
theorem d_M_lives_39 : decode (z_c m_M_lives) 39 = .ok (.iaload, 1) := by decide +kernel
theorem d_M_lives_40 : decode (z_c m_M_lives) 40 = .ok (.if_icmp .ge 170, 3) := by decide +kernel
theorem d_M_lives_43 : decode (z_c m_M_lives) 43 = .ok (.aload_n 0, 1) := by decide +kernel
theorem d_M_lives_44 : decode (z_c m_M_lives) 44 = .ok (.getfield 68, 3) := by decide +kernel
theorem d_M_lives_47 : decode (z_c m_M_lives) 47 = .ok (.iconst 4, 1) := by decide +kernel
theorem d_M_lives_48 : decode (z_c m_M_lives) 48 = .ok (.iaload, 1) := by decide +kernel
theorem d_M_lives_49 : decode (z_c m_M_lives) 49 = .ok (.ifCond .ne 161, 3) := by decide +kernel
theorem d_M_lives_52 : decode (z_c m_M_lives) 52 = .ok (.aload_n 0, 1) := by decide +kernel
theorem d_M_lives_53 : decode (z_c m_M_lives) 53 = .ok (.getfield 408, 3) := by decide +kernel
theorem d_M_lives_56 : decode (z_c m_M_lives) 56 = .ok (.sipush 300, 3) := by decide +kernel
theorem d_M_lives_59 : decode (z_c m_M_lives) 59 = .ok (.if_icmp .ne 13, 3) := by decide +kernel
theorem d_M_lives_62 : decode (z_c m_M_lives) 62 = .ok (.aload_n 0, 1) := by decide +kernel
theorem d_M_lives_63 : decode (z_c m_M_lives) 63 = .ok (.getfield 68, 3) := by decide +kernel
theorem d_M_lives_66 : decode (z_c m_M_lives) 66 = .ok (.iconst 4, 1) := by decide +kernel
theorem d_M_lives_67 : decode (z_c m_M_lives) 67 = .ok (.iconst 1, 1) := by decide +kernel
theorem d_M_lives_68 : decode (z_c m_M_lives) 68 = .ok (.iastore, 1) := by decide +kernel
theorem d_M_lives_69 : decode (z_c m_M_lives) 69 = .ok (.goto (-37), 3) := by decide +kernel
theorem d_M_lives_72 : decode (z_c m_M_lives) 72 = .ok (.sipush 246, 3) := by decide +kernel
theorem d_M_lives_75 : decode (z_c m_M_lives) 75 = .ok (.bipush 6, 2) := by decide +kernel
theorem d_M_lives_77 : decode (z_c m_M_lives) 77 = .ok (.iload_n 2, 1) := by decide +kernel
theorem d_M_lives_78 : decode (z_c m_M_lives) 78 = .ok (.imul, 1) := by decide +kernel
theorem d_M_lives_79 : decode (z_c m_M_lives) 79 = .ok (.iadd, 1) := by decide +kernel
theorem d_M_lives_80 : decode (z_c m_M_lives) 80 = .ok (.istore_n 3, 1) := by decide +kernel
theorem d_M_lives_81 : decode (z_c m_M_lives) 81 = .ok (.aload_n 0, 1) := by decide +kernel
theorem d_M_lives_82 : decode (z_c m_M_lives) 82 = .ok (.dup, 1) := by decide +kernel
theorem d_M_lives_83 : decode (z_c m_M_lives) 83 = .ok (.getfield 408, 3) := by decide +kernel
theorem d_M_lives_86 : decode (z_c m_M_lives) 86 = .ok (.iconst 1, 1) := by decide +kernel
theorem d_M_lives_87 : decode (z_c m_M_lives) 87 = .ok (.iadd, 1) := by decide +kernel
theorem d_M_lives_88 : decode (z_c m_M_lives) 88 = .ok (.putfield 408, 3) := by decide +kernel
theorem d_M_lives_91 : decode (z_c m_M_lives) 91 = .ok (.aload_n 0, 1) := by decide +kernel
theorem d_M_lives_92 : decode (z_c m_M_lives) 92 = .ok (.getfield 7, 3) := by decide +kernel
theorem d_M_lives_95 : decode (z_c m_M_lives) 95 = .ok (.iload_n 3, 1) := by decide +kernel
theorem d_M_lives_96 : decode (z_c m_M_lives) 96 = .ok (.iaload, 1) := by decide +kernel
theorem d_M_lives_97 : decode (z_c m_M_lives) 97 = .ok (.bipush 15, 2) := by decide +kernel
theorem d_M_lives_99 : decode (z_c m_M_lives) 99 = .ok (.if_icmp .ne 6, 3) := by decide +kernel
theorem d_M_lives_102 : decode (z_c m_M_lives) 102 = .ok (.goto 108, 3) := by decide +kernel
theorem d_M_lives_105 : decode (z_c m_M_lives) 105 = .ok (.aload_n 0, 1) := by decide +kernel
theorem d_M_lives_106 : decode (z_c m_M_lives) 106 = .ok (.iload_n 3, 1) := by decide +kernel
theorem d_M_lives_107 : decode (z_c m_M_lives) 107 = .ok (.invokevirtual 411, 3) := by decide +kernel
theorem d_M_lives_110 : decode (z_c m_M_lives) 110 = .ok (.istore 4, 2) := by decide +kernel
theorem d_M_lives_112 : decode (z_c m_M_lives) 112 = .ok (.iload 4, 2) := by decide +kernel
theorem d_M_lives_114 : decode (z_c m_M_lives) 114 = .ok (.ifCond .ne 13, 3) := by decide +kernel
theorem d_M_lives_117 : decode (z_c m_M_lives) 117 = .ok (.aload_n 0, 1) := by decide +kernel
theorem d_M_lives_118 : decode (z_c m_M_lives) 118 = .ok (.getfield 68, 3) := by decide +kernel
theorem d_M_lives_121 : decode (z_c m_M_lives) 121 = .ok (.iconst 0, 1) := by decide +kernel
theorem d_M_lives_122 : decode (z_c m_M_lives) 122 = .ok (.dup2, 1) := by decide +kernel
theorem d_M_lives_123 : decode (z_c m_M_lives) 123 = .ok (.iaload, 1) := by decide +kernel
theorem d_M_lives_124 : decode (z_c m_M_lives) 124 = .ok (.iconst 1, 1) := by decide +kernel
theorem d_M_lives_125 : decode (z_c m_M_lives) 125 = .ok (.iadd, 1) := by decide +kernel
theorem d_M_lives_126 : decode (z_c m_M_lives) 126 = .ok (.iastore, 1) := by decide +kernel
theorem d_M_lives_127 : decode (z_c m_M_lives) 127 = .ok (.aload_n 0, 1) := by decide +kernel
theorem d_M_lives_128 : decode (z_c m_M_lives) 128 = .ok (.getfield 7, 3) := by decide +kernel
theorem d_M_lives_131 : decode (z_c m_M_lives) 131 = .ok (.iload_n 3, 1) := by decide +kernel
theorem d_M_lives_132 : decode (z_c m_M_lives) 132 = .ok (.iaload, 1) := by decide +kernel
theorem d_M_lives_133 : decode (z_c m_M_lives) 133 = .ok (.bipush 13, 2) := by decide +kernel
theorem d_M_lives_135 : decode (z_c m_M_lives) 135 = .ok (.if_icmp .ne 19, 3) := by decide +kernel
theorem d_M_lives_138 : decode (z_c m_M_lives) 138 = .ok (.aload_n 0, 1) := by decide +kernel
theorem d_M_lives_139 : decode (z_c m_M_lives) 139 = .ok (.getfield 65, 3) := by decide +kernel
theorem d_M_lives_142 : decode (z_c m_M_lives) 142 = .ok (.iload_n 2, 1) := by decide +kernel
theorem d_M_lives_143 : decode (z_c m_M_lives) 143 = .ok (.aload_n 0, 1) := by decide +kernel
theorem d_M_lives_144 : decode (z_c m_M_lives) 144 = .ok (.getfield 7, 3) := by decide +kernel
theorem d_M_lives_147 : decode (z_c m_M_lives) 147 = .ok (.iload_n 3, 1) := by decide +kernel
theorem d_M_lives_148 : decode (z_c m_M_lives) 148 = .ok (.iconst 1, 1) := by decide +kernel
theorem d_M_lives_149 : decode (z_c m_M_lives) 149 = .ok (.iadd, 1) := by decide +kernel
theorem d_M_lives_150 : decode (z_c m_M_lives) 150 = .ok (.iaload, 1) := by decide +kernel
theorem d_M_lives_151 : decode (z_c m_M_lives) 151 = .ok (.iconst 1, 1) := by decide +kernel
theorem d_M_lives_152 : decode (z_c m_M_lives) 152 = .ok (.isub, 1) := by decide +kernel
theorem d_M_lives_153 : decode (z_c m_M_lives) 153 = .ok (.iastore, 1) := by decide +kernel
theorem d_M_lives_154 : decode (z_c m_M_lives) 154 = .ok (.aload_n 0, 1) := by decide +kernel
theorem d_M_lives_155 : decode (z_c m_M_lives) 155 = .ok (.getfield 7, 3) := by decide +kernel
theorem d_M_lives_158 : decode (z_c m_M_lives) 158 = .ok (.iload_n 3, 1) := by decide +kernel
theorem d_M_lives_159 : decode (z_c m_M_lives) 159 = .ok (.iaload, 1) := by decide +kernel
theorem d_M_lives_160 : decode (z_c m_M_lives) 160 = .ok (.sipush 1200, 3) := by decide +kernel
theorem d_M_lives_163 : decode (z_c m_M_lives) 163 = .ok (.if_icmp .lt 15, 3) := by decide +kernel
theorem d_M_lives_166 : decode (z_c m_M_lives) 166 = .ok (.aload_n 0, 1) := by decide +kernel
theorem d_M_lives_167 : decode (z_c m_M_lives) 167 = .ok (.iload_n 3, 1) := by decide +kernel
theorem d_M_lives_168 : decode (z_c m_M_lives) 168 = .ok (.invokevirtual 414, 3) := by decide +kernel
theorem d_M_lives_171 : decode (z_c m_M_lives) 171 = .ok (.ifCond .ne 7, 3) := by decide +kernel
theorem d_M_lives_174 : decode (z_c m_M_lives) 174 = .ok (.iconst 1, 1) := by decide +kernel
theorem d_M_lives_175 : decode (z_c m_M_lives) 175 = .ok (.goto 4, 3) := by decide +kernel
theorem d_M_lives_178 : decode (z_c m_M_lives) 178 = .ok (.iconst 0, 1) := by decide +kernel
theorem d_M_lives_179 : decode (z_c m_M_lives) 179 = .ok (.istore 5, 2) := by decide +kernel
theorem d_M_lives_181 : decode (z_c m_M_lives) 181 = .ok (.aload_n 0, 1) := by decide +kernel
theorem d_M_lives_182 : decode (z_c m_M_lives) 182 = .ok (.iload 5, 2) := by decide +kernel
theorem d_M_lives_184 : decode (z_c m_M_lives) 184 = .ok (.ifCond .eq 16, 3) := by decide +kernel
theorem d_M_lives_187 : decode (z_c m_M_lives) 187 = .ok (.aload_n 0, 1) := by decide +kernel
theorem d_M_lives_188 : decode (z_c m_M_lives) 188 = .ok (.getfield 7, 3) := by decide +kernel
theorem d_M_lives_191 : decode (z_c m_M_lives) 191 = .ok (.iload_n 3, 1) := by decide +kernel
theorem d_M_lives_192 : decode (z_c m_M_lives) 192 = .ok (.iconst 4, 1) := by decide +kernel
theorem d_M_lives_193 : decode (z_c m_M_lives) 193 = .ok (.iadd, 1) := by decide +kernel
theorem d_M_lives_194 : decode (z_c m_M_lives) 194 = .ok (.iaload, 1) := by decide +kernel
theorem d_M_lives_195 : decode (z_c m_M_lives) 195 = .ok (.iconst 1, 1) := by decide +kernel
theorem d_M_lives_196 : decode (z_c m_M_lives) 196 = .ok (.iadd, 1) := by decide +kernel
theorem d_M_lives_197 : decode (z_c m_M_lives) 197 = .ok (.goto 6, 3) := by decide +kernel
theorem d_M_lives_200 : decode (z_c m_M_lives) 200 = .ok (.iload_n 2, 1) := by decide +kernel
theorem d_M_lives_201 : decode (z_c m_M_lives) 201 = .ok (.iconst 1, 1) := by decide +kernel
theorem d_M_lives_202 : decode (z_c m_M_lives) 202 = .ok (.iadd, 1) := by decide +kernel
theorem d_M_lives_203 : decode (z_c m_M_lives) 203 = .ok (.invokevirtual 417, 3) := by decide +kernel
theorem d_M_lives_206 : decode (z_c m_M_lives) 206 = .ok (.istore_n 2, 1) := by decide +kernel
theorem d_M_lives_207 : decode (z_c m_M_lives) 207 = .ok (.goto (-175), 3) := by decide +kernel
theorem d_M_lives_210 : decode (z_c m_M_lives) 210 = .ok (.return_, 1) := by decide +kernel
abbrev L_M_lives_12 (X : z_X) (N : Nat) (σ : z_G) (x2 : Int) (g : z_G) (Q : z_P) : Prop := z_U X 6 m_M_lives 12 [(0, (2, 0)), (2, (0, x2))] [] N σ g Q
abbrev L_M_lives_32 (X : z_X) (N : Nat) (σ : z_G) (x2 : Int) (g : z_G) (Q : z_P) : Prop := z_U X 6 m_M_lives 32 [(0, (2, 0)), (2, (0, x2))] [] N σ g Q
set_option maxRecDepth 8000 in
theorem b_M_lives_0 {X : z_X} {N : Nat} {σ g : z_G} {Q : z_P} {a1 : Int} (hx : z_lay X N σ 0 z_SM z_RM) (h : L_M_lives_12 X N σ 0 (z_up (z_up g 0 35 a1) 0 36 0) Q) : z_O X 6 m_M_lives [(2, 0), (0, a1)] N σ g Q := by
  refine z_Oenter mi_M_lives rfl (fun _ => ?_)
  show z_U X 6 m_M_lives 0 [(0, (2, 0)), (1, (0, a1))] [] N σ g Q
  refine z_aload_n (i := 0) (c := 0) 0 d_M_lives_0 rfl rfl rfl ?_
  refine z_iload_n (i := 1) 1 d_M_lives_1 rfl rfl ?_
  refine z_puti (c := 0) (kI := 35) d_M_lives_2 fd_M_drawn fl_M_392 pf_M_drawn rfl rfl rfl rfl (ks_M_0 hx) (kl_M_0 hx) ?_
  refine z_aload_n (i := 0) (c := 0) 0 d_M_lives_5 rfl rfl rfl ?_
  refine z_iconst (n := 0) d_M_lives_6 (by decide) ?_
  refine z_puti (c := 0) (kI := 36) d_M_lives_7 fd_M_ranSteps fl_M_408 pf_M_ranSteps rfl rfl rfl rfl (ks_M_0 hx) (kl_M_0 hx) ?_
  refine z_iconst (n := 0) d_M_lives_10 (by decide) ?_
  refine z_istore_n (i := 2) (ls' := [(2, (0, 0)), (0, (2, 0)), (1, (0, a1))]) d_M_lives_11 rfl rfl rfl ?_
  refine z_sub (ls' := [(0, (2, 0)), (2, (0, 0))]) [1, 0] rfl ?_
  exact h
set_option maxRecDepth 8000 in
theorem b_M_lives_12 {X : z_X} {N : Nat} {σ g : z_G} {Q : z_P} {x2 : Int} (hx : z_lay X N σ 0 z_SM z_RM) (h : ((5 ≤ x2) → L_M_lives_32 X N σ 0 g Q) ∧ (¬ (5 ≤ x2) → ((0 ≤ x2 ∧ x2 < 5) ∧ ((-2147483648 ≤ (x2 + 1) ∧ (x2 + 1) ≤ 2147483647) ∧ L_M_lives_12 X N σ (x2 + 1) (z_up g 16 x2 0) Q)))) : L_M_lives_12 X N σ x2 g Q := by
  refine z_iload_n (i := 2) 1 d_M_lives_12 rfl rfl ?_
  refine z_iconst (n := 5) d_M_lives_13 (by decide) ?_
  refine z_icmp_ge (tgt := 30) d_M_lives_14 (by decide) (fun c1 => ?_) (fun c1 => ?_)
  · have h := h.1 c1
    refine z_iconst (n := 0) d_M_lives_30 (by decide) ?_
    refine z_istore_n (i := 2) (ls' := [(2, (0, 0)), (0, (2, 0))]) d_M_lives_31 rfl rfl rfl ?_
    refine z_sub (ls' := [(0, (2, 0)), (2, (0, 0))]) [1, 0] rfl ?_
    exact h
  · have h := h.2 c1
    refine z_aload_n (i := 0) (c := 0) 0 d_M_lives_17 rfl rfl rfl ?_
    refine z_getr (c := 0) (kI := 38) (r2 := 16) d_M_lives_18 fd_M_ran fl_M_68 rfl rfl rfl (ks_M_0 hx) (kl_M_0 hx) (kr_M_0_38 hx) ?_
    refine z_iload_n (i := 2) 1 d_M_lives_21 rfl rfl ?_
    refine z_iconst (n := 0) d_M_lives_22 (by decide) ?_
    obtain ⟨c2, h⟩ := h
    refine z_iast (c := 16) (m := 5) d_M_lives_23 rfl (ks_M_16 hx) (kl_M_16 hx) rfl (by decide) c2 ?_
    obtain ⟨c3, h⟩ := h
    refine z_iinc (n := 1) (ls' := [(2, (0, x2 + 1)), (0, (2, 0))]) 1 d_M_lives_24 rfl c3 rfl rfl ?_
    refine z_goto (tgt := 12) d_M_lives_27 (by decide) ?_
    refine z_sub (ls' := [(0, (2, 0)), (2, (0, x2 + 1))]) [1, 0] rfl ?_
    exact h
set_option maxRecDepth 8000 in
theorem b_M_lives_32 {X : z_X} {N : Nat} {σ g : z_G} {Q : z_P} {x2 : Int} (hx : z_lay X N σ 0 z_SM z_RM) (h : (((g 1 6) ≤ x2) → Q 0 g) ∧ (¬ ((g 1 6) ≤ x2) → ((((g 16 4) = 0) → ((((g 0 36) = 300) → L_M_lives_32 X N σ x2 (z_up g 16 4 1) Q) ∧ (¬ ((g 0 36) = 300) → ((-2147483648 ≤ (6 * x2) ∧ (6 * x2) ≤ 2147483647) ∧ ((-2147483648 ≤ (246 + (6 * x2)) ∧ (246 + (6 * x2)) ≤ 2147483647) ∧ ((-2147483648 ≤ ((g 0 36) + 1) ∧ ((g 0 36) + 1) ≤ 2147483647) ∧ ((0 ≤ (246 + (6 * x2)) ∧ (246 + (6 * x2)) < 3296) ∧ ((((g 1 (246 + (6 * x2))) = 15) → Q 0 (z_up g 0 36 ((g 0 36) + 1))) ∧ (¬ ((g 1 (246 + (6 * x2))) = 15) → (z_O X 5 m_M_does [(2, 0), (0, 246 + (6 * x2))] N σ (z_up g 0 36 ((g 0 36) + 1)) (fun r0 g0 => (r0 = 0 ∨ r0 = 1) → (((r0 = 0) → ((-2147483648 ≤ ((g0 16 0) + 1) ∧ ((g0 16 0) + 1) ≤ 2147483647) ∧ ((((g0 1 (246 + (6 * x2))) = 13) → ((-2147483648 ≤ ((246 + (6 * x2)) + 1) ∧ ((246 + (6 * x2)) + 1) ≤ 2147483647) ∧ ((0 ≤ ((246 + (6 * x2)) + 1) ∧ ((246 + (6 * x2)) + 1) < 3296) ∧ ((-2147483648 ≤ ((g0 1 ((246 + (6 * x2)) + 1)) - 1) ∧ ((g0 1 ((246 + (6 * x2)) + 1)) - 1) ≤ 2147483647) ∧ ((0 ≤ x2 ∧ x2 < 60) ∧ ((((g0 1 (246 + (6 * x2))) < 1200) → ((-2147483648 ≤ (x2 + 1) ∧ (x2 + 1) ≤ 2147483647) ∧ (z_O X 1 m_M_behindEnds [(2, 0), (0, x2 + 1)] N σ (z_up (z_up g0 16 0 ((g0 16 0) + 1)) 15 x2 ((g0 1 ((246 + (6 * x2)) + 1)) - 1)) (fun r13 g13 => L_M_lives_32 X N σ r13 g13 Q)))) ∧ (¬ ((g0 1 (246 + (6 * x2))) < 1200) → (z_O X 4 m_M_holds [(2, 0), (0, 246 + (6 * x2))] N σ (z_up (z_up g0 16 0 ((g0 16 0) + 1)) 15 x2 ((g0 1 ((246 + (6 * x2)) + 1)) - 1)) (fun r14 g14 => (r14 = 0 ∨ r14 = 1) → (((r14 = 0) → ((-2147483648 ≤ ((246 + (6 * x2)) + 4) ∧ ((246 + (6 * x2)) + 4) ≤ 2147483647) ∧ ((0 ≤ ((246 + (6 * x2)) + 4) ∧ ((246 + (6 * x2)) + 4) < 3296) ∧ ((-2147483648 ≤ ((g14 1 ((246 + (6 * x2)) + 4)) + 1) ∧ ((g14 1 ((246 + (6 * x2)) + 4)) + 1) ≤ 2147483647) ∧ (z_O X 1 m_M_behindEnds [(2, 0), (0, (g14 1 ((246 + (6 * x2)) + 4)) + 1)] N σ g14 (fun r16 g16 => L_M_lives_32 X N σ r16 g16 Q)))))) ∧ (¬ (r14 = 0) → ((-2147483648 ≤ (x2 + 1) ∧ (x2 + 1) ≤ 2147483647) ∧ (z_O X 1 m_M_behindEnds [(2, 0), (0, x2 + 1)] N σ g14 (fun r15 g15 => L_M_lives_32 X N σ r15 g15 Q)))))))))))))) ∧ (¬ ((g0 1 (246 + (6 * x2))) = 13) → ((((g0 1 (246 + (6 * x2))) < 1200) → ((-2147483648 ≤ (x2 + 1) ∧ (x2 + 1) ≤ 2147483647) ∧ (z_O X 1 m_M_behindEnds [(2, 0), (0, x2 + 1)] N σ (z_up g0 16 0 ((g0 16 0) + 1)) (fun r9 g9 => L_M_lives_32 X N σ r9 g9 Q)))) ∧ (¬ ((g0 1 (246 + (6 * x2))) < 1200) → (z_O X 4 m_M_holds [(2, 0), (0, 246 + (6 * x2))] N σ (z_up g0 16 0 ((g0 16 0) + 1)) (fun r10 g10 => (r10 = 0 ∨ r10 = 1) → (((r10 = 0) → ((-2147483648 ≤ ((246 + (6 * x2)) + 4) ∧ ((246 + (6 * x2)) + 4) ≤ 2147483647) ∧ ((0 ≤ ((246 + (6 * x2)) + 4) ∧ ((246 + (6 * x2)) + 4) < 3296) ∧ ((-2147483648 ≤ ((g10 1 ((246 + (6 * x2)) + 4)) + 1) ∧ ((g10 1 ((246 + (6 * x2)) + 4)) + 1) ≤ 2147483647) ∧ (z_O X 1 m_M_behindEnds [(2, 0), (0, (g10 1 ((246 + (6 * x2)) + 4)) + 1)] N σ g10 (fun r12 g12 => L_M_lives_32 X N σ r12 g12 Q)))))) ∧ (¬ (r10 = 0) → ((-2147483648 ≤ (x2 + 1) ∧ (x2 + 1) ≤ 2147483647) ∧ (z_O X 1 m_M_behindEnds [(2, 0), (0, x2 + 1)] N σ g10 (fun r11 g11 => L_M_lives_32 X N σ r11 g11 Q))))))))))))) ∧ (¬ (r0 = 0) → ((((g0 1 (246 + (6 * x2))) = 13) → ((-2147483648 ≤ ((246 + (6 * x2)) + 1) ∧ ((246 + (6 * x2)) + 1) ≤ 2147483647) ∧ ((0 ≤ ((246 + (6 * x2)) + 1) ∧ ((246 + (6 * x2)) + 1) < 3296) ∧ ((-2147483648 ≤ ((g0 1 ((246 + (6 * x2)) + 1)) - 1) ∧ ((g0 1 ((246 + (6 * x2)) + 1)) - 1) ≤ 2147483647) ∧ ((0 ≤ x2 ∧ x2 < 60) ∧ ((((g0 1 (246 + (6 * x2))) < 1200) → ((-2147483648 ≤ (x2 + 1) ∧ (x2 + 1) ≤ 2147483647) ∧ (z_O X 1 m_M_behindEnds [(2, 0), (0, x2 + 1)] N σ (z_up g0 15 x2 ((g0 1 ((246 + (6 * x2)) + 1)) - 1)) (fun r5 g5 => L_M_lives_32 X N σ r5 g5 Q)))) ∧ (¬ ((g0 1 (246 + (6 * x2))) < 1200) → (z_O X 4 m_M_holds [(2, 0), (0, 246 + (6 * x2))] N σ (z_up g0 15 x2 ((g0 1 ((246 + (6 * x2)) + 1)) - 1)) (fun r6 g6 => (r6 = 0 ∨ r6 = 1) → (((r6 = 0) → ((-2147483648 ≤ ((246 + (6 * x2)) + 4) ∧ ((246 + (6 * x2)) + 4) ≤ 2147483647) ∧ ((0 ≤ ((246 + (6 * x2)) + 4) ∧ ((246 + (6 * x2)) + 4) < 3296) ∧ ((-2147483648 ≤ ((g6 1 ((246 + (6 * x2)) + 4)) + 1) ∧ ((g6 1 ((246 + (6 * x2)) + 4)) + 1) ≤ 2147483647) ∧ (z_O X 1 m_M_behindEnds [(2, 0), (0, (g6 1 ((246 + (6 * x2)) + 4)) + 1)] N σ g6 (fun r8 g8 => L_M_lives_32 X N σ r8 g8 Q)))))) ∧ (¬ (r6 = 0) → ((-2147483648 ≤ (x2 + 1) ∧ (x2 + 1) ≤ 2147483647) ∧ (z_O X 1 m_M_behindEnds [(2, 0), (0, x2 + 1)] N σ g6 (fun r7 g7 => L_M_lives_32 X N σ r7 g7 Q)))))))))))))) ∧ (¬ ((g0 1 (246 + (6 * x2))) = 13) → ((((g0 1 (246 + (6 * x2))) < 1200) → ((-2147483648 ≤ (x2 + 1) ∧ (x2 + 1) ≤ 2147483647) ∧ (z_O X 1 m_M_behindEnds [(2, 0), (0, x2 + 1)] N σ g0 (fun r1 g1 => L_M_lives_32 X N σ r1 g1 Q)))) ∧ (¬ ((g0 1 (246 + (6 * x2))) < 1200) → (z_O X 4 m_M_holds [(2, 0), (0, 246 + (6 * x2))] N σ g0 (fun r2 g2 => (r2 = 0 ∨ r2 = 1) → (((r2 = 0) → ((-2147483648 ≤ ((246 + (6 * x2)) + 4) ∧ ((246 + (6 * x2)) + 4) ≤ 2147483647) ∧ ((0 ≤ ((246 + (6 * x2)) + 4) ∧ ((246 + (6 * x2)) + 4) < 3296) ∧ ((-2147483648 ≤ ((g2 1 ((246 + (6 * x2)) + 4)) + 1) ∧ ((g2 1 ((246 + (6 * x2)) + 4)) + 1) ≤ 2147483647) ∧ (z_O X 1 m_M_behindEnds [(2, 0), (0, (g2 1 ((246 + (6 * x2)) + 4)) + 1)] N σ g2 (fun r4 g4 => L_M_lives_32 X N σ r4 g4 Q)))))) ∧ (¬ (r2 = 0) → ((-2147483648 ≤ (x2 + 1) ∧ (x2 + 1) ≤ 2147483647) ∧ (z_O X 1 m_M_behindEnds [(2, 0), (0, x2 + 1)] N σ g2 (fun r3 g3 => L_M_lives_32 X N σ r3 g3 Q)))))))))))))))))))))))) ∧ (¬ ((g 16 4) = 0) → Q 0 g)))) : L_M_lives_32 X N σ x2 g Q := by
  refine z_iload_n (i := 2) 1 d_M_lives_32 rfl rfl ?_
  refine z_aload_n (i := 0) (c := 0) 0 d_M_lives_33 rfl rfl rfl ?_
  refine z_getr (c := 0) (kI := 0) (r2 := 1) d_M_lives_34 fd_M_at fl_M_7 rfl rfl rfl (ks_M_0 hx) (kl_M_0 hx) (kr_M_0_0 hx) ?_
  refine z_bipush (n := 6) d_M_lives_37 (by decide) (by decide) ?_
  refine z_iald (c := 1) (m := 3296) d_M_lives_39 rfl (ks_M_1 hx) (kl_M_1 hx) rfl (by decide) (by decide) ?_
  refine z_icmp_ge (tgt := 210) d_M_lives_40 (by decide) (fun c1 => ?_) (fun c1 => ?_)
  · have h := h.1 c1
    exact z_vret d_M_lives_210 rfl (by decide) (by decide) ⟨rfl, rfl, h⟩
  · have h := h.2 c1
    refine z_aload_n (i := 0) (c := 0) 0 d_M_lives_43 rfl rfl rfl ?_
    refine z_getr (c := 0) (kI := 38) (r2 := 16) d_M_lives_44 fd_M_ran fl_M_68 rfl rfl rfl (ks_M_0 hx) (kl_M_0 hx) (kr_M_0_38 hx) ?_
    refine z_iconst (n := 4) d_M_lives_47 (by decide) ?_
    refine z_iald (c := 16) (m := 5) d_M_lives_48 rfl (ks_M_16 hx) (kl_M_16 hx) rfl (by decide) (by decide) ?_
    refine z_if_ne (tgt := 210) d_M_lives_49 (by decide) (fun c2 => ?_) (fun c2 => ?_)
    · have h := h.2 c2
      exact z_vret d_M_lives_210 rfl (by decide) (by decide) ⟨rfl, rfl, h⟩
    · have h := h.1 c2
      refine z_aload_n (i := 0) (c := 0) 0 d_M_lives_52 rfl rfl rfl ?_
      refine z_geti (c := 0) (kI := 36) d_M_lives_53 fd_M_ranSteps fl_M_408 (Or.inl rfl) rfl rfl (ks_M_0 hx) (kl_M_0 hx) ?_
      refine z_sipush (n := 300) d_M_lives_56 (by decide) (by decide) ?_
      refine z_icmp_ne (tgt := 72) d_M_lives_59 (by decide) (fun c3 => ?_) (fun c3 => ?_)
      · have h := h.2 c3
        refine z_sipush (n := 246) d_M_lives_72 (by decide) (by decide) ?_
        refine z_bipush (n := 6) d_M_lives_75 (by decide) (by decide) ?_
        refine z_iload_n (i := 2) 1 d_M_lives_77 rfl rfl ?_
        obtain ⟨c4, h⟩ := h
        refine z_imul d_M_lives_78 c4 ?_
        obtain ⟨c5, h⟩ := h
        refine z_iadd d_M_lives_79 c5 ?_
        refine z_istore_n (i := 3) (ls' := [(3, (0, 246 + (6 * x2))), (0, (2, 0)), (2, (0, x2))]) d_M_lives_80 rfl rfl rfl ?_
        refine z_aload_n (i := 0) (c := 0) 1 d_M_lives_81 rfl rfl rfl ?_
        refine z_dup d_M_lives_82 rfl ?_
        refine z_geti (c := 0) (kI := 36) d_M_lives_83 fd_M_ranSteps fl_M_408 (Or.inl rfl) rfl rfl (ks_M_0 hx) (kl_M_0 hx) ?_
        refine z_iconst (n := 1) d_M_lives_86 (by decide) ?_
        obtain ⟨c6, h⟩ := h
        refine z_iadd d_M_lives_87 c6 ?_
        refine z_puti (c := 0) (kI := 36) d_M_lives_88 fd_M_ranSteps fl_M_408 pf_M_ranSteps rfl rfl rfl rfl (ks_M_0 hx) (kl_M_0 hx) ?_
        refine z_aload_n (i := 0) (c := 0) 1 d_M_lives_91 rfl rfl rfl ?_
        refine z_getr (c := 0) (kI := 0) (r2 := 1) d_M_lives_92 fd_M_at fl_M_7 rfl rfl rfl (ks_M_0 hx) (kl_M_0 hx) (kr_M_0_0 hx) ?_
        refine z_iload_n (i := 3) 0 d_M_lives_95 rfl rfl ?_
        obtain ⟨c7, h⟩ := h
        refine z_iald (c := 1) (m := 3296) d_M_lives_96 rfl (ks_M_1 hx) (kl_M_1 hx) rfl (by decide) c7 ?_
        refine z_ti (b := g 1 (246 + (6 * x2))) (by simp [z_up]) ?_
        refine z_bipush (n := 15) d_M_lives_97 (by decide) (by decide) ?_
        refine z_icmp_ne (tgt := 105) d_M_lives_99 (by decide) (fun c8 => ?_) (fun c8 => ?_)
        · have h := h.2 c8
          refine z_aload_n (i := 0) (c := 0) 1 d_M_lives_105 rfl rfl rfl ?_
          refine z_iload_n (i := 3) 0 d_M_lives_106 rfl rfl ?_
          refine z_cV (c := 0) (as := [(0, 246 + (6 * x2))]) (d' := 5) (st := []) d_M_lives_107 mi_M_does ml_M_411 mv_M_does se_M_does rfl rfl rfl rfl (ks_M_0 hx) rfl rfl (kl_M_0 hx) rfl rfl (z_Omono h (fun r0 g0 _ h hro => ?_))
          have h := h (z_b01 hro)
          have hzr0 := z_b01 hro
          show z_U X 6 m_M_lives 110 [(3, (0, 246 + (6 * x2))), (0, (2, 0)), (2, (0, x2))] [(0, r0)] N σ g0 Q
          refine z_istore (ls' := [(4, (0, r0)), (3, (0, 246 + (6 * x2))), (0, (2, 0)), (2, (0, x2))]) d_M_lives_110 rfl rfl ?_
          refine z_iload 0 d_M_lives_112 rfl ?_
          refine z_if_ne (tgt := 127) d_M_lives_114 (by decide) (fun c9 => ?_) (fun c9 => ?_)
          · have h := h.2 c9
            refine z_aload_n (i := 0) (c := 0) 2 d_M_lives_127 rfl rfl rfl ?_
            refine z_getr (c := 0) (kI := 0) (r2 := 1) d_M_lives_128 fd_M_at fl_M_7 rfl rfl rfl (ks_M_0 hx) (kl_M_0 hx) (kr_M_0_0 hx) ?_
            refine z_iload_n (i := 3) 1 d_M_lives_131 rfl rfl ?_
            refine z_iald (c := 1) (m := 3296) d_M_lives_132 rfl (ks_M_1 hx) (kl_M_1 hx) rfl (by decide) c7 ?_
            refine z_bipush (n := 13) d_M_lives_133 (by decide) (by decide) ?_
            refine z_icmp_ne (tgt := 154) d_M_lives_135 (by decide) (fun c10 => ?_) (fun c10 => ?_)
            · have h := h.2 c10
              refine z_aload_n (i := 0) (c := 0) 2 d_M_lives_154 rfl rfl rfl ?_
              refine z_getr (c := 0) (kI := 0) (r2 := 1) d_M_lives_155 fd_M_at fl_M_7 rfl rfl rfl (ks_M_0 hx) (kl_M_0 hx) (kr_M_0_0 hx) ?_
              refine z_iload_n (i := 3) 1 d_M_lives_158 rfl rfl ?_
              refine z_iald (c := 1) (m := 3296) d_M_lives_159 rfl (ks_M_1 hx) (kl_M_1 hx) rfl (by decide) c7 ?_
              refine z_sipush (n := 1200) d_M_lives_160 (by decide) (by decide) ?_
              refine z_icmp_lt (tgt := 178) d_M_lives_163 (by decide) (fun c11 => ?_) (fun c11 => ?_)
              · have h := h.1 c11
                refine z_iconst (n := 0) d_M_lives_178 (by decide) ?_
                refine z_istore (ls' := [(5, (0, 0)), (4, (0, r0)), (3, (0, 246 + (6 * x2))), (0, (2, 0)), (2, (0, x2))]) d_M_lives_179 rfl rfl ?_
                refine z_aload_n (i := 0) (c := 0) 3 d_M_lives_181 rfl rfl rfl ?_
                refine z_iload 0 d_M_lives_182 rfl ?_
                refine z_if_eq (tgt := 200) d_M_lives_184 (by decide) (fun _ => ?_) (fun c => absurd (by decide) c)
                refine z_iload_n (i := 2) 4 d_M_lives_200 rfl rfl ?_
                refine z_iconst (n := 1) d_M_lives_201 (by decide) ?_
                obtain ⟨c12, h⟩ := h
                refine z_iadd d_M_lives_202 c12 ?_
                refine z_cV (c := 0) (as := [(0, x2 + 1)]) (d' := 1) (st := []) d_M_lives_203 mi_M_behindEnds ml_M_417 mv_M_behindEnds se_M_behindEnds rfl rfl rfl rfl (ks_M_0 hx) rfl rfl (kl_M_0 hx) rfl rfl (z_Omono h (fun r1 g1 _ h hro => ?_))
                show z_U X 6 m_M_lives 206 [(5, (0, 0)), (4, (0, r0)), (3, (0, 246 + (6 * x2))), (0, (2, 0)), (2, (0, x2))] [(0, r1)] N σ g1 Q
                refine z_istore_n (i := 2) (ls' := [(2, (0, r1)), (5, (0, 0)), (4, (0, r0)), (3, (0, 246 + (6 * x2))), (0, (2, 0))]) d_M_lives_206 rfl rfl rfl ?_
                refine z_goto (tgt := 32) d_M_lives_207 (by decide) ?_
                refine z_sub (ls' := [(0, (2, 0)), (2, (0, r1))]) [4, 0] rfl ?_
                exact h
              · have h := h.2 c11
                refine z_aload_n (i := 0) (c := 0) 2 d_M_lives_166 rfl rfl rfl ?_
                refine z_iload_n (i := 3) 1 d_M_lives_167 rfl rfl ?_
                refine z_cV (c := 0) (as := [(0, 246 + (6 * x2))]) (d' := 4) (st := []) d_M_lives_168 mi_M_holds ml_M_414 mv_M_holds se_M_holds rfl rfl rfl rfl (ks_M_0 hx) rfl rfl (kl_M_0 hx) rfl rfl (z_Omono h (fun r2 g2 _ h hro => ?_))
                have h := h (z_b01 hro)
                have hzr2 := z_b01 hro
                show z_U X 6 m_M_lives 171 [(4, (0, r0)), (3, (0, 246 + (6 * x2))), (0, (2, 0)), (2, (0, x2))] [(0, r2)] N σ g2 Q
                refine z_if_ne (tgt := 178) d_M_lives_171 (by decide) (fun c13 => ?_) (fun c13 => ?_)
                · have h := h.2 c13
                  refine z_iconst (n := 0) d_M_lives_178 (by decide) ?_
                  refine z_istore (ls' := [(5, (0, 0)), (4, (0, r0)), (3, (0, 246 + (6 * x2))), (0, (2, 0)), (2, (0, x2))]) d_M_lives_179 rfl rfl ?_
                  refine z_aload_n (i := 0) (c := 0) 3 d_M_lives_181 rfl rfl rfl ?_
                  refine z_iload 0 d_M_lives_182 rfl ?_
                  refine z_if_eq (tgt := 200) d_M_lives_184 (by decide) (fun _ => ?_) (fun c => absurd (by decide) c)
                  refine z_iload_n (i := 2) 4 d_M_lives_200 rfl rfl ?_
                  refine z_iconst (n := 1) d_M_lives_201 (by decide) ?_
                  obtain ⟨c14, h⟩ := h
                  refine z_iadd d_M_lives_202 c14 ?_
                  refine z_cV (c := 0) (as := [(0, x2 + 1)]) (d' := 1) (st := []) d_M_lives_203 mi_M_behindEnds ml_M_417 mv_M_behindEnds se_M_behindEnds rfl rfl rfl rfl (ks_M_0 hx) rfl rfl (kl_M_0 hx) rfl rfl (z_Omono h (fun r3 g3 _ h hro => ?_))
                  show z_U X 6 m_M_lives 206 [(5, (0, 0)), (4, (0, r0)), (3, (0, 246 + (6 * x2))), (0, (2, 0)), (2, (0, x2))] [(0, r3)] N σ g3 Q
                  refine z_istore_n (i := 2) (ls' := [(2, (0, r3)), (5, (0, 0)), (4, (0, r0)), (3, (0, 246 + (6 * x2))), (0, (2, 0))]) d_M_lives_206 rfl rfl rfl ?_
                  refine z_goto (tgt := 32) d_M_lives_207 (by decide) ?_
                  refine z_sub (ls' := [(0, (2, 0)), (2, (0, r3))]) [4, 0] rfl ?_
                  exact h
                · have h := h.1 c13
                  refine z_iconst (n := 1) d_M_lives_174 (by decide) ?_
                  refine z_goto (tgt := 179) d_M_lives_175 (by decide) ?_
                  refine z_istore (ls' := [(5, (0, 1)), (4, (0, r0)), (3, (0, 246 + (6 * x2))), (0, (2, 0)), (2, (0, x2))]) d_M_lives_179 rfl rfl ?_
                  refine z_aload_n (i := 0) (c := 0) 3 d_M_lives_181 rfl rfl rfl ?_
                  refine z_iload 0 d_M_lives_182 rfl ?_
                  refine z_if_eq (tgt := 200) d_M_lives_184 (by decide) (fun c => absurd c (by decide)) (fun _ => ?_)
                  refine z_aload_n (i := 0) (c := 0) 3 d_M_lives_187 rfl rfl rfl ?_
                  refine z_getr (c := 0) (kI := 0) (r2 := 1) d_M_lives_188 fd_M_at fl_M_7 rfl rfl rfl (ks_M_0 hx) (kl_M_0 hx) (kr_M_0_0 hx) ?_
                  refine z_iload_n (i := 3) 2 d_M_lives_191 rfl rfl ?_
                  refine z_iconst (n := 4) d_M_lives_192 (by decide) ?_
                  obtain ⟨c15, h⟩ := h
                  refine z_iadd d_M_lives_193 c15 ?_
                  obtain ⟨c16, h⟩ := h
                  refine z_iald (c := 1) (m := 3296) d_M_lives_194 rfl (ks_M_1 hx) (kl_M_1 hx) rfl (by decide) c16 ?_
                  refine z_iconst (n := 1) d_M_lives_195 (by decide) ?_
                  obtain ⟨c17, h⟩ := h
                  refine z_iadd d_M_lives_196 c17 ?_
                  refine z_goto (tgt := 203) d_M_lives_197 (by decide) ?_
                  refine z_cV (c := 0) (as := [(0, (g2 1 ((246 + (6 * x2)) + 4)) + 1)]) (d' := 1) (st := []) d_M_lives_203 mi_M_behindEnds ml_M_417 mv_M_behindEnds se_M_behindEnds rfl rfl rfl rfl (ks_M_0 hx) rfl rfl (kl_M_0 hx) rfl rfl (z_Omono h (fun r4 g4 _ h hro => ?_))
                  show z_U X 6 m_M_lives 206 [(5, (0, 1)), (4, (0, r0)), (3, (0, 246 + (6 * x2))), (0, (2, 0)), (2, (0, x2))] [(0, r4)] N σ g4 Q
                  refine z_istore_n (i := 2) (ls' := [(2, (0, r4)), (5, (0, 1)), (4, (0, r0)), (3, (0, 246 + (6 * x2))), (0, (2, 0))]) d_M_lives_206 rfl rfl rfl ?_
                  refine z_goto (tgt := 32) d_M_lives_207 (by decide) ?_
                  refine z_sub (ls' := [(0, (2, 0)), (2, (0, r4))]) [4, 0] rfl ?_
                  exact h
            · have h := h.1 c10
              refine z_aload_n (i := 0) (c := 0) 2 d_M_lives_138 rfl rfl rfl ?_
              refine z_getr (c := 0) (kI := 37) (r2 := 15) d_M_lives_139 fd_M_loops fl_M_65 rfl rfl rfl (ks_M_0 hx) (kl_M_0 hx) (kr_M_0_37 hx) ?_
              refine z_iload_n (i := 2) 3 d_M_lives_142 rfl rfl ?_
              refine z_aload_n (i := 0) (c := 0) 2 d_M_lives_143 rfl rfl rfl ?_
              refine z_getr (c := 0) (kI := 0) (r2 := 1) d_M_lives_144 fd_M_at fl_M_7 rfl rfl rfl (ks_M_0 hx) (kl_M_0 hx) (kr_M_0_0 hx) ?_
              refine z_iload_n (i := 3) 1 d_M_lives_147 rfl rfl ?_
              refine z_iconst (n := 1) d_M_lives_148 (by decide) ?_
              obtain ⟨c18, h⟩ := h
              refine z_iadd d_M_lives_149 c18 ?_
              obtain ⟨c19, h⟩ := h
              refine z_iald (c := 1) (m := 3296) d_M_lives_150 rfl (ks_M_1 hx) (kl_M_1 hx) rfl (by decide) c19 ?_
              refine z_iconst (n := 1) d_M_lives_151 (by decide) ?_
              obtain ⟨c20, h⟩ := h
              refine z_isub d_M_lives_152 c20 ?_
              obtain ⟨c21, h⟩ := h
              refine z_iast (c := 15) (m := 60) d_M_lives_153 rfl (ks_M_15 hx) (kl_M_15 hx) rfl (by decide) c21 ?_
              refine z_aload_n (i := 0) (c := 0) 2 d_M_lives_154 rfl rfl rfl ?_
              refine z_getr (c := 0) (kI := 0) (r2 := 1) d_M_lives_155 fd_M_at fl_M_7 rfl rfl rfl (ks_M_0 hx) (kl_M_0 hx) (kr_M_0_0 hx) ?_
              refine z_iload_n (i := 3) 1 d_M_lives_158 rfl rfl ?_
              refine z_iald (c := 1) (m := 3296) d_M_lives_159 rfl (ks_M_1 hx) (kl_M_1 hx) rfl (by decide) c7 ?_
              refine z_ti (b := g0 1 (246 + (6 * x2))) (by simp [z_up]) ?_
              refine z_sipush (n := 1200) d_M_lives_160 (by decide) (by decide) ?_
              refine z_icmp_lt (tgt := 178) d_M_lives_163 (by decide) (fun c22 => ?_) (fun c22 => ?_)
              · have h := h.1 c22
                refine z_iconst (n := 0) d_M_lives_178 (by decide) ?_
                refine z_istore (ls' := [(5, (0, 0)), (4, (0, r0)), (3, (0, 246 + (6 * x2))), (0, (2, 0)), (2, (0, x2))]) d_M_lives_179 rfl rfl ?_
                refine z_aload_n (i := 0) (c := 0) 3 d_M_lives_181 rfl rfl rfl ?_
                refine z_iload 0 d_M_lives_182 rfl ?_
                refine z_if_eq (tgt := 200) d_M_lives_184 (by decide) (fun _ => ?_) (fun c => absurd (by decide) c)
                refine z_iload_n (i := 2) 4 d_M_lives_200 rfl rfl ?_
                refine z_iconst (n := 1) d_M_lives_201 (by decide) ?_
                obtain ⟨c23, h⟩ := h
                refine z_iadd d_M_lives_202 c23 ?_
                refine z_cV (c := 0) (as := [(0, x2 + 1)]) (d' := 1) (st := []) d_M_lives_203 mi_M_behindEnds ml_M_417 mv_M_behindEnds se_M_behindEnds rfl rfl rfl rfl (ks_M_0 hx) rfl rfl (kl_M_0 hx) rfl rfl (z_Omono h (fun r5 g5 _ h hro => ?_))
                show z_U X 6 m_M_lives 206 [(5, (0, 0)), (4, (0, r0)), (3, (0, 246 + (6 * x2))), (0, (2, 0)), (2, (0, x2))] [(0, r5)] N σ g5 Q
                refine z_istore_n (i := 2) (ls' := [(2, (0, r5)), (5, (0, 0)), (4, (0, r0)), (3, (0, 246 + (6 * x2))), (0, (2, 0))]) d_M_lives_206 rfl rfl rfl ?_
                refine z_goto (tgt := 32) d_M_lives_207 (by decide) ?_
                refine z_sub (ls' := [(0, (2, 0)), (2, (0, r5))]) [4, 0] rfl ?_
                exact h
              · have h := h.2 c22
                refine z_aload_n (i := 0) (c := 0) 2 d_M_lives_166 rfl rfl rfl ?_
                refine z_iload_n (i := 3) 1 d_M_lives_167 rfl rfl ?_
                refine z_cV (c := 0) (as := [(0, 246 + (6 * x2))]) (d' := 4) (st := []) d_M_lives_168 mi_M_holds ml_M_414 mv_M_holds se_M_holds rfl rfl rfl rfl (ks_M_0 hx) rfl rfl (kl_M_0 hx) rfl rfl (z_Omono h (fun r6 g6 _ h hro => ?_))
                have h := h (z_b01 hro)
                have hzr6 := z_b01 hro
                show z_U X 6 m_M_lives 171 [(4, (0, r0)), (3, (0, 246 + (6 * x2))), (0, (2, 0)), (2, (0, x2))] [(0, r6)] N σ g6 Q
                refine z_if_ne (tgt := 178) d_M_lives_171 (by decide) (fun c24 => ?_) (fun c24 => ?_)
                · have h := h.2 c24
                  refine z_iconst (n := 0) d_M_lives_178 (by decide) ?_
                  refine z_istore (ls' := [(5, (0, 0)), (4, (0, r0)), (3, (0, 246 + (6 * x2))), (0, (2, 0)), (2, (0, x2))]) d_M_lives_179 rfl rfl ?_
                  refine z_aload_n (i := 0) (c := 0) 3 d_M_lives_181 rfl rfl rfl ?_
                  refine z_iload 0 d_M_lives_182 rfl ?_
                  refine z_if_eq (tgt := 200) d_M_lives_184 (by decide) (fun _ => ?_) (fun c => absurd (by decide) c)
                  refine z_iload_n (i := 2) 4 d_M_lives_200 rfl rfl ?_
                  refine z_iconst (n := 1) d_M_lives_201 (by decide) ?_
                  obtain ⟨c25, h⟩ := h
                  refine z_iadd d_M_lives_202 c25 ?_
                  refine z_cV (c := 0) (as := [(0, x2 + 1)]) (d' := 1) (st := []) d_M_lives_203 mi_M_behindEnds ml_M_417 mv_M_behindEnds se_M_behindEnds rfl rfl rfl rfl (ks_M_0 hx) rfl rfl (kl_M_0 hx) rfl rfl (z_Omono h (fun r7 g7 _ h hro => ?_))
                  show z_U X 6 m_M_lives 206 [(5, (0, 0)), (4, (0, r0)), (3, (0, 246 + (6 * x2))), (0, (2, 0)), (2, (0, x2))] [(0, r7)] N σ g7 Q
                  refine z_istore_n (i := 2) (ls' := [(2, (0, r7)), (5, (0, 0)), (4, (0, r0)), (3, (0, 246 + (6 * x2))), (0, (2, 0))]) d_M_lives_206 rfl rfl rfl ?_
                  refine z_goto (tgt := 32) d_M_lives_207 (by decide) ?_
                  refine z_sub (ls' := [(0, (2, 0)), (2, (0, r7))]) [4, 0] rfl ?_
                  exact h
                · have h := h.1 c24
                  refine z_iconst (n := 1) d_M_lives_174 (by decide) ?_
                  refine z_goto (tgt := 179) d_M_lives_175 (by decide) ?_
                  refine z_istore (ls' := [(5, (0, 1)), (4, (0, r0)), (3, (0, 246 + (6 * x2))), (0, (2, 0)), (2, (0, x2))]) d_M_lives_179 rfl rfl ?_
                  refine z_aload_n (i := 0) (c := 0) 3 d_M_lives_181 rfl rfl rfl ?_
                  refine z_iload 0 d_M_lives_182 rfl ?_
                  refine z_if_eq (tgt := 200) d_M_lives_184 (by decide) (fun c => absurd c (by decide)) (fun _ => ?_)
                  refine z_aload_n (i := 0) (c := 0) 3 d_M_lives_187 rfl rfl rfl ?_
                  refine z_getr (c := 0) (kI := 0) (r2 := 1) d_M_lives_188 fd_M_at fl_M_7 rfl rfl rfl (ks_M_0 hx) (kl_M_0 hx) (kr_M_0_0 hx) ?_
                  refine z_iload_n (i := 3) 2 d_M_lives_191 rfl rfl ?_
                  refine z_iconst (n := 4) d_M_lives_192 (by decide) ?_
                  obtain ⟨c26, h⟩ := h
                  refine z_iadd d_M_lives_193 c26 ?_
                  obtain ⟨c27, h⟩ := h
                  refine z_iald (c := 1) (m := 3296) d_M_lives_194 rfl (ks_M_1 hx) (kl_M_1 hx) rfl (by decide) c27 ?_
                  refine z_iconst (n := 1) d_M_lives_195 (by decide) ?_
                  obtain ⟨c28, h⟩ := h
                  refine z_iadd d_M_lives_196 c28 ?_
                  refine z_goto (tgt := 203) d_M_lives_197 (by decide) ?_
                  refine z_cV (c := 0) (as := [(0, (g6 1 ((246 + (6 * x2)) + 4)) + 1)]) (d' := 1) (st := []) d_M_lives_203 mi_M_behindEnds ml_M_417 mv_M_behindEnds se_M_behindEnds rfl rfl rfl rfl (ks_M_0 hx) rfl rfl (kl_M_0 hx) rfl rfl (z_Omono h (fun r8 g8 _ h hro => ?_))
                  show z_U X 6 m_M_lives 206 [(5, (0, 1)), (4, (0, r0)), (3, (0, 246 + (6 * x2))), (0, (2, 0)), (2, (0, x2))] [(0, r8)] N σ g8 Q
                  refine z_istore_n (i := 2) (ls' := [(2, (0, r8)), (5, (0, 1)), (4, (0, r0)), (3, (0, 246 + (6 * x2))), (0, (2, 0))]) d_M_lives_206 rfl rfl rfl ?_
                  refine z_goto (tgt := 32) d_M_lives_207 (by decide) ?_
                  refine z_sub (ls' := [(0, (2, 0)), (2, (0, r8))]) [4, 0] rfl ?_
                  exact h
          · have h := h.1 c9
            refine z_aload_n (i := 0) (c := 0) 2 d_M_lives_117 rfl rfl rfl ?_
            refine z_getr (c := 0) (kI := 38) (r2 := 16) d_M_lives_118 fd_M_ran fl_M_68 rfl rfl rfl (ks_M_0 hx) (kl_M_0 hx) (kr_M_0_38 hx) ?_
            refine z_iconst (n := 0) d_M_lives_121 (by decide) ?_
            refine z_dup2 d_M_lives_122 rfl rfl ?_
            refine z_iald (c := 16) (m := 5) d_M_lives_123 rfl (ks_M_16 hx) (kl_M_16 hx) rfl (by decide) (by decide) ?_
            refine z_iconst (n := 1) d_M_lives_124 (by decide) ?_
            obtain ⟨c29, h⟩ := h
            refine z_iadd d_M_lives_125 c29 ?_
            refine z_iast (c := 16) (m := 5) d_M_lives_126 rfl (ks_M_16 hx) (kl_M_16 hx) rfl (by decide) (by decide) ?_
            refine z_aload_n (i := 0) (c := 0) 2 d_M_lives_127 rfl rfl rfl ?_
            refine z_getr (c := 0) (kI := 0) (r2 := 1) d_M_lives_128 fd_M_at fl_M_7 rfl rfl rfl (ks_M_0 hx) (kl_M_0 hx) (kr_M_0_0 hx) ?_
            refine z_iload_n (i := 3) 1 d_M_lives_131 rfl rfl ?_
            refine z_iald (c := 1) (m := 3296) d_M_lives_132 rfl (ks_M_1 hx) (kl_M_1 hx) rfl (by decide) c7 ?_
            refine z_ti (b := g0 1 (246 + (6 * x2))) (by simp [z_up]) ?_
            refine z_bipush (n := 13) d_M_lives_133 (by decide) (by decide) ?_
            refine z_icmp_ne (tgt := 154) d_M_lives_135 (by decide) (fun c30 => ?_) (fun c30 => ?_)
            · have h := h.2 c30
              refine z_aload_n (i := 0) (c := 0) 2 d_M_lives_154 rfl rfl rfl ?_
              refine z_getr (c := 0) (kI := 0) (r2 := 1) d_M_lives_155 fd_M_at fl_M_7 rfl rfl rfl (ks_M_0 hx) (kl_M_0 hx) (kr_M_0_0 hx) ?_
              refine z_iload_n (i := 3) 1 d_M_lives_158 rfl rfl ?_
              refine z_iald (c := 1) (m := 3296) d_M_lives_159 rfl (ks_M_1 hx) (kl_M_1 hx) rfl (by decide) c7 ?_
              refine z_ti (b := g0 1 (246 + (6 * x2))) (by simp [z_up]) ?_
              refine z_sipush (n := 1200) d_M_lives_160 (by decide) (by decide) ?_
              refine z_icmp_lt (tgt := 178) d_M_lives_163 (by decide) (fun c31 => ?_) (fun c31 => ?_)
              · have h := h.1 c31
                refine z_iconst (n := 0) d_M_lives_178 (by decide) ?_
                refine z_istore (ls' := [(5, (0, 0)), (4, (0, r0)), (3, (0, 246 + (6 * x2))), (0, (2, 0)), (2, (0, x2))]) d_M_lives_179 rfl rfl ?_
                refine z_aload_n (i := 0) (c := 0) 3 d_M_lives_181 rfl rfl rfl ?_
                refine z_iload 0 d_M_lives_182 rfl ?_
                refine z_if_eq (tgt := 200) d_M_lives_184 (by decide) (fun _ => ?_) (fun c => absurd (by decide) c)
                refine z_iload_n (i := 2) 4 d_M_lives_200 rfl rfl ?_
                refine z_iconst (n := 1) d_M_lives_201 (by decide) ?_
                obtain ⟨c32, h⟩ := h
                refine z_iadd d_M_lives_202 c32 ?_
                refine z_cV (c := 0) (as := [(0, x2 + 1)]) (d' := 1) (st := []) d_M_lives_203 mi_M_behindEnds ml_M_417 mv_M_behindEnds se_M_behindEnds rfl rfl rfl rfl (ks_M_0 hx) rfl rfl (kl_M_0 hx) rfl rfl (z_Omono h (fun r9 g9 _ h hro => ?_))
                show z_U X 6 m_M_lives 206 [(5, (0, 0)), (4, (0, r0)), (3, (0, 246 + (6 * x2))), (0, (2, 0)), (2, (0, x2))] [(0, r9)] N σ g9 Q
                refine z_istore_n (i := 2) (ls' := [(2, (0, r9)), (5, (0, 0)), (4, (0, r0)), (3, (0, 246 + (6 * x2))), (0, (2, 0))]) d_M_lives_206 rfl rfl rfl ?_
                refine z_goto (tgt := 32) d_M_lives_207 (by decide) ?_
                refine z_sub (ls' := [(0, (2, 0)), (2, (0, r9))]) [4, 0] rfl ?_
                exact h
              · have h := h.2 c31
                refine z_aload_n (i := 0) (c := 0) 2 d_M_lives_166 rfl rfl rfl ?_
                refine z_iload_n (i := 3) 1 d_M_lives_167 rfl rfl ?_
                refine z_cV (c := 0) (as := [(0, 246 + (6 * x2))]) (d' := 4) (st := []) d_M_lives_168 mi_M_holds ml_M_414 mv_M_holds se_M_holds rfl rfl rfl rfl (ks_M_0 hx) rfl rfl (kl_M_0 hx) rfl rfl (z_Omono h (fun r10 g10 _ h hro => ?_))
                have h := h (z_b01 hro)
                have hzr10 := z_b01 hro
                show z_U X 6 m_M_lives 171 [(4, (0, r0)), (3, (0, 246 + (6 * x2))), (0, (2, 0)), (2, (0, x2))] [(0, r10)] N σ g10 Q
                refine z_if_ne (tgt := 178) d_M_lives_171 (by decide) (fun c33 => ?_) (fun c33 => ?_)
                · have h := h.2 c33
                  refine z_iconst (n := 0) d_M_lives_178 (by decide) ?_
                  refine z_istore (ls' := [(5, (0, 0)), (4, (0, r0)), (3, (0, 246 + (6 * x2))), (0, (2, 0)), (2, (0, x2))]) d_M_lives_179 rfl rfl ?_
                  refine z_aload_n (i := 0) (c := 0) 3 d_M_lives_181 rfl rfl rfl ?_
                  refine z_iload 0 d_M_lives_182 rfl ?_
                  refine z_if_eq (tgt := 200) d_M_lives_184 (by decide) (fun _ => ?_) (fun c => absurd (by decide) c)
                  refine z_iload_n (i := 2) 4 d_M_lives_200 rfl rfl ?_
                  refine z_iconst (n := 1) d_M_lives_201 (by decide) ?_
                  obtain ⟨c34, h⟩ := h
                  refine z_iadd d_M_lives_202 c34 ?_
                  refine z_cV (c := 0) (as := [(0, x2 + 1)]) (d' := 1) (st := []) d_M_lives_203 mi_M_behindEnds ml_M_417 mv_M_behindEnds se_M_behindEnds rfl rfl rfl rfl (ks_M_0 hx) rfl rfl (kl_M_0 hx) rfl rfl (z_Omono h (fun r11 g11 _ h hro => ?_))
                  show z_U X 6 m_M_lives 206 [(5, (0, 0)), (4, (0, r0)), (3, (0, 246 + (6 * x2))), (0, (2, 0)), (2, (0, x2))] [(0, r11)] N σ g11 Q
                  refine z_istore_n (i := 2) (ls' := [(2, (0, r11)), (5, (0, 0)), (4, (0, r0)), (3, (0, 246 + (6 * x2))), (0, (2, 0))]) d_M_lives_206 rfl rfl rfl ?_
                  refine z_goto (tgt := 32) d_M_lives_207 (by decide) ?_
                  refine z_sub (ls' := [(0, (2, 0)), (2, (0, r11))]) [4, 0] rfl ?_
                  exact h
                · have h := h.1 c33
                  refine z_iconst (n := 1) d_M_lives_174 (by decide) ?_
                  refine z_goto (tgt := 179) d_M_lives_175 (by decide) ?_
                  refine z_istore (ls' := [(5, (0, 1)), (4, (0, r0)), (3, (0, 246 + (6 * x2))), (0, (2, 0)), (2, (0, x2))]) d_M_lives_179 rfl rfl ?_
                  refine z_aload_n (i := 0) (c := 0) 3 d_M_lives_181 rfl rfl rfl ?_
                  refine z_iload 0 d_M_lives_182 rfl ?_
                  refine z_if_eq (tgt := 200) d_M_lives_184 (by decide) (fun c => absurd c (by decide)) (fun _ => ?_)
                  refine z_aload_n (i := 0) (c := 0) 3 d_M_lives_187 rfl rfl rfl ?_
                  refine z_getr (c := 0) (kI := 0) (r2 := 1) d_M_lives_188 fd_M_at fl_M_7 rfl rfl rfl (ks_M_0 hx) (kl_M_0 hx) (kr_M_0_0 hx) ?_
                  refine z_iload_n (i := 3) 2 d_M_lives_191 rfl rfl ?_
                  refine z_iconst (n := 4) d_M_lives_192 (by decide) ?_
                  obtain ⟨c35, h⟩ := h
                  refine z_iadd d_M_lives_193 c35 ?_
                  obtain ⟨c36, h⟩ := h
                  refine z_iald (c := 1) (m := 3296) d_M_lives_194 rfl (ks_M_1 hx) (kl_M_1 hx) rfl (by decide) c36 ?_
                  refine z_iconst (n := 1) d_M_lives_195 (by decide) ?_
                  obtain ⟨c37, h⟩ := h
                  refine z_iadd d_M_lives_196 c37 ?_
                  refine z_goto (tgt := 203) d_M_lives_197 (by decide) ?_
                  refine z_cV (c := 0) (as := [(0, (g10 1 ((246 + (6 * x2)) + 4)) + 1)]) (d' := 1) (st := []) d_M_lives_203 mi_M_behindEnds ml_M_417 mv_M_behindEnds se_M_behindEnds rfl rfl rfl rfl (ks_M_0 hx) rfl rfl (kl_M_0 hx) rfl rfl (z_Omono h (fun r12 g12 _ h hro => ?_))
                  show z_U X 6 m_M_lives 206 [(5, (0, 1)), (4, (0, r0)), (3, (0, 246 + (6 * x2))), (0, (2, 0)), (2, (0, x2))] [(0, r12)] N σ g12 Q
                  refine z_istore_n (i := 2) (ls' := [(2, (0, r12)), (5, (0, 1)), (4, (0, r0)), (3, (0, 246 + (6 * x2))), (0, (2, 0))]) d_M_lives_206 rfl rfl rfl ?_
                  refine z_goto (tgt := 32) d_M_lives_207 (by decide) ?_
                  refine z_sub (ls' := [(0, (2, 0)), (2, (0, r12))]) [4, 0] rfl ?_
                  exact h
            · have h := h.1 c30
              refine z_aload_n (i := 0) (c := 0) 2 d_M_lives_138 rfl rfl rfl ?_
              refine z_getr (c := 0) (kI := 37) (r2 := 15) d_M_lives_139 fd_M_loops fl_M_65 rfl rfl rfl (ks_M_0 hx) (kl_M_0 hx) (kr_M_0_37 hx) ?_
              refine z_iload_n (i := 2) 3 d_M_lives_142 rfl rfl ?_
              refine z_aload_n (i := 0) (c := 0) 2 d_M_lives_143 rfl rfl rfl ?_
              refine z_getr (c := 0) (kI := 0) (r2 := 1) d_M_lives_144 fd_M_at fl_M_7 rfl rfl rfl (ks_M_0 hx) (kl_M_0 hx) (kr_M_0_0 hx) ?_
              refine z_iload_n (i := 3) 1 d_M_lives_147 rfl rfl ?_
              refine z_iconst (n := 1) d_M_lives_148 (by decide) ?_
              obtain ⟨c38, h⟩ := h
              refine z_iadd d_M_lives_149 c38 ?_
              obtain ⟨c39, h⟩ := h
              refine z_iald (c := 1) (m := 3296) d_M_lives_150 rfl (ks_M_1 hx) (kl_M_1 hx) rfl (by decide) c39 ?_
              refine z_ti (b := g0 1 ((246 + (6 * x2)) + 1)) (by simp [z_up]) ?_
              refine z_iconst (n := 1) d_M_lives_151 (by decide) ?_
              obtain ⟨c40, h⟩ := h
              refine z_isub d_M_lives_152 c40 ?_
              obtain ⟨c41, h⟩ := h
              refine z_iast (c := 15) (m := 60) d_M_lives_153 rfl (ks_M_15 hx) (kl_M_15 hx) rfl (by decide) c41 ?_
              refine z_aload_n (i := 0) (c := 0) 2 d_M_lives_154 rfl rfl rfl ?_
              refine z_getr (c := 0) (kI := 0) (r2 := 1) d_M_lives_155 fd_M_at fl_M_7 rfl rfl rfl (ks_M_0 hx) (kl_M_0 hx) (kr_M_0_0 hx) ?_
              refine z_iload_n (i := 3) 1 d_M_lives_158 rfl rfl ?_
              refine z_iald (c := 1) (m := 3296) d_M_lives_159 rfl (ks_M_1 hx) (kl_M_1 hx) rfl (by decide) c7 ?_
              refine z_ti (b := g0 1 (246 + (6 * x2))) (by simp [z_up]) ?_
              refine z_sipush (n := 1200) d_M_lives_160 (by decide) (by decide) ?_
              refine z_icmp_lt (tgt := 178) d_M_lives_163 (by decide) (fun c42 => ?_) (fun c42 => ?_)
              · have h := h.1 c42
                refine z_iconst (n := 0) d_M_lives_178 (by decide) ?_
                refine z_istore (ls' := [(5, (0, 0)), (4, (0, r0)), (3, (0, 246 + (6 * x2))), (0, (2, 0)), (2, (0, x2))]) d_M_lives_179 rfl rfl ?_
                refine z_aload_n (i := 0) (c := 0) 3 d_M_lives_181 rfl rfl rfl ?_
                refine z_iload 0 d_M_lives_182 rfl ?_
                refine z_if_eq (tgt := 200) d_M_lives_184 (by decide) (fun _ => ?_) (fun c => absurd (by decide) c)
                refine z_iload_n (i := 2) 4 d_M_lives_200 rfl rfl ?_
                refine z_iconst (n := 1) d_M_lives_201 (by decide) ?_
                obtain ⟨c43, h⟩ := h
                refine z_iadd d_M_lives_202 c43 ?_
                refine z_cV (c := 0) (as := [(0, x2 + 1)]) (d' := 1) (st := []) d_M_lives_203 mi_M_behindEnds ml_M_417 mv_M_behindEnds se_M_behindEnds rfl rfl rfl rfl (ks_M_0 hx) rfl rfl (kl_M_0 hx) rfl rfl (z_Omono h (fun r13 g13 _ h hro => ?_))
                show z_U X 6 m_M_lives 206 [(5, (0, 0)), (4, (0, r0)), (3, (0, 246 + (6 * x2))), (0, (2, 0)), (2, (0, x2))] [(0, r13)] N σ g13 Q
                refine z_istore_n (i := 2) (ls' := [(2, (0, r13)), (5, (0, 0)), (4, (0, r0)), (3, (0, 246 + (6 * x2))), (0, (2, 0))]) d_M_lives_206 rfl rfl rfl ?_
                refine z_goto (tgt := 32) d_M_lives_207 (by decide) ?_
                refine z_sub (ls' := [(0, (2, 0)), (2, (0, r13))]) [4, 0] rfl ?_
                exact h
              · have h := h.2 c42
                refine z_aload_n (i := 0) (c := 0) 2 d_M_lives_166 rfl rfl rfl ?_
                refine z_iload_n (i := 3) 1 d_M_lives_167 rfl rfl ?_
                refine z_cV (c := 0) (as := [(0, 246 + (6 * x2))]) (d' := 4) (st := []) d_M_lives_168 mi_M_holds ml_M_414 mv_M_holds se_M_holds rfl rfl rfl rfl (ks_M_0 hx) rfl rfl (kl_M_0 hx) rfl rfl (z_Omono h (fun r14 g14 _ h hro => ?_))
                have h := h (z_b01 hro)
                have hzr14 := z_b01 hro
                show z_U X 6 m_M_lives 171 [(4, (0, r0)), (3, (0, 246 + (6 * x2))), (0, (2, 0)), (2, (0, x2))] [(0, r14)] N σ g14 Q
                refine z_if_ne (tgt := 178) d_M_lives_171 (by decide) (fun c44 => ?_) (fun c44 => ?_)
                · have h := h.2 c44
                  refine z_iconst (n := 0) d_M_lives_178 (by decide) ?_
                  refine z_istore (ls' := [(5, (0, 0)), (4, (0, r0)), (3, (0, 246 + (6 * x2))), (0, (2, 0)), (2, (0, x2))]) d_M_lives_179 rfl rfl ?_
                  refine z_aload_n (i := 0) (c := 0) 3 d_M_lives_181 rfl rfl rfl ?_
                  refine z_iload 0 d_M_lives_182 rfl ?_
                  refine z_if_eq (tgt := 200) d_M_lives_184 (by decide) (fun _ => ?_) (fun c => absurd (by decide) c)
                  refine z_iload_n (i := 2) 4 d_M_lives_200 rfl rfl ?_
                  refine z_iconst (n := 1) d_M_lives_201 (by decide) ?_
                  obtain ⟨c45, h⟩ := h
                  refine z_iadd d_M_lives_202 c45 ?_
                  refine z_cV (c := 0) (as := [(0, x2 + 1)]) (d' := 1) (st := []) d_M_lives_203 mi_M_behindEnds ml_M_417 mv_M_behindEnds se_M_behindEnds rfl rfl rfl rfl (ks_M_0 hx) rfl rfl (kl_M_0 hx) rfl rfl (z_Omono h (fun r15 g15 _ h hro => ?_))
                  show z_U X 6 m_M_lives 206 [(5, (0, 0)), (4, (0, r0)), (3, (0, 246 + (6 * x2))), (0, (2, 0)), (2, (0, x2))] [(0, r15)] N σ g15 Q
                  refine z_istore_n (i := 2) (ls' := [(2, (0, r15)), (5, (0, 0)), (4, (0, r0)), (3, (0, 246 + (6 * x2))), (0, (2, 0))]) d_M_lives_206 rfl rfl rfl ?_
                  refine z_goto (tgt := 32) d_M_lives_207 (by decide) ?_
                  refine z_sub (ls' := [(0, (2, 0)), (2, (0, r15))]) [4, 0] rfl ?_
                  exact h
                · have h := h.1 c44
                  refine z_iconst (n := 1) d_M_lives_174 (by decide) ?_
                  refine z_goto (tgt := 179) d_M_lives_175 (by decide) ?_
                  refine z_istore (ls' := [(5, (0, 1)), (4, (0, r0)), (3, (0, 246 + (6 * x2))), (0, (2, 0)), (2, (0, x2))]) d_M_lives_179 rfl rfl ?_
                  refine z_aload_n (i := 0) (c := 0) 3 d_M_lives_181 rfl rfl rfl ?_
                  refine z_iload 0 d_M_lives_182 rfl ?_
                  refine z_if_eq (tgt := 200) d_M_lives_184 (by decide) (fun c => absurd c (by decide)) (fun _ => ?_)
                  refine z_aload_n (i := 0) (c := 0) 3 d_M_lives_187 rfl rfl rfl ?_
                  refine z_getr (c := 0) (kI := 0) (r2 := 1) d_M_lives_188 fd_M_at fl_M_7 rfl rfl rfl (ks_M_0 hx) (kl_M_0 hx) (kr_M_0_0 hx) ?_
                  refine z_iload_n (i := 3) 2 d_M_lives_191 rfl rfl ?_
                  refine z_iconst (n := 4) d_M_lives_192 (by decide) ?_
                  obtain ⟨c46, h⟩ := h
                  refine z_iadd d_M_lives_193 c46 ?_
                  obtain ⟨c47, h⟩ := h
                  refine z_iald (c := 1) (m := 3296) d_M_lives_194 rfl (ks_M_1 hx) (kl_M_1 hx) rfl (by decide) c47 ?_
                  refine z_iconst (n := 1) d_M_lives_195 (by decide) ?_
                  obtain ⟨c48, h⟩ := h
                  refine z_iadd d_M_lives_196 c48 ?_
                  refine z_goto (tgt := 203) d_M_lives_197 (by decide) ?_
                  refine z_cV (c := 0) (as := [(0, (g14 1 ((246 + (6 * x2)) + 4)) + 1)]) (d' := 1) (st := []) d_M_lives_203 mi_M_behindEnds ml_M_417 mv_M_behindEnds se_M_behindEnds rfl rfl rfl rfl (ks_M_0 hx) rfl rfl (kl_M_0 hx) rfl rfl (z_Omono h (fun r16 g16 _ h hro => ?_))
                  show z_U X 6 m_M_lives 206 [(5, (0, 1)), (4, (0, r0)), (3, (0, 246 + (6 * x2))), (0, (2, 0)), (2, (0, x2))] [(0, r16)] N σ g16 Q
                  refine z_istore_n (i := 2) (ls' := [(2, (0, r16)), (5, (0, 1)), (4, (0, r0)), (3, (0, 246 + (6 * x2))), (0, (2, 0))]) d_M_lives_206 rfl rfl rfl ?_
                  refine z_goto (tgt := 32) d_M_lives_207 (by decide) ?_
                  refine z_sub (ls' := [(0, (2, 0)), (2, (0, r16))]) [4, 0] rfl ?_
                  exact h
        · have h := h.1 c8
          refine z_goto (tgt := 210) d_M_lives_102 (by decide) ?_
          exact z_vret d_M_lives_210 rfl (by decide) (by decide) ⟨rfl, rfl, h⟩
      · have h := h.1 c3
        refine z_aload_n (i := 0) (c := 0) 0 d_M_lives_62 rfl rfl rfl ?_
        refine z_getr (c := 0) (kI := 38) (r2 := 16) d_M_lives_63 fd_M_ran fl_M_68 rfl rfl rfl (ks_M_0 hx) (kl_M_0 hx) (kr_M_0_38 hx) ?_
        refine z_iconst (n := 4) d_M_lives_66 (by decide) ?_
        refine z_iconst (n := 1) d_M_lives_67 (by decide) ?_
        refine z_iast (c := 16) (m := 5) d_M_lives_68 rfl (ks_M_16 hx) (kl_M_16 hx) rfl (by decide) (by decide) ?_
        refine z_goto (tgt := 32) d_M_lives_69 (by decide) ?_
        refine z_sub (ls' := [(0, (2, 0)), (2, (0, x2))]) [0, 1] rfl ?_
        exact h
theorem d_M_inWords_0 : decode (z_c m_M_inWords) 0 = .ok (.aload_n 0, 1) := by decide +kernel
theorem d_M_inWords_1 : decode (z_c m_M_inWords) 1 = .ok (.getfield 132, 3) := by decide +kernel
theorem d_M_inWords_4 : decode (z_c m_M_inWords) 4 = .ok (.iconst 2, 1) := by decide +kernel
theorem d_M_inWords_5 : decode (z_c m_M_inWords) 5 = .ok (.if_icmp .eq 5, 3) := by decide +kernel
theorem d_M_inWords_8 : decode (z_c m_M_inWords) 8 = .ok (.iconst (-1), 1) := by decide +kernel
theorem d_M_inWords_9 : decode (z_c m_M_inWords) 9 = .ok (.ireturn, 1) := by decide +kernel
theorem d_M_inWords_10 : decode (z_c m_M_inWords) 10 = .ok (.iconst 0, 1) := by decide +kernel
theorem d_M_inWords_11 : decode (z_c m_M_inWords) 11 = .ok (.istore_n 2, 1) := by decide +kernel
theorem d_M_inWords_12 : decode (z_c m_M_inWords) 12 = .ok (.iconst 1, 1) := by decide +kernel
theorem d_M_inWords_13 : decode (z_c m_M_inWords) 13 = .ok (.istore_n 3, 1) := by decide +kernel
theorem d_M_inWords_14 : decode (z_c m_M_inWords) 14 = .ok (.iload_n 3, 1) := by decide +kernel
theorem d_M_inWords_15 : decode (z_c m_M_inWords) 15 = .ok (.aload_n 1, 1) := by decide +kernel
theorem d_M_inWords_16 : decode (z_c m_M_inWords) 16 = .ok (.invokevirtual 147, 3) := by decide +kernel
theorem d_M_inWords_19 : decode (z_c m_M_inWords) 19 = .ok (.if_icmp .ge 114, 3) := by decide +kernel
theorem d_M_inWords_22 : decode (z_c m_M_inWords) 22 = .ok (.iload_n 3, 1) := by decide +kernel
theorem d_M_inWords_23 : decode (z_c m_M_inWords) 23 = .ok (.istore 4, 2) := by decide +kernel
theorem d_M_inWords_25 : decode (z_c m_M_inWords) 25 = .ok (.aload_n 1, 1) := by decide +kernel
theorem d_M_inWords_26 : decode (z_c m_M_inWords) 26 = .ok (.iload 4, 2) := by decide +kernel
theorem d_M_inWords_28 : decode (z_c m_M_inWords) 28 = .ok (.invokevirtual 153, 3) := by decide +kernel
theorem d_M_inWords_31 : decode (z_c m_M_inWords) 31 = .ok (.bipush 32, 2) := by decide +kernel
theorem d_M_inWords_33 : decode (z_c m_M_inWords) 33 = .ok (.if_icmp .eq 9, 3) := by decide +kernel
theorem d_M_inWords_36 : decode (z_c m_M_inWords) 36 = .ok (.iinc 4 1, 3) := by decide +kernel
theorem d_M_inWords_39 : decode (z_c m_M_inWords) 39 = .ok (.goto (-14), 3) := by decide +kernel
theorem d_M_inWords_42 : decode (z_c m_M_inWords) 42 = .ok (.iload 4, 2) := by decide +kernel
theorem d_M_inWords_44 : decode (z_c m_M_inWords) 44 = .ok (.iload_n 3, 1) := by decide +kernel
theorem d_M_inWords_45 : decode (z_c m_M_inWords) 45 = .ok (.isub, 1) := by decide +kernel
theorem d_M_inWords_46 : decode (z_c m_M_inWords) 46 = .ok (.aload_n 0, 1) := by decide +kernel
theorem d_M_inWords_47 : decode (z_c m_M_inWords) 47 = .ok (.getfield 120, 3) := by decide +kernel
theorem d_M_inWords_50 : decode (z_c m_M_inWords) 50 = .ok (.aload_n 0, 1) := by decide +kernel
theorem d_M_inWords_51 : decode (z_c m_M_inWords) 51 = .ok (.getfield 126, 3) := by decide +kernel
theorem d_M_inWords_54 : decode (z_c m_M_inWords) 54 = .ok (.isub, 1) := by decide +kernel
theorem d_M_inWords_55 : decode (z_c m_M_inWords) 55 = .ok (.if_icmp .ne 7, 3) := by decide +kernel
theorem d_M_inWords_58 : decode (z_c m_M_inWords) 58 = .ok (.iconst 1, 1) := by decide +kernel
theorem d_M_inWords_59 : decode (z_c m_M_inWords) 59 = .ok (.goto 4, 3) := by decide +kernel
theorem d_M_inWords_62 : decode (z_c m_M_inWords) 62 = .ok (.iconst 0, 1) := by decide +kernel
theorem d_M_inWords_63 : decode (z_c m_M_inWords) 63 = .ok (.istore 5, 2) := by decide +kernel
theorem d_M_inWords_65 : decode (z_c m_M_inWords) 65 = .ok (.iload_n 3, 1) := by decide +kernel
theorem d_M_inWords_66 : decode (z_c m_M_inWords) 66 = .ok (.istore 6, 2) := by decide +kernel
theorem d_M_inWords_68 : decode (z_c m_M_inWords) 68 = .ok (.iload 6, 2) := by decide +kernel
theorem d_M_inWords_70 : decode (z_c m_M_inWords) 70 = .ok (.iload 4, 2) := by decide +kernel
theorem d_M_inWords_72 : decode (z_c m_M_inWords) 72 = .ok (.if_icmp .ge 43, 3) := by decide +kernel
theorem d_M_inWords_75 : decode (z_c m_M_inWords) 75 = .ok (.iload 5, 2) := by decide +kernel
theorem d_M_inWords_77 : decode (z_c m_M_inWords) 77 = .ok (.ifCond .eq 38, 3) := by decide +kernel
theorem d_M_inWords_80 : decode (z_c m_M_inWords) 80 = .ok (.aload_n 1, 1) := by decide +kernel
theorem d_M_inWords_81 : decode (z_c m_M_inWords) 81 = .ok (.iload 6, 2) := by decide +kernel
theorem d_M_inWords_83 : decode (z_c m_M_inWords) 83 = .ok (.invokevirtual 153, 3) := by decide +kernel
theorem d_M_inWords_86 : decode (z_c m_M_inWords) 86 = .ok (.aload_n 0, 1) := by decide +kernel
theorem d_M_inWords_87 : decode (z_c m_M_inWords) 87 = .ok (.aload_n 0, 1) := by decide +kernel
theorem d_M_inWords_88 : decode (z_c m_M_inWords) 88 = .ok (.getfield 126, 3) := by decide +kernel
theorem d_M_inWords_91 : decode (z_c m_M_inWords) 91 = .ok (.iload 6, 2) := by decide +kernel
theorem d_M_inWords_93 : decode (z_c m_M_inWords) 93 = .ok (.iadd, 1) := by decide +kernel
theorem d_M_inWords_94 : decode (z_c m_M_inWords) 94 = .ok (.iload_n 3, 1) := by decide +kernel
theorem d_M_inWords_95 : decode (z_c m_M_inWords) 95 = .ok (.isub, 1) := by decide +kernel
theorem d_M_inWords_96 : decode (z_c m_M_inWords) 96 = .ok (.invokevirtual 123, 3) := by decide +kernel
theorem d_M_inWords_99 : decode (z_c m_M_inWords) 99 = .ok (.if_icmp .ne 7, 3) := by decide +kernel
theorem d_M_inWords_102 : decode (z_c m_M_inWords) 102 = .ok (.iconst 1, 1) := by decide +kernel
theorem d_M_inWords_103 : decode (z_c m_M_inWords) 103 = .ok (.goto 4, 3) := by decide +kernel
theorem d_M_inWords_106 : decode (z_c m_M_inWords) 106 = .ok (.iconst 0, 1) := by decide +kernel
theorem d_M_inWords_107 : decode (z_c m_M_inWords) 107 = .ok (.istore 5, 2) := by decide +kernel
theorem d_M_inWords_109 : decode (z_c m_M_inWords) 109 = .ok (.iinc 6 1, 3) := by decide +kernel
theorem d_M_inWords_112 : decode (z_c m_M_inWords) 112 = .ok (.goto (-44), 3) := by decide +kernel
theorem d_M_inWords_115 : decode (z_c m_M_inWords) 115 = .ok (.iload 5, 2) := by decide +kernel
theorem d_M_inWords_117 : decode (z_c m_M_inWords) 117 = .ok (.ifCond .eq 5, 3) := by decide +kernel
theorem d_M_inWords_120 : decode (z_c m_M_inWords) 120 = .ok (.iload_n 2, 1) := by decide +kernel
theorem d_M_inWords_121 : decode (z_c m_M_inWords) 121 = .ok (.ireturn, 1) := by decide +kernel
theorem d_M_inWords_122 : decode (z_c m_M_inWords) 122 = .ok (.iinc 2 1, 3) := by decide +kernel
theorem d_M_inWords_125 : decode (z_c m_M_inWords) 125 = .ok (.iload 4, 2) := by decide +kernel
theorem d_M_inWords_127 : decode (z_c m_M_inWords) 127 = .ok (.iconst 1, 1) := by decide +kernel
theorem d_M_inWords_128 : decode (z_c m_M_inWords) 128 = .ok (.iadd, 1) := by decide +kernel
theorem d_M_inWords_129 : decode (z_c m_M_inWords) 129 = .ok (.istore_n 3, 1) := by decide +kernel
theorem d_M_inWords_130 : decode (z_c m_M_inWords) 130 = .ok (.goto (-116), 3) := by decide +kernel
theorem d_M_inWords_133 : decode (z_c m_M_inWords) 133 = .ok (.iconst (-1), 1) := by decide +kernel
theorem d_M_inWords_134 : decode (z_c m_M_inWords) 134 = .ok (.ireturn, 1) := by decide +kernel
abbrev L_M_inWords_14 (X : z_X) (N : Nat) (σ : z_G) (x1 x2 x3 : Int) (g : z_G) (Q : z_P) : Prop := z_U X 7 m_M_inWords 14 [(0, (2, 0)), (1, (4, x1)), (2, (0, x2)), (3, (0, x3))] [] N σ g Q
abbrev L_M_inWords_25 (X : z_X) (N : Nat) (σ : z_G) (x1 x2 x3 x4 : Int) (g : z_G) (Q : z_P) : Prop := z_U X 7 m_M_inWords 25 [(0, (2, 0)), (1, (4, x1)), (2, (0, x2)), (3, (0, x3)), (4, (0, x4))] [] N σ g Q
abbrev L_M_inWords_68 (X : z_X) (N : Nat) (σ : z_G) (x1 x2 x3 x4 x5 x6 : Int) (g : z_G) (Q : z_P) : Prop := z_U X 7 m_M_inWords 68 [(0, (2, 0)), (1, (4, x1)), (2, (0, x2)), (3, (0, x3)), (4, (0, x4)), (5, (0, x5)), (6, (0, x6))] [] N σ g Q
set_option maxRecDepth 8000 in
theorem b_M_inWords_0 {X : z_X} {N : Nat} {σ g : z_G} {Q : z_P} {a1 : Int} (hx : z_lay X N σ 0 z_SM z_RM) (h : (((g 0 11) = 2) → L_M_inWords_14 X N σ a1 0 1 g Q) ∧ (¬ ((g 0 11) = 2) → Q (-1) g)) : z_O X 7 m_M_inWords [(2, 0), (4, a1)] N σ g Q := by
  refine z_Oenter mi_M_inWords rfl (fun _ => ?_)
  show z_U X 7 m_M_inWords 0 [(0, (2, 0)), (1, (4, a1))] [] N σ g Q
  refine z_aload_n (i := 0) (c := 0) 0 d_M_inWords_0 rfl rfl rfl ?_
  refine z_geti (c := 0) (kI := 11) d_M_inWords_1 fd_M_token fl_M_132 (Or.inl rfl) rfl rfl (ks_M_0 hx) (kl_M_0 hx) ?_
  refine z_iconst (n := 2) d_M_inWords_4 (by decide) ?_
  refine z_icmp_eq (tgt := 10) d_M_inWords_5 (by decide) (fun c1 => ?_) (fun c1 => ?_)
  · have h := h.1 c1
    refine z_iconst (n := 0) d_M_inWords_10 (by decide) ?_
    refine z_istore_n (i := 2) (ls' := [(2, (0, 0)), (0, (2, 0)), (1, (4, a1))]) d_M_inWords_11 rfl rfl rfl ?_
    refine z_iconst (n := 1) d_M_inWords_12 (by decide) ?_
    refine z_istore_n (i := 3) (ls' := [(3, (0, 1)), (2, (0, 0)), (0, (2, 0)), (1, (4, a1))]) d_M_inWords_13 rfl rfl rfl ?_
    refine z_sub (ls' := [(0, (2, 0)), (1, (4, a1)), (2, (0, 0)), (3, (0, 1))]) [2, 3, 1, 0] rfl ?_
    exact h
  · have h := h.2 c1
    refine z_iconst (n := (-1)) d_M_inWords_8 (by decide) ?_
    exact z_iret d_M_inWords_9 rfl (by decide) (by decide) ⟨rfl, rfl, h⟩
set_option maxRecDepth 8000 in
theorem b_M_inWords_14 {X : z_X} {N : Nat} {σ g : z_G} {Q : z_P} {x1 x2 x3 : Int} (hx : z_lay X N σ 0 z_SM z_RM) (h : (0 ≤ x1 ∧ x1 < 21) ∧ (z_O X 3 m_St_length [(4, x1)] N σ g (fun r0 g0 => (((r0 ≤ x3) → Q (-1) g0) ∧ (¬ (r0 ≤ x3) → L_M_inWords_25 X N σ x1 x2 x3 x3 g0 Q))))) : L_M_inWords_14 X N σ x1 x2 x3 g Q := by
  refine z_iload_n (i := 3) 3 d_M_inWords_14 rfl rfl ?_
  refine z_sload_n (i := 1) 1 d_M_inWords_15 rfl rfl ?_
  obtain ⟨c1, h⟩ := h
  refine z_cVs (as := []) (d' := 3) (st := [(0, x3)]) d_M_inWords_16 mi_St_length ml_M_147 mv_St_length se_St_length rfl rfl rfl rfl rfl c1 rfl (z_Omono h (fun r0 g0 _ h hro => ?_))
  show z_U X 7 m_M_inWords 19 [(0, (2, 0)), (1, (4, x1)), (2, (0, x2)), (3, (0, x3))] [(0, r0), (0, x3)] N σ g0 Q
  refine z_icmp_ge (tgt := 133) d_M_inWords_19 (by decide) (fun c2 => ?_) (fun c2 => ?_)
  · have h := h.1 c2
    refine z_iconst (n := (-1)) d_M_inWords_133 (by decide) ?_
    exact z_iret d_M_inWords_134 rfl (by decide) (by decide) ⟨rfl, rfl, h⟩
  · have h := h.2 c2
    refine z_iload_n (i := 3) 3 d_M_inWords_22 rfl rfl ?_
    refine z_istore (ls' := [(4, (0, x3)), (0, (2, 0)), (1, (4, x1)), (2, (0, x2)), (3, (0, x3))]) d_M_inWords_23 rfl rfl ?_
    refine z_sub (ls' := [(0, (2, 0)), (1, (4, x1)), (2, (0, x2)), (3, (0, x3)), (4, (0, x3))]) [1, 2, 3, 4, 0] rfl ?_
    exact h
set_option maxRecDepth 8000 in
theorem b_M_inWords_25 {X : z_X} {N : Nat} {σ g : z_G} {Q : z_P} {x1 x2 x3 x4 : Int} (hx : z_lay X N σ 0 z_SM z_RM) (h : (0 ≤ x1 ∧ x1 < 21) ∧ (z_O X 6 m_St_charAt [(4, x1), (0, x4)] N σ g (fun r0 g0 => (((r0 = 32) → ((-2147483648 ≤ (x4 - x3) ∧ (x4 - x3) ≤ 2147483647) ∧ ((-2147483648 ≤ ((g0 0 13) - (g0 0 12)) ∧ ((g0 0 13) - (g0 0 12)) ≤ 2147483647) ∧ ((((x4 - x3) = ((g0 0 13) - (g0 0 12))) → L_M_inWords_68 X N σ x1 x2 x3 x4 1 x3 g0 Q) ∧ (¬ ((x4 - x3) = ((g0 0 13) - (g0 0 12))) → L_M_inWords_68 X N σ x1 x2 x3 x4 0 x3 g0 Q))))) ∧ (¬ (r0 = 32) → ((-2147483648 ≤ (x4 + 1) ∧ (x4 + 1) ≤ 2147483647) ∧ L_M_inWords_25 X N σ x1 x2 x3 (x4 + 1) g0 Q)))))) : L_M_inWords_25 X N σ x1 x2 x3 x4 g Q := by
  refine z_sload_n (i := 1) 1 d_M_inWords_25 rfl rfl ?_
  refine z_iload 4 d_M_inWords_26 rfl ?_
  obtain ⟨c1, h⟩ := h
  refine z_cVs (as := [(0, x4)]) (d' := 6) (st := []) d_M_inWords_28 mi_St_charAt ml_M_153 mv_St_charAt se_St_charAt rfl rfl rfl rfl rfl c1 rfl (z_Omono h (fun r0 g0 _ h hro => ?_))
  show z_U X 7 m_M_inWords 31 [(0, (2, 0)), (1, (4, x1)), (2, (0, x2)), (3, (0, x3)), (4, (0, x4))] [(0, r0)] N σ g0 Q
  refine z_bipush (n := 32) d_M_inWords_31 (by decide) (by decide) ?_
  refine z_icmp_eq (tgt := 42) d_M_inWords_33 (by decide) (fun c2 => ?_) (fun c2 => ?_)
  · have h := h.1 c2
    refine z_iload 4 d_M_inWords_42 rfl ?_
    refine z_iload_n (i := 3) 3 d_M_inWords_44 rfl rfl ?_
    obtain ⟨c3, h⟩ := h
    refine z_isub d_M_inWords_45 c3 ?_
    refine z_aload_n (i := 0) (c := 0) 0 d_M_inWords_46 rfl rfl rfl ?_
    refine z_geti (c := 0) (kI := 13) d_M_inWords_47 fd_M_end fl_M_120 (Or.inl rfl) rfl rfl (ks_M_0 hx) (kl_M_0 hx) ?_
    refine z_aload_n (i := 0) (c := 0) 0 d_M_inWords_50 rfl rfl rfl ?_
    refine z_geti (c := 0) (kI := 12) d_M_inWords_51 fd_M_from fl_M_126 (Or.inl rfl) rfl rfl (ks_M_0 hx) (kl_M_0 hx) ?_
    obtain ⟨c4, h⟩ := h
    refine z_isub d_M_inWords_54 c4 ?_
    refine z_icmp_ne (tgt := 62) d_M_inWords_55 (by decide) (fun c5 => ?_) (fun c5 => ?_)
    · have h := h.2 c5
      refine z_iconst (n := 0) d_M_inWords_62 (by decide) ?_
      refine z_istore (ls' := [(5, (0, 0)), (0, (2, 0)), (1, (4, x1)), (2, (0, x2)), (3, (0, x3)), (4, (0, x4))]) d_M_inWords_63 rfl rfl ?_
      refine z_iload_n (i := 3) 4 d_M_inWords_65 rfl rfl ?_
      refine z_istore (ls' := [(6, (0, x3)), (5, (0, 0)), (0, (2, 0)), (1, (4, x1)), (2, (0, x2)), (3, (0, x3)), (4, (0, x4))]) d_M_inWords_66 rfl rfl ?_
      refine z_sub (ls' := [(0, (2, 0)), (1, (4, x1)), (2, (0, x2)), (3, (0, x3)), (4, (0, x4)), (5, (0, 0)), (6, (0, x3))]) [2, 3, 4, 5, 6, 1, 0] rfl ?_
      exact h
    · have h := h.1 c5
      refine z_iconst (n := 1) d_M_inWords_58 (by decide) ?_
      refine z_goto (tgt := 63) d_M_inWords_59 (by decide) ?_
      refine z_istore (ls' := [(5, (0, 1)), (0, (2, 0)), (1, (4, x1)), (2, (0, x2)), (3, (0, x3)), (4, (0, x4))]) d_M_inWords_63 rfl rfl ?_
      refine z_iload_n (i := 3) 4 d_M_inWords_65 rfl rfl ?_
      refine z_istore (ls' := [(6, (0, x3)), (5, (0, 1)), (0, (2, 0)), (1, (4, x1)), (2, (0, x2)), (3, (0, x3)), (4, (0, x4))]) d_M_inWords_66 rfl rfl ?_
      refine z_sub (ls' := [(0, (2, 0)), (1, (4, x1)), (2, (0, x2)), (3, (0, x3)), (4, (0, x4)), (5, (0, 1)), (6, (0, x3))]) [2, 3, 4, 5, 6, 1, 0] rfl ?_
      exact h
  · have h := h.2 c2
    obtain ⟨c6, h⟩ := h
    refine z_iinc (n := 1) (ls' := [(4, (0, x4 + 1)), (0, (2, 0)), (1, (4, x1)), (2, (0, x2)), (3, (0, x3))]) 4 d_M_inWords_36 rfl c6 rfl rfl ?_
    refine z_goto (tgt := 25) d_M_inWords_39 (by decide) ?_
    refine z_sub (ls' := [(0, (2, 0)), (1, (4, x1)), (2, (0, x2)), (3, (0, x3)), (4, (0, x4 + 1))]) [1, 2, 3, 4, 0] rfl ?_
    exact h
set_option maxRecDepth 8000 in
theorem b_M_inWords_68 {X : z_X} {N : Nat} {σ g : z_G} {Q : z_P} {x1 x2 x3 x4 x5 x6 : Int} (hx : z_lay X N σ 0 z_SM z_RM) (h : ((x4 ≤ x6) → (((x5 = 0) → ((-2147483648 ≤ (x2 + 1) ∧ (x2 + 1) ≤ 2147483647) ∧ ((-2147483648 ≤ (x4 + 1) ∧ (x4 + 1) ≤ 2147483647) ∧ L_M_inWords_14 X N σ x1 (x2 + 1) (x4 + 1) g Q))) ∧ (¬ (x5 = 0) → Q x2 g))) ∧ (¬ (x4 ≤ x6) → (((x5 = 0) → ((-2147483648 ≤ (x2 + 1) ∧ (x2 + 1) ≤ 2147483647) ∧ ((-2147483648 ≤ (x4 + 1) ∧ (x4 + 1) ≤ 2147483647) ∧ L_M_inWords_14 X N σ x1 (x2 + 1) (x4 + 1) g Q))) ∧ (¬ (x5 = 0) → ((0 ≤ x1 ∧ x1 < 21) ∧ (z_O X 6 m_St_charAt [(4, x1), (0, x6)] N σ g (fun r0 g0 => ((-2147483648 ≤ ((g0 0 12) + x6) ∧ ((g0 0 12) + x6) ≤ 2147483647) ∧ ((-2147483648 ≤ (((g0 0 12) + x6) - x3) ∧ (((g0 0 12) + x6) - x3) ≤ 2147483647) ∧ ((((g0 0 10) ≤ (((g0 0 12) + x6) - x3)) → (((r0 = (-1)) → ((-2147483648 ≤ (x6 + 1) ∧ (x6 + 1) ≤ 2147483647) ∧ L_M_inWords_68 X N σ x1 x2 x3 x4 1 (x6 + 1) g0 Q)) ∧ (¬ (r0 = (-1)) → ((-2147483648 ≤ (x6 + 1) ∧ (x6 + 1) ≤ 2147483647) ∧ L_M_inWords_68 X N σ x1 x2 x3 x4 0 (x6 + 1) g0 Q)))) ∧ (¬ ((g0 0 10) ≤ (((g0 0 12) + x6) - x3)) → ((0 ≤ (((g0 0 12) + x6) - x3) ∧ (((g0 0 12) + x6) - x3) < 900) ∧ (((r0 = (Int32.toInt (Int32.ofInt (g0 6 (((g0 0 12) + x6) - x3)) &&& Int32.ofInt 255))) → ((-2147483648 ≤ (x6 + 1) ∧ (x6 + 1) ≤ 2147483647) ∧ L_M_inWords_68 X N σ x1 x2 x3 x4 1 (x6 + 1) g0 Q)) ∧ (¬ (r0 = (Int32.toInt (Int32.ofInt (g0 6 (((g0 0 12) + x6) - x3)) &&& Int32.ofInt 255))) → ((-2147483648 ≤ (x6 + 1) ∧ (x6 + 1) ≤ 2147483647) ∧ L_M_inWords_68 X N σ x1 x2 x3 x4 0 (x6 + 1) g0 Q))))))))))))))) : L_M_inWords_68 X N σ x1 x2 x3 x4 x5 x6 g Q := by
  refine z_iload 6 d_M_inWords_68 rfl ?_
  refine z_iload 4 d_M_inWords_70 rfl ?_
  refine z_icmp_ge (tgt := 115) d_M_inWords_72 (by decide) (fun c1 => ?_) (fun c1 => ?_)
  · have h := h.1 c1
    refine z_iload 5 d_M_inWords_115 rfl ?_
    refine z_if_eq (tgt := 122) d_M_inWords_117 (by decide) (fun c2 => ?_) (fun c2 => ?_)
    · have h := h.1 c2
      obtain ⟨c3, h⟩ := h
      refine z_iinc (n := 1) (ls' := [(2, (0, x2 + 1)), (0, (2, 0)), (1, (4, x1)), (3, (0, x3)), (4, (0, x4)), (5, (0, x5)), (6, (0, x6))]) 2 d_M_inWords_122 rfl c3 rfl rfl ?_
      refine z_iload 4 d_M_inWords_125 rfl ?_
      refine z_iconst (n := 1) d_M_inWords_127 (by decide) ?_
      obtain ⟨c4, h⟩ := h
      refine z_iadd d_M_inWords_128 c4 ?_
      refine z_istore_n (i := 3) (ls' := [(3, (0, x4 + 1)), (2, (0, x2 + 1)), (0, (2, 0)), (1, (4, x1)), (4, (0, x4)), (5, (0, x5)), (6, (0, x6))]) d_M_inWords_129 rfl rfl rfl ?_
      refine z_goto (tgt := 14) d_M_inWords_130 (by decide) ?_
      refine z_sub (ls' := [(0, (2, 0)), (1, (4, x1)), (2, (0, x2 + 1)), (3, (0, x4 + 1))]) [2, 3, 1, 0] rfl ?_
      exact h
    · have h := h.2 c2
      refine z_iload_n (i := 2) 2 d_M_inWords_120 rfl rfl ?_
      exact z_iret d_M_inWords_121 rfl (by decide) (by decide) ⟨rfl, rfl, h⟩
  · have h := h.2 c1
    refine z_iload 5 d_M_inWords_75 rfl ?_
    refine z_if_eq (tgt := 115) d_M_inWords_77 (by decide) (fun c5 => ?_) (fun c5 => ?_)
    · have h := h.1 c5
      refine z_iload 5 d_M_inWords_115 rfl ?_
      refine z_if_eq (tgt := 122) d_M_inWords_117 (by decide) (fun _ => ?_) (fun c => absurd c5 c)
      obtain ⟨c6, h⟩ := h
      refine z_iinc (n := 1) (ls' := [(2, (0, x2 + 1)), (0, (2, 0)), (1, (4, x1)), (3, (0, x3)), (4, (0, x4)), (5, (0, x5)), (6, (0, x6))]) 2 d_M_inWords_122 rfl c6 rfl rfl ?_
      refine z_iload 4 d_M_inWords_125 rfl ?_
      refine z_iconst (n := 1) d_M_inWords_127 (by decide) ?_
      obtain ⟨c7, h⟩ := h
      refine z_iadd d_M_inWords_128 c7 ?_
      refine z_istore_n (i := 3) (ls' := [(3, (0, x4 + 1)), (2, (0, x2 + 1)), (0, (2, 0)), (1, (4, x1)), (4, (0, x4)), (5, (0, x5)), (6, (0, x6))]) d_M_inWords_129 rfl rfl rfl ?_
      refine z_goto (tgt := 14) d_M_inWords_130 (by decide) ?_
      refine z_sub (ls' := [(0, (2, 0)), (1, (4, x1)), (2, (0, x2 + 1)), (3, (0, x4 + 1))]) [2, 3, 1, 0] rfl ?_
      exact h
    · have h := h.2 c5
      refine z_sload_n (i := 1) 1 d_M_inWords_80 rfl rfl ?_
      refine z_iload 6 d_M_inWords_81 rfl ?_
      obtain ⟨c8, h⟩ := h
      refine z_cVs (as := [(0, x6)]) (d' := 6) (st := []) d_M_inWords_83 mi_St_charAt ml_M_153 mv_St_charAt se_St_charAt rfl rfl rfl rfl rfl c8 rfl (z_Omono h (fun r0 g0 _ h hro => ?_))
      show z_U X 7 m_M_inWords 86 [(0, (2, 0)), (1, (4, x1)), (2, (0, x2)), (3, (0, x3)), (4, (0, x4)), (5, (0, x5)), (6, (0, x6))] [(0, r0)] N σ g0 Q
      refine z_aload_n (i := 0) (c := 0) 0 d_M_inWords_86 rfl rfl rfl ?_
      refine z_aload_n (i := 0) (c := 0) 0 d_M_inWords_87 rfl rfl rfl ?_
      refine z_geti (c := 0) (kI := 12) d_M_inWords_88 fd_M_from fl_M_126 (Or.inl rfl) rfl rfl (ks_M_0 hx) (kl_M_0 hx) ?_
      refine z_iload 6 d_M_inWords_91 rfl ?_
      obtain ⟨c9, h⟩ := h
      refine z_iadd d_M_inWords_93 c9 ?_
      refine z_iload_n (i := 3) 3 d_M_inWords_94 rfl rfl ?_
      obtain ⟨c10, h⟩ := h
      refine z_isub d_M_inWords_95 c10 ?_
      refine z_cV (c := 0) (as := [(0, ((g0 0 12) + x6) - x3)]) (d' := 1) (st := [(0, r0)]) d_M_inWords_96 mi_M_byteAt ml_M_123 mv_M_byteAt se_M_byteAt rfl rfl rfl rfl (ks_M_0 hx) rfl rfl (kl_M_0 hx) rfl rfl (b_M_byteAt_0 hx ?_)
      refine ⟨fun c11 => ?_, fun c11 => ?_⟩
      · have h := h.1 c11
        intro _
        show z_U X 7 m_M_inWords 99 [(0, (2, 0)), (1, (4, x1)), (2, (0, x2)), (3, (0, x3)), (4, (0, x4)), (5, (0, x5)), (6, (0, x6))] [(0, (-1)), (0, r0)] N σ g0 Q
        refine z_icmp_ne (tgt := 106) d_M_inWords_99 (by decide) (fun c12 => ?_) (fun c12 => ?_)
        · have h := h.2 c12
          refine z_iconst (n := 0) d_M_inWords_106 (by decide) ?_
          refine z_istore (ls' := [(5, (0, 0)), (0, (2, 0)), (1, (4, x1)), (2, (0, x2)), (3, (0, x3)), (4, (0, x4)), (6, (0, x6))]) d_M_inWords_107 rfl rfl ?_
          obtain ⟨c13, h⟩ := h
          refine z_iinc (n := 1) (ls' := [(6, (0, x6 + 1)), (5, (0, 0)), (0, (2, 0)), (1, (4, x1)), (2, (0, x2)), (3, (0, x3)), (4, (0, x4))]) 6 d_M_inWords_109 rfl c13 rfl rfl ?_
          refine z_goto (tgt := 68) d_M_inWords_112 (by decide) ?_
          refine z_sub (ls' := [(0, (2, 0)), (1, (4, x1)), (2, (0, x2)), (3, (0, x3)), (4, (0, x4)), (5, (0, 0)), (6, (0, x6 + 1))]) [2, 3, 4, 5, 6, 1, 0] rfl ?_
          exact h
        · have h := h.1 c12
          refine z_iconst (n := 1) d_M_inWords_102 (by decide) ?_
          refine z_goto (tgt := 107) d_M_inWords_103 (by decide) ?_
          refine z_istore (ls' := [(5, (0, 1)), (0, (2, 0)), (1, (4, x1)), (2, (0, x2)), (3, (0, x3)), (4, (0, x4)), (6, (0, x6))]) d_M_inWords_107 rfl rfl ?_
          obtain ⟨c14, h⟩ := h
          refine z_iinc (n := 1) (ls' := [(6, (0, x6 + 1)), (5, (0, 1)), (0, (2, 0)), (1, (4, x1)), (2, (0, x2)), (3, (0, x3)), (4, (0, x4))]) 6 d_M_inWords_109 rfl c14 rfl rfl ?_
          refine z_goto (tgt := 68) d_M_inWords_112 (by decide) ?_
          refine z_sub (ls' := [(0, (2, 0)), (1, (4, x1)), (2, (0, x2)), (3, (0, x3)), (4, (0, x4)), (5, (0, 1)), (6, (0, x6 + 1))]) [2, 3, 4, 5, 6, 1, 0] rfl ?_
          exact h
      · have h := h.2 c11
        obtain ⟨c15, h⟩ := h
        refine ⟨c15, ?_⟩
        intro _
        show z_U X 7 m_M_inWords 99 [(0, (2, 0)), (1, (4, x1)), (2, (0, x2)), (3, (0, x3)), (4, (0, x4)), (5, (0, x5)), (6, (0, x6))] [(0, Int32.toInt (Int32.ofInt (g0 6 (((g0 0 12) + x6) - x3)) &&& Int32.ofInt 255)), (0, r0)] N σ g0 Q
        refine z_icmp_ne (tgt := 106) d_M_inWords_99 (by decide) (fun c16 => ?_) (fun c16 => ?_)
        · have h := h.2 c16
          refine z_iconst (n := 0) d_M_inWords_106 (by decide) ?_
          refine z_istore (ls' := [(5, (0, 0)), (0, (2, 0)), (1, (4, x1)), (2, (0, x2)), (3, (0, x3)), (4, (0, x4)), (6, (0, x6))]) d_M_inWords_107 rfl rfl ?_
          obtain ⟨c17, h⟩ := h
          refine z_iinc (n := 1) (ls' := [(6, (0, x6 + 1)), (5, (0, 0)), (0, (2, 0)), (1, (4, x1)), (2, (0, x2)), (3, (0, x3)), (4, (0, x4))]) 6 d_M_inWords_109 rfl c17 rfl rfl ?_
          refine z_goto (tgt := 68) d_M_inWords_112 (by decide) ?_
          refine z_sub (ls' := [(0, (2, 0)), (1, (4, x1)), (2, (0, x2)), (3, (0, x3)), (4, (0, x4)), (5, (0, 0)), (6, (0, x6 + 1))]) [2, 3, 4, 5, 6, 1, 0] rfl ?_
          exact h
        · have h := h.1 c16
          refine z_iconst (n := 1) d_M_inWords_102 (by decide) ?_
          refine z_goto (tgt := 107) d_M_inWords_103 (by decide) ?_
          refine z_istore (ls' := [(5, (0, 1)), (0, (2, 0)), (1, (4, x1)), (2, (0, x2)), (3, (0, x3)), (4, (0, x4)), (6, (0, x6))]) d_M_inWords_107 rfl rfl ?_
          obtain ⟨c18, h⟩ := h
          refine z_iinc (n := 1) (ls' := [(6, (0, x6 + 1)), (5, (0, 1)), (0, (2, 0)), (1, (4, x1)), (2, (0, x2)), (3, (0, x3)), (4, (0, x4))]) 6 d_M_inWords_109 rfl c18 rfl rfl ?_
          refine z_goto (tgt := 68) d_M_inWords_112 (by decide) ?_
          refine z_sub (ls' := [(0, (2, 0)), (1, (4, x1)), (2, (0, x2)), (3, (0, x3)), (4, (0, x4)), (5, (0, 1)), (6, (0, x6 + 1))]) [2, 3, 4, 5, 6, 1, 0] rfl ?_
          exact h
theorem d_M_live_0 : decode (z_c m_M_live) 0 = .ok (.iload_n 1, 1) := by decide +kernel
theorem d_M_live_1 : decode (z_c m_M_live) 1 = .ok (.i2l, 1) := by decide +kernel
theorem d_M_live_2 : decode (z_c m_M_live) 2 = .ok (.lconst 0, 1) := by decide +kernel
theorem d_M_live_3 : decode (z_c m_M_live) 3 = .ok (.ldc2_w 323, 3) := by decide +kernel
theorem d_M_live_6 : decode (z_c m_M_live) 6 = .ok (.invokestatic 265, 3) := by decide +kernel
theorem d_M_live_9 : decode (z_c m_M_live) 9 = .ok (.ifCond .ne 9, 3) := by decide +kernel
theorem d_M_live_12 : decode (z_c m_M_live) 12 = .ok (.aload_n 0, 1) := by decide +kernel
theorem d_M_live_13 : decode (z_c m_M_live) 13 = .ok (.iconst 1, 1) := by decide +kernel
theorem d_M_live_14 : decode (z_c m_M_live) 14 = .ok (.invokevirtual 87, 3) := by decide +kernel
theorem d_M_live_17 : decode (z_c m_M_live) 17 = .ok (.ireturn, 1) := by decide +kernel
theorem d_M_live_18 : decode (z_c m_M_live) 18 = .ok (.aload_n 0, 1) := by decide +kernel
theorem d_M_live_19 : decode (z_c m_M_live) 19 = .ok (.getfield 7, 3) := by decide +kernel
theorem d_M_live_22 : decode (z_c m_M_live) 22 = .ok (.bipush 6, 2) := by decide +kernel
theorem d_M_live_24 : decode (z_c m_M_live) 24 = .ok (.iaload, 1) := by decide +kernel
theorem d_M_live_25 : decode (z_c m_M_live) 25 = .ok (.iconst (-1), 1) := by decide +kernel
theorem d_M_live_26 : decode (z_c m_M_live) 26 = .ok (.if_icmp .ne 10, 3) := by decide +kernel
theorem d_M_live_29 : decode (z_c m_M_live) 29 = .ok (.aload_n 0, 1) := by decide +kernel
theorem d_M_live_30 : decode (z_c m_M_live) 30 = .ok (.bipush 6, 2) := by decide +kernel
theorem d_M_live_32 : decode (z_c m_M_live) 32 = .ok (.invokevirtual 87, 3) := by decide +kernel
theorem d_M_live_35 : decode (z_c m_M_live) 35 = .ok (.ireturn, 1) := by decide +kernel
theorem d_M_live_36 : decode (z_c m_M_live) 36 = .ok (.aload_n 0, 1) := by decide +kernel
theorem d_M_live_37 : decode (z_c m_M_live) 37 = .ok (.iload_n 1, 1) := by decide +kernel
theorem d_M_live_38 : decode (z_c m_M_live) 38 = .ok (.invokevirtual 420, 3) := by decide +kernel
theorem d_M_live_41 : decode (z_c m_M_live) 41 = .ok (.iconst 0, 1) := by decide +kernel
theorem d_M_live_42 : decode (z_c m_M_live) 42 = .ok (.istore_n 2, 1) := by decide +kernel
theorem d_M_live_43 : decode (z_c m_M_live) 43 = .ok (.iload_n 2, 1) := by decide +kernel
theorem d_M_live_44 : decode (z_c m_M_live) 44 = .ok (.iconst 5, 1) := by decide +kernel
theorem d_M_live_45 : decode (z_c m_M_live) 45 = .ok (.if_icmp .ge 21, 3) := by decide +kernel
theorem d_M_live_48 : decode (z_c m_M_live) 48 = .ok (.aload_n 0, 1) := by decide +kernel
theorem d_M_live_49 : decode (z_c m_M_live) 49 = .ok (.getfield 71, 3) := by decide +kernel
theorem d_M_live_52 : decode (z_c m_M_live) 52 = .ok (.iload_n 2, 1) := by decide +kernel
theorem d_M_live_53 : decode (z_c m_M_live) 53 = .ok (.aload_n 0, 1) := by decide +kernel
theorem d_M_live_54 : decode (z_c m_M_live) 54 = .ok (.getfield 68, 3) := by decide +kernel
theorem d_M_live_57 : decode (z_c m_M_live) 57 = .ok (.iload_n 2, 1) := by decide +kernel
theorem d_M_live_58 : decode (z_c m_M_live) 58 = .ok (.iaload, 1) := by decide +kernel
theorem d_M_live_59 : decode (z_c m_M_live) 59 = .ok (.iastore, 1) := by decide +kernel
theorem d_M_live_60 : decode (z_c m_M_live) 60 = .ok (.iinc 2 1, 3) := by decide +kernel
theorem d_M_live_63 : decode (z_c m_M_live) 63 = .ok (.goto (-20), 3) := by decide +kernel
theorem d_M_live_66 : decode (z_c m_M_live) 66 = .ok (.aload_n 0, 1) := by decide +kernel
theorem d_M_live_67 : decode (z_c m_M_live) 67 = .ok (.iconst 1, 1) := by decide +kernel
theorem d_M_live_68 : decode (z_c m_M_live) 68 = .ok (.putfield 423, 3) := by decide +kernel
theorem d_M_live_71 : decode (z_c m_M_live) 71 = .ok (.aload_n 0, 1) := by decide +kernel
theorem d_M_live_72 : decode (z_c m_M_live) 72 = .ok (.aload_n 0, 1) := by decide +kernel
theorem d_M_live_73 : decode (z_c m_M_live) 73 = .ok (.getfield 408, 3) := by decide +kernel
theorem d_M_live_76 : decode (z_c m_M_live) 76 = .ok (.invokevirtual 91, 3) := by decide +kernel
theorem d_M_live_79 : decode (z_c m_M_live) 79 = .ok (.ireturn, 1) := by decide +kernel
abbrev L_M_live_43 (X : z_X) (N : Nat) (σ : z_G) (x2 : Int) (g : z_G) (Q : z_P) : Prop := z_U X 7 m_M_live 43 [(0, (2, 0)), (2, (0, x2))] [] N σ g Q
set_option maxRecDepth 8000 in
theorem b_M_live_0 {X : z_X} {N : Nat} {σ g : z_G} {Q : z_P} {a1 : Int} (hx : z_lay X N σ 0 z_SM z_RM) (h : ((a1 < 0) → Q (-1) (z_up g 0 1 1)) ∧ (¬ (a1 < 0) → (((9999 < a1) → Q (-1) (z_up g 0 1 1)) ∧ (¬ (9999 < a1) → ((((g 1 6) = (-1)) → Q (-1) (z_up g 0 1 6)) ∧ (¬ ((g 1 6) = (-1)) → (z_O X 6 m_M_lives [(2, 0), (0, a1)] N σ g (fun r0 g0 => L_M_live_43 X N σ 0 g0 Q)))))))) : z_O X 7 m_M_live [(2, 0), (0, a1)] N σ g Q := by
  refine z_Oenter mi_M_live rfl (fun _ => ?_)
  show z_U X 7 m_M_live 0 [(0, (2, 0)), (1, (0, a1))] [] N σ g Q
  refine z_iload_n (i := 1) 1 d_M_live_0 rfl rfl ?_
  refine z_i2l d_M_live_1 ?_
  refine z_lconst (v := 0) d_M_live_2 (by decide) (by decide) ?_
  refine z_ldc2 (v := 9999) d_M_live_3 kc_M_323 (by decide) ?_
  refine z_cS (as := [(1, a1), (1, 0), (1, 9999)]) (d' := 1) (st := []) d_M_live_6 mi_M_isFrom ml_M_265 ms_M_isFrom rfl rfl rfl rfl rfl (b_M_isFrom_0  ?_)
  refine ⟨fun c1 => ?_, fun c1 => ?_⟩
  · have h := h.1 c1
    intro _
    show z_U X 7 m_M_live 9 [(0, (2, 0)), (1, (0, a1))] [(0, 0)] N σ g Q
    refine z_if_ne (tgt := 18) d_M_live_9 (by decide) (fun c => absurd (by decide) c) (fun _ => ?_)
    refine z_aload_n (i := 0) (c := 0) 0 d_M_live_12 rfl rfl rfl ?_
    refine z_iconst (n := 1) d_M_live_13 (by decide) ?_
    refine z_cV (c := 0) (as := [(0, 1)]) (d' := 1) (st := []) d_M_live_14 mi_M_refuse ml_M_87 mv_M_refuse se_M_refuse rfl rfl rfl rfl (ks_M_0 hx) rfl rfl (kl_M_0 hx) rfl rfl (b_M_refuse_0 hx ?_)
    intro _
    show z_U X 7 m_M_live 17 [(0, (2, 0)), (1, (0, a1))] [(0, (-1))] N σ (z_up g 0 1 1) Q
    exact z_iret d_M_live_17 rfl (by decide) (by decide) ⟨rfl, rfl, h⟩
  · have h := h.2 c1
    refine ⟨fun c2 => ?_, fun c2 => ?_⟩
    · have h := h.1 c2
      intro _
      show z_U X 7 m_M_live 9 [(0, (2, 0)), (1, (0, a1))] [(0, 0)] N σ g Q
      refine z_if_ne (tgt := 18) d_M_live_9 (by decide) (fun c => absurd (by decide) c) (fun _ => ?_)
      refine z_aload_n (i := 0) (c := 0) 0 d_M_live_12 rfl rfl rfl ?_
      refine z_iconst (n := 1) d_M_live_13 (by decide) ?_
      refine z_cV (c := 0) (as := [(0, 1)]) (d' := 1) (st := []) d_M_live_14 mi_M_refuse ml_M_87 mv_M_refuse se_M_refuse rfl rfl rfl rfl (ks_M_0 hx) rfl rfl (kl_M_0 hx) rfl rfl (b_M_refuse_0 hx ?_)
      intro _
      show z_U X 7 m_M_live 17 [(0, (2, 0)), (1, (0, a1))] [(0, (-1))] N σ (z_up g 0 1 1) Q
      exact z_iret d_M_live_17 rfl (by decide) (by decide) ⟨rfl, rfl, h⟩
    · have h := h.2 c2
      intro _
      show z_U X 7 m_M_live 9 [(0, (2, 0)), (1, (0, a1))] [(0, 1)] N σ g Q
      refine z_if_ne (tgt := 18) d_M_live_9 (by decide) (fun _ => ?_) (fun c => absurd c (by decide))
      refine z_aload_n (i := 0) (c := 0) 0 d_M_live_18 rfl rfl rfl ?_
      refine z_getr (c := 0) (kI := 0) (r2 := 1) d_M_live_19 fd_M_at fl_M_7 rfl rfl rfl (ks_M_0 hx) (kl_M_0 hx) (kr_M_0_0 hx) ?_
      refine z_bipush (n := 6) d_M_live_22 (by decide) (by decide) ?_
      refine z_iald (c := 1) (m := 3296) d_M_live_24 rfl (ks_M_1 hx) (kl_M_1 hx) rfl (by decide) (by decide) ?_
      refine z_iconst (n := (-1)) d_M_live_25 (by decide) ?_
      refine z_icmp_ne (tgt := 36) d_M_live_26 (by decide) (fun c3 => ?_) (fun c3 => ?_)
      · have h := h.2 c3
        refine z_aload_n (i := 0) (c := 0) 0 d_M_live_36 rfl rfl rfl ?_
        refine z_iload_n (i := 1) 1 d_M_live_37 rfl rfl ?_
        refine z_cV (c := 0) (as := [(0, a1)]) (d' := 6) (st := []) d_M_live_38 mi_M_lives ml_M_420 mv_M_lives se_M_lives rfl rfl rfl rfl (ks_M_0 hx) rfl rfl (kl_M_0 hx) rfl rfl (z_Omono h (fun r0 g0 _ h hro => ?_))
        show z_U X 7 m_M_live 41 [(0, (2, 0)), (1, (0, a1))] [] N σ g0 Q
        refine z_iconst (n := 0) d_M_live_41 (by decide) ?_
        refine z_istore_n (i := 2) (ls' := [(2, (0, 0)), (0, (2, 0)), (1, (0, a1))]) d_M_live_42 rfl rfl rfl ?_
        refine z_sub (ls' := [(0, (2, 0)), (2, (0, 0))]) [1, 0] rfl ?_
        exact h
      · have h := h.1 c3
        refine z_aload_n (i := 0) (c := 0) 0 d_M_live_29 rfl rfl rfl ?_
        refine z_bipush (n := 6) d_M_live_30 (by decide) (by decide) ?_
        refine z_cV (c := 0) (as := [(0, 6)]) (d' := 1) (st := []) d_M_live_32 mi_M_refuse ml_M_87 mv_M_refuse se_M_refuse rfl rfl rfl rfl (ks_M_0 hx) rfl rfl (kl_M_0 hx) rfl rfl (b_M_refuse_0 hx ?_)
        intro _
        show z_U X 7 m_M_live 35 [(0, (2, 0)), (1, (0, a1))] [(0, (-1))] N σ (z_up g 0 1 6) Q
        exact z_iret d_M_live_35 rfl (by decide) (by decide) ⟨rfl, rfl, h⟩
set_option maxRecDepth 8000 in
theorem b_M_live_43 {X : z_X} {N : Nat} {σ g : z_G} {Q : z_P} {x2 : Int} (hx : z_lay X N σ 0 z_SM z_RM) (h : ((5 ≤ x2) → Q (g 0 36) (z_up (z_up g 0 40 1) 0 1 0)) ∧ (¬ (5 ≤ x2) → ((0 ≤ x2 ∧ x2 < 5) ∧ ((-2147483648 ≤ (x2 + 1) ∧ (x2 + 1) ≤ 2147483647) ∧ L_M_live_43 X N σ (x2 + 1) (z_up g 17 x2 (g 16 x2)) Q)))) : L_M_live_43 X N σ x2 g Q := by
  refine z_iload_n (i := 2) 1 d_M_live_43 rfl rfl ?_
  refine z_iconst (n := 5) d_M_live_44 (by decide) ?_
  refine z_icmp_ge (tgt := 66) d_M_live_45 (by decide) (fun c1 => ?_) (fun c1 => ?_)
  · have h := h.1 c1
    refine z_aload_n (i := 0) (c := 0) 0 d_M_live_66 rfl rfl rfl ?_
    refine z_iconst (n := 1) d_M_live_67 (by decide) ?_
    refine z_putz (c := 0) (kI := 40) d_M_live_68 fd_M_isTold fl_M_423 pf_M_isTold rfl rfl rfl rfl (ks_M_0 hx) (kl_M_0 hx) (by decide) ?_
    refine z_aload_n (i := 0) (c := 0) 0 d_M_live_71 rfl rfl rfl ?_
    refine z_aload_n (i := 0) (c := 0) 0 d_M_live_72 rfl rfl rfl ?_
    refine z_geti (c := 0) (kI := 36) d_M_live_73 fd_M_ranSteps fl_M_408 (Or.inl rfl) rfl rfl (ks_M_0 hx) (kl_M_0 hx) ?_
    refine z_ti (b := g 0 36) (by simp [z_up]) ?_
    refine z_cV (c := 0) (as := [(0, g 0 36)]) (d' := 1) (st := []) d_M_live_76 mi_M_gives ml_M_91 mv_M_gives se_M_gives rfl rfl rfl rfl (ks_M_0 hx) rfl rfl (kl_M_0 hx) rfl rfl (b_M_gives_0 hx ?_)
    intro _
    show z_U X 7 m_M_live 79 [(0, (2, 0)), (2, (0, x2))] [(0, g 0 36)] N σ (z_up (z_up g 0 40 1) 0 1 0) Q
    exact z_iret d_M_live_79 rfl (by decide) (by decide) ⟨rfl, rfl, h⟩
  · have h := h.2 c1
    refine z_aload_n (i := 0) (c := 0) 0 d_M_live_48 rfl rfl rfl ?_
    refine z_getr (c := 0) (kI := 39) (r2 := 17) d_M_live_49 fd_M_told1 fl_M_71 rfl rfl rfl (ks_M_0 hx) (kl_M_0 hx) (kr_M_0_39 hx) ?_
    refine z_iload_n (i := 2) 1 d_M_live_52 rfl rfl ?_
    refine z_aload_n (i := 0) (c := 0) 0 d_M_live_53 rfl rfl rfl ?_
    refine z_getr (c := 0) (kI := 38) (r2 := 16) d_M_live_54 fd_M_ran fl_M_68 rfl rfl rfl (ks_M_0 hx) (kl_M_0 hx) (kr_M_0_38 hx) ?_
    refine z_iload_n (i := 2) 1 d_M_live_57 rfl rfl ?_
    obtain ⟨c2, h⟩ := h
    refine z_iald (c := 16) (m := 5) d_M_live_58 rfl (ks_M_16 hx) (kl_M_16 hx) rfl (by decide) c2 ?_
    refine z_iast (c := 17) (m := 5) d_M_live_59 rfl (ks_M_17 hx) (kl_M_17 hx) rfl (by decide) c2 ?_
    obtain ⟨c3, h⟩ := h
    refine z_iinc (n := 1) (ls' := [(2, (0, x2 + 1)), (0, (2, 0))]) 1 d_M_live_60 rfl c3 rfl rfl ?_
    refine z_goto (tgt := 43) d_M_live_63 (by decide) ?_
    refine z_sub (ls' := [(0, (2, 0)), (2, (0, x2 + 1))]) [1, 0] rfl ?_
    exact h
theorem d_M_mean_0 : decode (z_c m_M_mean) 0 = .ok (.iload_n 1, 1) := by decide +kernel
theorem d_M_mean_1 : decode (z_c m_M_mean) 1 = .ok (.i2l, 1) := by decide +kernel
theorem d_M_mean_2 : decode (z_c m_M_mean) 2 = .ok (.lconst 0, 1) := by decide +kernel
theorem d_M_mean_3 : decode (z_c m_M_mean) 3 = .ok (.ldc2_w 323, 3) := by decide +kernel
theorem d_M_mean_6 : decode (z_c m_M_mean) 6 = .ok (.invokestatic 265, 3) := by decide +kernel
theorem d_M_mean_9 : decode (z_c m_M_mean) 9 = .ok (.ifCond .eq 26, 3) := by decide +kernel
theorem d_M_mean_12 : decode (z_c m_M_mean) 12 = .ok (.iload_n 2, 1) := by decide +kernel
theorem d_M_mean_13 : decode (z_c m_M_mean) 13 = .ok (.i2l, 1) := by decide +kernel
theorem d_M_mean_14 : decode (z_c m_M_mean) 14 = .ok (.lconst 1, 1) := by decide +kernel
theorem d_M_mean_15 : decode (z_c m_M_mean) 15 = .ok (.ldc2_w 309, 3) := by decide +kernel
theorem d_M_mean_18 : decode (z_c m_M_mean) 18 = .ok (.invokestatic 265, 3) := by decide +kernel
theorem d_M_mean_21 : decode (z_c m_M_mean) 21 = .ok (.ifCond .eq 14, 3) := by decide +kernel
theorem d_M_mean_24 : decode (z_c m_M_mean) 24 = .ok (.iload_n 1, 1) := by decide +kernel
theorem d_M_mean_25 : decode (z_c m_M_mean) 25 = .ok (.iload_n 2, 1) := by decide +kernel
theorem d_M_mean_26 : decode (z_c m_M_mean) 26 = .ok (.iadd, 1) := by decide +kernel
theorem d_M_mean_27 : decode (z_c m_M_mean) 27 = .ok (.iconst 1, 1) := by decide +kernel
theorem d_M_mean_28 : decode (z_c m_M_mean) 28 = .ok (.isub, 1) := by decide +kernel
theorem d_M_mean_29 : decode (z_c m_M_mean) 29 = .ok (.sipush 9999, 3) := by decide +kernel
theorem d_M_mean_32 : decode (z_c m_M_mean) 32 = .ok (.if_icmp .le 9, 3) := by decide +kernel
theorem d_M_mean_35 : decode (z_c m_M_mean) 35 = .ok (.aload_n 0, 1) := by decide +kernel
theorem d_M_mean_36 : decode (z_c m_M_mean) 36 = .ok (.iconst 1, 1) := by decide +kernel
theorem d_M_mean_37 : decode (z_c m_M_mean) 37 = .ok (.invokevirtual 94, 3) := by decide +kernel
theorem d_M_mean_40 : decode (z_c m_M_mean) 40 = .ok (.ireturn, 1) := by decide +kernel
theorem d_M_mean_41 : decode (z_c m_M_mean) 41 = .ok (.aload_n 0, 1) := by decide +kernel
theorem d_M_mean_42 : decode (z_c m_M_mean) 42 = .ok (.getfield 7, 3) := by decide +kernel
theorem d_M_mean_45 : decode (z_c m_M_mean) 45 = .ok (.bipush 6, 2) := by decide +kernel
theorem d_M_mean_47 : decode (z_c m_M_mean) 47 = .ok (.iaload, 1) := by decide +kernel
theorem d_M_mean_48 : decode (z_c m_M_mean) 48 = .ok (.iconst (-1), 1) := by decide +kernel
theorem d_M_mean_49 : decode (z_c m_M_mean) 49 = .ok (.if_icmp .ne 10, 3) := by decide +kernel
theorem d_M_mean_52 : decode (z_c m_M_mean) 52 = .ok (.aload_n 0, 1) := by decide +kernel
theorem d_M_mean_53 : decode (z_c m_M_mean) 53 = .ok (.bipush 6, 2) := by decide +kernel
theorem d_M_mean_55 : decode (z_c m_M_mean) 55 = .ok (.invokevirtual 94, 3) := by decide +kernel
theorem d_M_mean_58 : decode (z_c m_M_mean) 58 = .ok (.ireturn, 1) := by decide +kernel
theorem d_M_mean_59 : decode (z_c m_M_mean) 59 = .ok (.iconst 0, 1) := by decide +kernel
theorem d_M_mean_60 : decode (z_c m_M_mean) 60 = .ok (.istore_n 3, 1) := by decide +kernel
theorem d_M_mean_61 : decode (z_c m_M_mean) 61 = .ok (.iload_n 3, 1) := by decide +kernel
theorem d_M_mean_62 : decode (z_c m_M_mean) 62 = .ok (.sipush 246, 3) := by decide +kernel
theorem d_M_mean_65 : decode (z_c m_M_mean) 65 = .ok (.if_icmp .ge 25, 3) := by decide +kernel
theorem d_M_mean_68 : decode (z_c m_M_mean) 68 = .ok (.aload_n 0, 1) := by decide +kernel
theorem d_M_mean_69 : decode (z_c m_M_mean) 69 = .ok (.getfield 7, 3) := by decide +kernel
theorem d_M_mean_72 : decode (z_c m_M_mean) 72 = .ok (.sipush 3050, 3) := by decide +kernel
theorem d_M_mean_75 : decode (z_c m_M_mean) 75 = .ok (.iload_n 3, 1) := by decide +kernel
theorem d_M_mean_76 : decode (z_c m_M_mean) 76 = .ok (.iadd, 1) := by decide +kernel
theorem d_M_mean_77 : decode (z_c m_M_mean) 77 = .ok (.aload_n 0, 1) := by decide +kernel
theorem d_M_mean_78 : decode (z_c m_M_mean) 78 = .ok (.getfield 7, 3) := by decide +kernel
theorem d_M_mean_81 : decode (z_c m_M_mean) 81 = .ok (.iload_n 3, 1) := by decide +kernel
theorem d_M_mean_82 : decode (z_c m_M_mean) 82 = .ok (.iaload, 1) := by decide +kernel
theorem d_M_mean_83 : decode (z_c m_M_mean) 83 = .ok (.iastore, 1) := by decide +kernel
theorem d_M_mean_84 : decode (z_c m_M_mean) 84 = .ok (.iinc 3 1, 3) := by decide +kernel
theorem d_M_mean_87 : decode (z_c m_M_mean) 87 = .ok (.goto (-26), 3) := by decide +kernel
theorem d_M_mean_90 : decode (z_c m_M_mean) 90 = .ok (.lconst 0, 1) := by decide +kernel
theorem d_M_mean_91 : decode (z_c m_M_mean) 91 = .ok (.lstore_n 3, 1) := by decide +kernel
theorem d_M_mean_92 : decode (z_c m_M_mean) 92 = .ok (.iconst 0, 1) := by decide +kernel
theorem d_M_mean_93 : decode (z_c m_M_mean) 93 = .ok (.istore 5, 2) := by decide +kernel
theorem d_M_mean_95 : decode (z_c m_M_mean) 95 = .ok (.iload 5, 2) := by decide +kernel
theorem d_M_mean_97 : decode (z_c m_M_mean) 97 = .ok (.iload_n 2, 1) := by decide +kernel
theorem d_M_mean_98 : decode (z_c m_M_mean) 98 = .ok (.if_icmp .ge 60, 3) := by decide +kernel
theorem d_M_mean_101 : decode (z_c m_M_mean) 101 = .ok (.aload_n 0, 1) := by decide +kernel
theorem d_M_mean_102 : decode (z_c m_M_mean) 102 = .ok (.iload_n 1, 1) := by decide +kernel
theorem d_M_mean_103 : decode (z_c m_M_mean) 103 = .ok (.iload 5, 2) := by decide +kernel
theorem d_M_mean_105 : decode (z_c m_M_mean) 105 = .ok (.iadd, 1) := by decide +kernel
theorem d_M_mean_106 : decode (z_c m_M_mean) 106 = .ok (.invokevirtual 420, 3) := by decide +kernel
theorem d_M_mean_109 : decode (z_c m_M_mean) 109 = .ok (.lload_n 3, 1) := by decide +kernel
theorem d_M_mean_110 : decode (z_c m_M_mean) 110 = .ok (.aload_n 0, 1) := by decide +kernel
theorem d_M_mean_111 : decode (z_c m_M_mean) 111 = .ok (.invokevirtual 335, 3) := by decide +kernel
theorem d_M_mean_114 : decode (z_c m_M_mean) 114 = .ok (.i2l, 1) := by decide +kernel
theorem d_M_mean_115 : decode (z_c m_M_mean) 115 = .ok (.ladd, 1) := by decide +kernel
theorem d_M_mean_116 : decode (z_c m_M_mean) 116 = .ok (.lstore_n 3, 1) := by decide +kernel
theorem d_M_mean_117 : decode (z_c m_M_mean) 117 = .ok (.iconst 0, 1) := by decide +kernel
theorem d_M_mean_118 : decode (z_c m_M_mean) 118 = .ok (.istore 6, 2) := by decide +kernel
theorem d_M_mean_120 : decode (z_c m_M_mean) 120 = .ok (.iload 6, 2) := by decide +kernel
theorem d_M_mean_122 : decode (z_c m_M_mean) 122 = .ok (.sipush 246, 3) := by decide +kernel
theorem d_M_mean_125 : decode (z_c m_M_mean) 125 = .ok (.if_icmp .ge 27, 3) := by decide +kernel
theorem d_M_mean_128 : decode (z_c m_M_mean) 128 = .ok (.aload_n 0, 1) := by decide +kernel
theorem d_M_mean_129 : decode (z_c m_M_mean) 129 = .ok (.getfield 7, 3) := by decide +kernel
theorem d_M_mean_132 : decode (z_c m_M_mean) 132 = .ok (.iload 6, 2) := by decide +kernel
theorem d_M_mean_134 : decode (z_c m_M_mean) 134 = .ok (.aload_n 0, 1) := by decide +kernel
theorem d_M_mean_135 : decode (z_c m_M_mean) 135 = .ok (.getfield 7, 3) := by decide +kernel
theorem d_M_mean_138 : decode (z_c m_M_mean) 138 = .ok (.sipush 3050, 3) := by decide +kernel
theorem d_M_mean_141 : decode (z_c m_M_mean) 141 = .ok (.iload 6, 2) := by decide +kernel
theorem d_M_mean_143 : decode (z_c m_M_mean) 143 = .ok (.iadd, 1) := by decide +kernel
theorem d_M_mean_144 : decode (z_c m_M_mean) 144 = .ok (.iaload, 1) := by decide +kernel
theorem d_M_mean_145 : decode (z_c m_M_mean) 145 = .ok (.iastore, 1) := by decide +kernel
theorem d_M_mean_146 : decode (z_c m_M_mean) 146 = .ok (.iinc 6 1, 3) := by decide +kernel
theorem d_M_mean_149 : decode (z_c m_M_mean) 149 = .ok (.goto (-29), 3) := by decide +kernel
theorem d_M_mean_152 : decode (z_c m_M_mean) 152 = .ok (.iinc 5 1, 3) := by decide +kernel
theorem d_M_mean_155 : decode (z_c m_M_mean) 155 = .ok (.goto (-60), 3) := by decide +kernel
theorem d_M_mean_158 : decode (z_c m_M_mean) 158 = .ok (.aload_n 0, 1) := by decide +kernel
theorem d_M_mean_159 : decode (z_c m_M_mean) 159 = .ok (.lload_n 3, 1) := by decide +kernel
theorem d_M_mean_160 : decode (z_c m_M_mean) 160 = .ok (.iload_n 2, 1) := by decide +kernel
theorem d_M_mean_161 : decode (z_c m_M_mean) 161 = .ok (.i2l, 1) := by decide +kernel
theorem d_M_mean_162 : decode (z_c m_M_mean) 162 = .ok (.invokevirtual 253, 3) := by decide +kernel
theorem d_M_mean_165 : decode (z_c m_M_mean) 165 = .ok (.ireturn, 1) := by decide +kernel
abbrev L_M_mean_61 (X : z_X) (N : Nat) (σ : z_G) (x1 x2 x3 : Int) (g : z_G) (Q : z_P) : Prop := z_U X 7 m_M_mean 61 [(0, (2, 0)), (1, (0, x1)), (2, (0, x2)), (3, (0, x3))] [] N σ g Q
abbrev L_M_mean_95 (X : z_X) (N : Nat) (σ : z_G) (x1 x2 x3 x5 : Int) (g : z_G) (Q : z_P) : Prop := z_U X 7 m_M_mean 95 [(0, (2, 0)), (1, (0, x1)), (2, (0, x2)), (3, (1, x3)), (5, (0, x5))] [] N σ g Q
abbrev L_M_mean_120 (X : z_X) (N : Nat) (σ : z_G) (x1 x2 x3 x5 x6 : Int) (g : z_G) (Q : z_P) : Prop := z_U X 7 m_M_mean 120 [(0, (2, 0)), (1, (0, x1)), (2, (0, x2)), (3, (1, x3)), (5, (0, x5)), (6, (0, x6))] [] N σ g Q
set_option maxRecDepth 8000 in
theorem b_M_mean_0 {X : z_X} {N : Nat} {σ g : z_G} {Q : z_P} {a1 a2 : Int} (hx : z_lay X N σ 0 z_SM z_RM) (h : ((a1 < 0) → Q 0 (z_up g 0 1 1)) ∧ (¬ (a1 < 0) → (((9999 < a1) → Q 0 (z_up g 0 1 1)) ∧ (¬ (9999 < a1) → (((a2 < 1) → Q 0 (z_up g 0 1 1)) ∧ (¬ (a2 < 1) → (((20 < a2) → Q 0 (z_up g 0 1 1)) ∧ (¬ (20 < a2) → ((-2147483648 ≤ (a1 + a2) ∧ (a1 + a2) ≤ 2147483647) ∧ ((-2147483648 ≤ ((a1 + a2) - 1) ∧ ((a1 + a2) - 1) ≤ 2147483647) ∧ (((((a1 + a2) - 1) ≤ 9999) → ((((g 1 6) = (-1)) → Q 0 (z_up g 0 1 6)) ∧ (¬ ((g 1 6) = (-1)) → L_M_mean_61 X N σ a1 a2 0 g Q))) ∧ (¬ (((a1 + a2) - 1) ≤ 9999) → Q 0 (z_up g 0 1 1))))))))))))) : z_O X 7 m_M_mean [(2, 0), (0, a1), (0, a2)] N σ g Q := by
  refine z_Oenter mi_M_mean rfl (fun _ => ?_)
  show z_U X 7 m_M_mean 0 [(0, (2, 0)), (1, (0, a1)), (2, (0, a2))] [] N σ g Q
  refine z_iload_n (i := 1) 1 d_M_mean_0 rfl rfl ?_
  refine z_i2l d_M_mean_1 ?_
  refine z_lconst (v := 0) d_M_mean_2 (by decide) (by decide) ?_
  refine z_ldc2 (v := 9999) d_M_mean_3 kc_M_323 (by decide) ?_
  refine z_cS (as := [(1, a1), (1, 0), (1, 9999)]) (d' := 1) (st := []) d_M_mean_6 mi_M_isFrom ml_M_265 ms_M_isFrom rfl rfl rfl rfl rfl (b_M_isFrom_0  ?_)
  refine ⟨fun c1 => ?_, fun c1 => ?_⟩
  · have h := h.1 c1
    intro _
    show z_U X 7 m_M_mean 9 [(0, (2, 0)), (1, (0, a1)), (2, (0, a2))] [(0, 0)] N σ g Q
    refine z_if_eq (tgt := 35) d_M_mean_9 (by decide) (fun _ => ?_) (fun c => absurd (by decide) c)
    refine z_aload_n (i := 0) (c := 0) 0 d_M_mean_35 rfl rfl rfl ?_
    refine z_iconst (n := 1) d_M_mean_36 (by decide) ?_
    refine z_cV (c := 0) (as := [(0, 1)]) (d' := 1) (st := []) d_M_mean_37 mi_M_is ml_M_94 mv_M_is se_M_is rfl rfl rfl rfl (ks_M_0 hx) rfl rfl (kl_M_0 hx) rfl rfl (b_M_is_0 hx ?_)
    refine ⟨fun c => absurd c (by decide), fun _ => ?_⟩
    intro _
    show z_U X 7 m_M_mean 40 [(0, (2, 0)), (1, (0, a1)), (2, (0, a2))] [(0, 0)] N σ (z_up g 0 1 1) Q
    exact z_zret d_M_mean_40 rfl (by decide) (by decide) (by decide) ⟨rfl, rfl, h⟩
  · have h := h.2 c1
    refine ⟨fun c2 => ?_, fun c2 => ?_⟩
    · have h := h.1 c2
      intro _
      show z_U X 7 m_M_mean 9 [(0, (2, 0)), (1, (0, a1)), (2, (0, a2))] [(0, 0)] N σ g Q
      refine z_if_eq (tgt := 35) d_M_mean_9 (by decide) (fun _ => ?_) (fun c => absurd (by decide) c)
      refine z_aload_n (i := 0) (c := 0) 0 d_M_mean_35 rfl rfl rfl ?_
      refine z_iconst (n := 1) d_M_mean_36 (by decide) ?_
      refine z_cV (c := 0) (as := [(0, 1)]) (d' := 1) (st := []) d_M_mean_37 mi_M_is ml_M_94 mv_M_is se_M_is rfl rfl rfl rfl (ks_M_0 hx) rfl rfl (kl_M_0 hx) rfl rfl (b_M_is_0 hx ?_)
      refine ⟨fun c => absurd c (by decide), fun _ => ?_⟩
      intro _
      show z_U X 7 m_M_mean 40 [(0, (2, 0)), (1, (0, a1)), (2, (0, a2))] [(0, 0)] N σ (z_up g 0 1 1) Q
      exact z_zret d_M_mean_40 rfl (by decide) (by decide) (by decide) ⟨rfl, rfl, h⟩
    · have h := h.2 c2
      intro _
      show z_U X 7 m_M_mean 9 [(0, (2, 0)), (1, (0, a1)), (2, (0, a2))] [(0, 1)] N σ g Q
      refine z_if_eq (tgt := 35) d_M_mean_9 (by decide) (fun c => absurd c (by decide)) (fun _ => ?_)
      refine z_iload_n (i := 2) 2 d_M_mean_12 rfl rfl ?_
      refine z_i2l d_M_mean_13 ?_
      refine z_lconst (v := 1) d_M_mean_14 (by decide) (by decide) ?_
      refine z_ldc2 (v := 20) d_M_mean_15 kc_M_309 (by decide) ?_
      refine z_cS (as := [(1, a2), (1, 1), (1, 20)]) (d' := 1) (st := []) d_M_mean_18 mi_M_isFrom ml_M_265 ms_M_isFrom rfl rfl rfl rfl rfl (b_M_isFrom_0  ?_)
      refine ⟨fun c3 => ?_, fun c3 => ?_⟩
      · have h := h.1 c3
        intro _
        show z_U X 7 m_M_mean 21 [(0, (2, 0)), (1, (0, a1)), (2, (0, a2))] [(0, 0)] N σ g Q
        refine z_if_eq (tgt := 35) d_M_mean_21 (by decide) (fun _ => ?_) (fun c => absurd (by decide) c)
        refine z_aload_n (i := 0) (c := 0) 0 d_M_mean_35 rfl rfl rfl ?_
        refine z_iconst (n := 1) d_M_mean_36 (by decide) ?_
        refine z_cV (c := 0) (as := [(0, 1)]) (d' := 1) (st := []) d_M_mean_37 mi_M_is ml_M_94 mv_M_is se_M_is rfl rfl rfl rfl (ks_M_0 hx) rfl rfl (kl_M_0 hx) rfl rfl (b_M_is_0 hx ?_)
        refine ⟨fun c => absurd c (by decide), fun _ => ?_⟩
        intro _
        show z_U X 7 m_M_mean 40 [(0, (2, 0)), (1, (0, a1)), (2, (0, a2))] [(0, 0)] N σ (z_up g 0 1 1) Q
        exact z_zret d_M_mean_40 rfl (by decide) (by decide) (by decide) ⟨rfl, rfl, h⟩
      · have h := h.2 c3
        refine ⟨fun c4 => ?_, fun c4 => ?_⟩
        · have h := h.1 c4
          intro _
          show z_U X 7 m_M_mean 21 [(0, (2, 0)), (1, (0, a1)), (2, (0, a2))] [(0, 0)] N σ g Q
          refine z_if_eq (tgt := 35) d_M_mean_21 (by decide) (fun _ => ?_) (fun c => absurd (by decide) c)
          refine z_aload_n (i := 0) (c := 0) 0 d_M_mean_35 rfl rfl rfl ?_
          refine z_iconst (n := 1) d_M_mean_36 (by decide) ?_
          refine z_cV (c := 0) (as := [(0, 1)]) (d' := 1) (st := []) d_M_mean_37 mi_M_is ml_M_94 mv_M_is se_M_is rfl rfl rfl rfl (ks_M_0 hx) rfl rfl (kl_M_0 hx) rfl rfl (b_M_is_0 hx ?_)
          refine ⟨fun c => absurd c (by decide), fun _ => ?_⟩
          intro _
          show z_U X 7 m_M_mean 40 [(0, (2, 0)), (1, (0, a1)), (2, (0, a2))] [(0, 0)] N σ (z_up g 0 1 1) Q
          exact z_zret d_M_mean_40 rfl (by decide) (by decide) (by decide) ⟨rfl, rfl, h⟩
        · have h := h.2 c4
          intro _
          show z_U X 7 m_M_mean 21 [(0, (2, 0)), (1, (0, a1)), (2, (0, a2))] [(0, 1)] N σ g Q
          refine z_if_eq (tgt := 35) d_M_mean_21 (by decide) (fun c => absurd c (by decide)) (fun _ => ?_)
          refine z_iload_n (i := 1) 1 d_M_mean_24 rfl rfl ?_
          refine z_iload_n (i := 2) 2 d_M_mean_25 rfl rfl ?_
          obtain ⟨c5, h⟩ := h
          refine z_iadd d_M_mean_26 c5 ?_
          refine z_iconst (n := 1) d_M_mean_27 (by decide) ?_
          obtain ⟨c6, h⟩ := h
          refine z_isub d_M_mean_28 c6 ?_
          refine z_sipush (n := 9999) d_M_mean_29 (by decide) (by decide) ?_
          refine z_icmp_le (tgt := 41) d_M_mean_32 (by decide) (fun c7 => ?_) (fun c7 => ?_)
          · have h := h.1 c7
            refine z_aload_n (i := 0) (c := 0) 0 d_M_mean_41 rfl rfl rfl ?_
            refine z_getr (c := 0) (kI := 0) (r2 := 1) d_M_mean_42 fd_M_at fl_M_7 rfl rfl rfl (ks_M_0 hx) (kl_M_0 hx) (kr_M_0_0 hx) ?_
            refine z_bipush (n := 6) d_M_mean_45 (by decide) (by decide) ?_
            refine z_iald (c := 1) (m := 3296) d_M_mean_47 rfl (ks_M_1 hx) (kl_M_1 hx) rfl (by decide) (by decide) ?_
            refine z_iconst (n := (-1)) d_M_mean_48 (by decide) ?_
            refine z_icmp_ne (tgt := 59) d_M_mean_49 (by decide) (fun c8 => ?_) (fun c8 => ?_)
            · have h := h.2 c8
              refine z_iconst (n := 0) d_M_mean_59 (by decide) ?_
              refine z_istore_n (i := 3) (ls' := [(3, (0, 0)), (0, (2, 0)), (1, (0, a1)), (2, (0, a2))]) d_M_mean_60 rfl rfl rfl ?_
              refine z_sub (ls' := [(0, (2, 0)), (1, (0, a1)), (2, (0, a2)), (3, (0, 0))]) [1, 2, 3, 0] rfl ?_
              exact h
            · have h := h.1 c8
              refine z_aload_n (i := 0) (c := 0) 0 d_M_mean_52 rfl rfl rfl ?_
              refine z_bipush (n := 6) d_M_mean_53 (by decide) (by decide) ?_
              refine z_cV (c := 0) (as := [(0, 6)]) (d' := 1) (st := []) d_M_mean_55 mi_M_is ml_M_94 mv_M_is se_M_is rfl rfl rfl rfl (ks_M_0 hx) rfl rfl (kl_M_0 hx) rfl rfl (b_M_is_0 hx ?_)
              refine ⟨fun c => absurd c (by decide), fun _ => ?_⟩
              intro _
              show z_U X 7 m_M_mean 58 [(0, (2, 0)), (1, (0, a1)), (2, (0, a2))] [(0, 0)] N σ (z_up g 0 1 6) Q
              exact z_zret d_M_mean_58 rfl (by decide) (by decide) (by decide) ⟨rfl, rfl, h⟩
          · have h := h.2 c7
            refine z_aload_n (i := 0) (c := 0) 0 d_M_mean_35 rfl rfl rfl ?_
            refine z_iconst (n := 1) d_M_mean_36 (by decide) ?_
            refine z_cV (c := 0) (as := [(0, 1)]) (d' := 1) (st := []) d_M_mean_37 mi_M_is ml_M_94 mv_M_is se_M_is rfl rfl rfl rfl (ks_M_0 hx) rfl rfl (kl_M_0 hx) rfl rfl (b_M_is_0 hx ?_)
            refine ⟨fun c => absurd c (by decide), fun _ => ?_⟩
            intro _
            show z_U X 7 m_M_mean 40 [(0, (2, 0)), (1, (0, a1)), (2, (0, a2))] [(0, 0)] N σ (z_up g 0 1 1) Q
            exact z_zret d_M_mean_40 rfl (by decide) (by decide) (by decide) ⟨rfl, rfl, h⟩
set_option maxRecDepth 8000 in
theorem b_M_mean_61 {X : z_X} {N : Nat} {σ g : z_G} {Q : z_P} {x1 x2 x3 : Int} (hx : z_lay X N σ 0 z_SM z_RM) (h : ((246 ≤ x3) → L_M_mean_95 X N σ x1 x2 0 0 g Q) ∧ (¬ (246 ≤ x3) → ((-2147483648 ≤ (3050 + x3) ∧ (3050 + x3) ≤ 2147483647) ∧ ((0 ≤ x3 ∧ x3 < 3296) ∧ ((0 ≤ (3050 + x3) ∧ (3050 + x3) < 3296) ∧ ((-2147483648 ≤ (x3 + 1) ∧ (x3 + 1) ≤ 2147483647) ∧ L_M_mean_61 X N σ x1 x2 (x3 + 1) (z_up g 1 (3050 + x3) (g 1 x3)) Q)))))) : L_M_mean_61 X N σ x1 x2 x3 g Q := by
  refine z_iload_n (i := 3) 3 d_M_mean_61 rfl rfl ?_
  refine z_sipush (n := 246) d_M_mean_62 (by decide) (by decide) ?_
  refine z_icmp_ge (tgt := 90) d_M_mean_65 (by decide) (fun c1 => ?_) (fun c1 => ?_)
  · have h := h.1 c1
    refine z_lconst (v := 0) d_M_mean_90 (by decide) (by decide) ?_
    refine z_lstore_n (i := 3) (ls' := [(3, (1, 0)), (0, (2, 0)), (1, (0, x1)), (2, (0, x2))]) d_M_mean_91 rfl rfl rfl ?_
    refine z_iconst (n := 0) d_M_mean_92 (by decide) ?_
    refine z_istore (ls' := [(5, (0, 0)), (3, (1, 0)), (0, (2, 0)), (1, (0, x1)), (2, (0, x2))]) d_M_mean_93 rfl rfl ?_
    refine z_sub (ls' := [(0, (2, 0)), (1, (0, x1)), (2, (0, x2)), (3, (1, 0)), (5, (0, 0))]) [2, 3, 4, 1, 0] rfl ?_
    exact h
  · have h := h.2 c1
    refine z_aload_n (i := 0) (c := 0) 0 d_M_mean_68 rfl rfl rfl ?_
    refine z_getr (c := 0) (kI := 0) (r2 := 1) d_M_mean_69 fd_M_at fl_M_7 rfl rfl rfl (ks_M_0 hx) (kl_M_0 hx) (kr_M_0_0 hx) ?_
    refine z_sipush (n := 3050) d_M_mean_72 (by decide) (by decide) ?_
    refine z_iload_n (i := 3) 3 d_M_mean_75 rfl rfl ?_
    obtain ⟨c2, h⟩ := h
    refine z_iadd d_M_mean_76 c2 ?_
    refine z_aload_n (i := 0) (c := 0) 0 d_M_mean_77 rfl rfl rfl ?_
    refine z_getr (c := 0) (kI := 0) (r2 := 1) d_M_mean_78 fd_M_at fl_M_7 rfl rfl rfl (ks_M_0 hx) (kl_M_0 hx) (kr_M_0_0 hx) ?_
    refine z_iload_n (i := 3) 3 d_M_mean_81 rfl rfl ?_
    obtain ⟨c3, h⟩ := h
    refine z_iald (c := 1) (m := 3296) d_M_mean_82 rfl (ks_M_1 hx) (kl_M_1 hx) rfl (by decide) c3 ?_
    obtain ⟨c4, h⟩ := h
    refine z_iast (c := 1) (m := 3296) d_M_mean_83 rfl (ks_M_1 hx) (kl_M_1 hx) rfl (by decide) c4 ?_
    obtain ⟨c5, h⟩ := h
    refine z_iinc (n := 1) (ls' := [(3, (0, x3 + 1)), (0, (2, 0)), (1, (0, x1)), (2, (0, x2))]) 3 d_M_mean_84 rfl c5 rfl rfl ?_
    refine z_goto (tgt := 61) d_M_mean_87 (by decide) ?_
    refine z_sub (ls' := [(0, (2, 0)), (1, (0, x1)), (2, (0, x2)), (3, (0, x3 + 1))]) [1, 2, 3, 0] rfl ?_
    exact h
set_option maxRecDepth 8000 in
theorem b_M_mean_95 {X : z_X} {N : Nat} {σ g : z_G} {Q : z_P} {x1 x2 x3 x5 : Int} (hx : z_lay X N σ 0 z_SM z_RM) (h : ((x2 ≤ x5) → (z_O X 2 m_M_tellsBy [(2, 0), (1, x3), (1, x2)] N σ g (fun r0 g0 => (r0 = 0 ∨ r0 = 1) → Q r0 g0))) ∧ (¬ (x2 ≤ x5) → ((-2147483648 ≤ (x1 + x5) ∧ (x1 + x5) ≤ 2147483647) ∧ (z_O X 6 m_M_lives [(2, 0), (0, x1 + x5)] N σ g (fun r1 g1 => (z_O X 2 m_M_depthOf [(2, 0), (0, g1 1 2), (0, g1 1 3)] N σ g1 (fun r2 g2 => ((-9223372036854775808 ≤ (x3 + r2) ∧ (x3 + r2) ≤ 9223372036854775807) ∧ L_M_mean_120 X N σ x1 x2 (x3 + r2) x5 0 g2 Q)))))))) : L_M_mean_95 X N σ x1 x2 x3 x5 g Q := by
  refine z_iload 4 d_M_mean_95 rfl ?_
  refine z_iload_n (i := 2) 2 d_M_mean_97 rfl rfl ?_
  refine z_icmp_ge (tgt := 158) d_M_mean_98 (by decide) (fun c1 => ?_) (fun c1 => ?_)
  · have h := h.1 c1
    refine z_aload_n (i := 0) (c := 0) 0 d_M_mean_158 rfl rfl rfl ?_
    refine z_lload_n (i := 3) 3 d_M_mean_159 rfl rfl ?_
    refine z_iload_n (i := 2) 2 d_M_mean_160 rfl rfl ?_
    refine z_i2l d_M_mean_161 ?_
    refine z_cV (c := 0) (as := [(1, x3), (1, x2)]) (d' := 2) (st := []) d_M_mean_162 mi_M_tellsBy ml_M_253 mv_M_tellsBy se_M_tellsBy rfl rfl rfl rfl (ks_M_0 hx) rfl rfl (kl_M_0 hx) rfl rfl (z_Omono h (fun r0 g0 _ h hro => ?_))
    have h := h (z_b01 hro)
    have hzr0 := z_b01 hro
    show z_U X 7 m_M_mean 165 [(0, (2, 0)), (1, (0, x1)), (2, (0, x2)), (3, (1, x3)), (5, (0, x5))] [(0, r0)] N σ g0 Q
    exact z_zret d_M_mean_165 rfl (by decide) (by decide) hzr0 ⟨rfl, rfl, h⟩
  · have h := h.2 c1
    refine z_aload_n (i := 0) (c := 0) 0 d_M_mean_101 rfl rfl rfl ?_
    refine z_iload_n (i := 1) 1 d_M_mean_102 rfl rfl ?_
    refine z_iload 4 d_M_mean_103 rfl ?_
    obtain ⟨c2, h⟩ := h
    refine z_iadd d_M_mean_105 c2 ?_
    refine z_cV (c := 0) (as := [(0, x1 + x5)]) (d' := 6) (st := []) d_M_mean_106 mi_M_lives ml_M_420 mv_M_lives se_M_lives rfl rfl rfl rfl (ks_M_0 hx) rfl rfl (kl_M_0 hx) rfl rfl (z_Omono h (fun r1 g1 _ h hro => ?_))
    show z_U X 7 m_M_mean 109 [(0, (2, 0)), (1, (0, x1)), (2, (0, x2)), (3, (1, x3)), (5, (0, x5))] [] N σ g1 Q
    refine z_lload_n (i := 3) 3 d_M_mean_109 rfl rfl ?_
    refine z_aload_n (i := 0) (c := 0) 0 d_M_mean_110 rfl rfl rfl ?_
    refine z_cV (c := 0) (as := []) (d' := 3) (st := [(1, x3)]) d_M_mean_111 mi_M_depthNow ml_M_335 mv_M_depthNow se_M_depthNow rfl rfl rfl rfl (ks_M_0 hx) rfl rfl (kl_M_0 hx) rfl rfl (b_M_depthNow_0 hx ?_)
    refine z_Omono h (fun r2 g2 _ h => ?_)
    intro _
    show z_U X 7 m_M_mean 114 [(0, (2, 0)), (1, (0, x1)), (2, (0, x2)), (3, (1, x3)), (5, (0, x5))] [(0, r2), (1, x3)] N σ g2 Q
    refine z_i2l d_M_mean_114 ?_
    obtain ⟨c3, h⟩ := h
    refine z_ladd d_M_mean_115 c3 ?_
    refine z_lstore_n (i := 3) (ls' := [(3, (1, x3 + r2)), (0, (2, 0)), (1, (0, x1)), (2, (0, x2)), (5, (0, x5))]) d_M_mean_116 rfl rfl rfl ?_
    refine z_iconst (n := 0) d_M_mean_117 (by decide) ?_
    refine z_istore (ls' := [(6, (0, 0)), (3, (1, x3 + r2)), (0, (2, 0)), (1, (0, x1)), (2, (0, x2)), (5, (0, x5))]) d_M_mean_118 rfl rfl ?_
    refine z_sub (ls' := [(0, (2, 0)), (1, (0, x1)), (2, (0, x2)), (3, (1, x3 + r2)), (5, (0, x5)), (6, (0, 0))]) [2, 3, 4, 1, 5, 0] rfl ?_
    exact h
set_option maxRecDepth 8000 in
theorem b_M_mean_120 {X : z_X} {N : Nat} {σ g : z_G} {Q : z_P} {x1 x2 x3 x5 x6 : Int} (hx : z_lay X N σ 0 z_SM z_RM) (h : ((246 ≤ x6) → ((-2147483648 ≤ (x5 + 1) ∧ (x5 + 1) ≤ 2147483647) ∧ L_M_mean_95 X N σ x1 x2 x3 (x5 + 1) g Q)) ∧ (¬ (246 ≤ x6) → ((-2147483648 ≤ (3050 + x6) ∧ (3050 + x6) ≤ 2147483647) ∧ ((0 ≤ (3050 + x6) ∧ (3050 + x6) < 3296) ∧ ((0 ≤ x6 ∧ x6 < 3296) ∧ ((-2147483648 ≤ (x6 + 1) ∧ (x6 + 1) ≤ 2147483647) ∧ L_M_mean_120 X N σ x1 x2 x3 x5 (x6 + 1) (z_up g 1 x6 (g 1 (3050 + x6))) Q)))))) : L_M_mean_120 X N σ x1 x2 x3 x5 x6 g Q := by
  refine z_iload 5 d_M_mean_120 rfl ?_
  refine z_sipush (n := 246) d_M_mean_122 (by decide) (by decide) ?_
  refine z_icmp_ge (tgt := 152) d_M_mean_125 (by decide) (fun c1 => ?_) (fun c1 => ?_)
  · have h := h.1 c1
    obtain ⟨c2, h⟩ := h
    refine z_iinc (n := 1) (ls' := [(5, (0, x5 + 1)), (0, (2, 0)), (1, (0, x1)), (2, (0, x2)), (3, (1, x3)), (6, (0, x6))]) 4 d_M_mean_152 rfl c2 rfl rfl ?_
    refine z_goto (tgt := 95) d_M_mean_155 (by decide) ?_
    refine z_sub (ls' := [(0, (2, 0)), (1, (0, x1)), (2, (0, x2)), (3, (1, x3)), (5, (0, x5 + 1))]) [1, 2, 3, 4, 0] rfl ?_
    exact h
  · have h := h.2 c1
    refine z_aload_n (i := 0) (c := 0) 0 d_M_mean_128 rfl rfl rfl ?_
    refine z_getr (c := 0) (kI := 0) (r2 := 1) d_M_mean_129 fd_M_at fl_M_7 rfl rfl rfl (ks_M_0 hx) (kl_M_0 hx) (kr_M_0_0 hx) ?_
    refine z_iload 5 d_M_mean_132 rfl ?_
    refine z_aload_n (i := 0) (c := 0) 0 d_M_mean_134 rfl rfl rfl ?_
    refine z_getr (c := 0) (kI := 0) (r2 := 1) d_M_mean_135 fd_M_at fl_M_7 rfl rfl rfl (ks_M_0 hx) (kl_M_0 hx) (kr_M_0_0 hx) ?_
    refine z_sipush (n := 3050) d_M_mean_138 (by decide) (by decide) ?_
    refine z_iload 5 d_M_mean_141 rfl ?_
    obtain ⟨c3, h⟩ := h
    refine z_iadd d_M_mean_143 c3 ?_
    obtain ⟨c4, h⟩ := h
    refine z_iald (c := 1) (m := 3296) d_M_mean_144 rfl (ks_M_1 hx) (kl_M_1 hx) rfl (by decide) c4 ?_
    obtain ⟨c5, h⟩ := h
    refine z_iast (c := 1) (m := 3296) d_M_mean_145 rfl (ks_M_1 hx) (kl_M_1 hx) rfl (by decide) c5 ?_
    obtain ⟨c6, h⟩ := h
    refine z_iinc (n := 1) (ls' := [(6, (0, x6 + 1)), (0, (2, 0)), (1, (0, x1)), (2, (0, x2)), (3, (1, x3)), (5, (0, x5))]) 5 d_M_mean_146 rfl c6 rfl rfl ?_
    refine z_goto (tgt := 120) d_M_mean_149 (by decide) ?_
    refine z_sub (ls' := [(0, (2, 0)), (1, (0, x1)), (2, (0, x2)), (3, (1, x3)), (5, (0, x5)), (6, (0, x6 + 1))]) [1, 2, 3, 4, 5, 0] rfl ?_
    exact h
theorem d_M_wantWord_0 : decode (z_c m_M_wantWord) 0 = .ok (.aload_n 0, 1) := by decide +kernel
theorem d_M_wantWord_1 : decode (z_c m_M_wantWord) 1 = .ok (.ldc 169, 2) := by decide +kernel
theorem d_M_wantWord_3 : decode (z_c m_M_wantWord) 3 = .ok (.invokevirtual 171, 3) := by decide +kernel
theorem d_M_wantWord_6 : decode (z_c m_M_wantWord) 6 = .ok (.iload_n 1, 1) := by decide +kernel
theorem d_M_wantWord_7 : decode (z_c m_M_wantWord) 7 = .ok (.if_icmp .eq 9, 3) := by decide +kernel
theorem d_M_wantWord_10 : decode (z_c m_M_wantWord) 10 = .ok (.aload_n 0, 1) := by decide +kernel
theorem d_M_wantWord_11 : decode (z_c m_M_wantWord) 11 = .ok (.iconst 2, 1) := by decide +kernel
theorem d_M_wantWord_12 : decode (z_c m_M_wantWord) 12 = .ok (.invokevirtual 166, 3) := by decide +kernel
theorem d_M_wantWord_15 : decode (z_c m_M_wantWord) 15 = .ok (.ireturn, 1) := by decide +kernel
theorem d_M_wantWord_16 : decode (z_c m_M_wantWord) 16 = .ok (.aload_n 0, 1) := by decide +kernel
theorem d_M_wantWord_17 : decode (z_c m_M_wantWord) 17 = .ok (.invokevirtual 160, 3) := by decide +kernel
theorem d_M_wantWord_20 : decode (z_c m_M_wantWord) 20 = .ok (.iconst 1, 1) := by decide +kernel
theorem d_M_wantWord_21 : decode (z_c m_M_wantWord) 21 = .ok (.ireturn, 1) := by decide +kernel
set_option maxRecDepth 8000 in
theorem b_M_wantWord_0 {X : z_X} {N : Nat} {σ g : z_G} {Q : z_P} {a1 : Int} (hx : z_lay X N σ 0 z_SM z_RM) (h : z_O X 7 m_M_inWords [(2, 0), (4, 20)] N σ g (fun r0 g0 => (((r0 = a1) → (z_O X 2 m_M_nextToken [(2, 0)] N σ g0 (fun r1 g1 => Q 1 g1))) ∧ (¬ (r0 = a1) → (z_O X 1 m_M_fails [(2, 0), (0, 2)] N σ g0 (fun r2 g2 => (r2 = 0 ∨ r2 = 1) → Q r2 g2)))))) : z_O X 8 m_M_wantWord [(2, 0), (0, a1)] N σ g Q := by
  refine z_Oenter mi_M_wantWord rfl (fun _ => ?_)
  show z_U X 8 m_M_wantWord 0 [(0, (2, 0)), (1, (0, a1))] [] N σ g Q
  refine z_aload_n (i := 0) (c := 0) 0 d_M_wantWord_0 rfl rfl rfl ?_
  refine z_ldcs (q := ("FareyRankModel", 169, 20)) d_M_wantWord_1 (List.mem_of_getElem? (i := 23) rfl) rfl rfl rfl ?_
  refine z_cV (c := 0) (as := [(4, 20)]) (d' := 7) (st := []) d_M_wantWord_3 mi_M_inWords ml_M_171 mv_M_inWords se_M_inWords rfl rfl rfl rfl (ks_M_0 hx) rfl rfl (kl_M_0 hx) rfl rfl (z_Omono h (fun r0 g0 _ h hro => ?_))
  show z_U X 8 m_M_wantWord 6 [(0, (2, 0)), (1, (0, a1))] [(0, r0)] N σ g0 Q
  refine z_iload_n (i := 1) 1 d_M_wantWord_6 rfl rfl ?_
  refine z_icmp_eq (tgt := 16) d_M_wantWord_7 (by decide) (fun c1 => ?_) (fun c1 => ?_)
  · have h := h.1 c1
    refine z_aload_n (i := 0) (c := 0) 0 d_M_wantWord_16 rfl rfl rfl ?_
    refine z_cV (c := 0) (as := []) (d' := 2) (st := []) d_M_wantWord_17 mi_M_nextToken ml_M_160 mv_M_nextToken se_M_nextToken rfl rfl rfl rfl (ks_M_0 hx) rfl rfl (kl_M_0 hx) rfl rfl (z_Omono h (fun r1 g1 _ h hro => ?_))
    show z_U X 8 m_M_wantWord 20 [(0, (2, 0)), (1, (0, a1))] [] N σ g1 Q
    refine z_iconst (n := 1) d_M_wantWord_20 (by decide) ?_
    exact z_zret d_M_wantWord_21 rfl (by decide) (by decide) (by decide) ⟨rfl, rfl, h⟩
  · have h := h.2 c1
    refine z_aload_n (i := 0) (c := 0) 0 d_M_wantWord_10 rfl rfl rfl ?_
    refine z_iconst (n := 2) d_M_wantWord_11 (by decide) ?_
    refine z_cV (c := 0) (as := [(0, 2)]) (d' := 1) (st := []) d_M_wantWord_12 mi_M_fails ml_M_166 mv_M_fails se_M_fails rfl rfl rfl rfl (ks_M_0 hx) rfl rfl (kl_M_0 hx) rfl rfl (z_Omono h (fun r2 g2 _ h hro => ?_))
    have h := h (z_b01 hro)
    have hzr2 := z_b01 hro
    show z_U X 8 m_M_wantWord 15 [(0, (2, 0)), (1, (0, a1))] [(0, r2)] N σ g2 Q
    exact z_zret d_M_wantWord_15 rfl (by decide) (by decide) hzr2 ⟨rfl, rfl, h⟩
theorem d_M_valueTo_0 : decode (z_c m_M_valueTo) 0 = .ok (.aload_n 0, 1) := by decide +kernel
theorem d_M_valueTo_1 : decode (z_c m_M_valueTo) 1 = .ok (.iload_n 1, 1) := by decide +kernel
theorem d_M_valueTo_2 : decode (z_c m_M_valueTo) 2 = .ok (.iconst 0, 1) := by decide +kernel
theorem d_M_valueTo_3 : decode (z_c m_M_valueTo) 3 = .ok (.sipush 9999, 3) := by decide +kernel
theorem d_M_valueTo_6 : decode (z_c m_M_valueTo) 6 = .ok (.invokevirtual 175, 3) := by decide +kernel
theorem d_M_valueTo_9 : decode (z_c m_M_valueTo) 9 = .ok (.ifCond .eq 11, 3) := by decide +kernel
theorem d_M_valueTo_12 : decode (z_c m_M_valueTo) 12 = .ok (.aload_n 0, 1) := by decide +kernel
theorem d_M_valueTo_13 : decode (z_c m_M_valueTo) 13 = .ok (.iconst 4, 1) := by decide +kernel
theorem d_M_valueTo_14 : decode (z_c m_M_valueTo) 14 = .ok (.invokevirtual 179, 3) := by decide +kernel
theorem d_M_valueTo_17 : decode (z_c m_M_valueTo) 17 = .ok (.ifCond .ne 5, 3) := by decide +kernel
theorem d_M_valueTo_20 : decode (z_c m_M_valueTo) 20 = .ok (.iconst 0, 1) := by decide +kernel
theorem d_M_valueTo_21 : decode (z_c m_M_valueTo) 21 = .ok (.ireturn, 1) := by decide +kernel
theorem d_M_valueTo_22 : decode (z_c m_M_valueTo) 22 = .ok (.aload_n 0, 1) := by decide +kernel
theorem d_M_valueTo_23 : decode (z_c m_M_valueTo) 23 = .ok (.getfield 132, 3) := by decide +kernel
theorem d_M_valueTo_26 : decode (z_c m_M_valueTo) 26 = .ok (.iconst 3, 1) := by decide +kernel
theorem d_M_valueTo_27 : decode (z_c m_M_valueTo) 27 = .ok (.if_icmp .eq 9, 3) := by decide +kernel
theorem d_M_valueTo_30 : decode (z_c m_M_valueTo) 30 = .ok (.aload_n 0, 1) := by decide +kernel
theorem d_M_valueTo_31 : decode (z_c m_M_valueTo) 31 = .ok (.iconst 2, 1) := by decide +kernel
theorem d_M_valueTo_32 : decode (z_c m_M_valueTo) 32 = .ok (.invokevirtual 166, 3) := by decide +kernel
theorem d_M_valueTo_35 : decode (z_c m_M_valueTo) 35 = .ok (.ireturn, 1) := by decide +kernel
theorem d_M_valueTo_36 : decode (z_c m_M_valueTo) 36 = .ok (.aload_n 0, 1) := by decide +kernel
theorem d_M_valueTo_37 : decode (z_c m_M_valueTo) 37 = .ok (.getfield 129, 3) := by decide +kernel
theorem d_M_valueTo_40 : decode (z_c m_M_valueTo) 40 = .ok (.ifCond .eq 42, 3) := by decide +kernel
theorem d_M_valueTo_43 : decode (z_c m_M_valueTo) 43 = .ok (.aload_n 0, 1) := by decide +kernel
theorem d_M_valueTo_44 : decode (z_c m_M_valueTo) 44 = .ok (.getfield 129, 3) := by decide +kernel
theorem d_M_valueTo_47 : decode (z_c m_M_valueTo) 47 = .ok (.aload_n 0, 1) := by decide +kernel
theorem d_M_valueTo_48 : decode (z_c m_M_valueTo) 48 = .ok (.getfield 7, 3) := by decide +kernel
theorem d_M_valueTo_51 : decode (z_c m_M_valueTo) 51 = .ok (.iload_n 1, 1) := by decide +kernel
theorem d_M_valueTo_52 : decode (z_c m_M_valueTo) 52 = .ok (.iaload, 1) := by decide +kernel
theorem d_M_valueTo_53 : decode (z_c m_M_valueTo) 53 = .ok (.if_icmp .lt 29, 3) := by decide +kernel
theorem d_M_valueTo_56 : decode (z_c m_M_valueTo) 56 = .ok (.iload_n 2, 1) := by decide +kernel
theorem d_M_valueTo_57 : decode (z_c m_M_valueTo) 57 = .ok (.ifCond .eq 31, 3) := by decide +kernel
theorem d_M_valueTo_60 : decode (z_c m_M_valueTo) 60 = .ok (.aload_n 0, 1) := by decide +kernel
theorem d_M_valueTo_61 : decode (z_c m_M_valueTo) 61 = .ok (.getfield 7, 3) := by decide +kernel
theorem d_M_valueTo_64 : decode (z_c m_M_valueTo) 64 = .ok (.iload_n 1, 1) := by decide +kernel
theorem d_M_valueTo_65 : decode (z_c m_M_valueTo) 65 = .ok (.iaload, 1) := by decide +kernel
theorem d_M_valueTo_66 : decode (z_c m_M_valueTo) 66 = .ok (.ifCond .eq 16, 3) := by decide +kernel
theorem d_M_valueTo_69 : decode (z_c m_M_valueTo) 69 = .ok (.aload_n 0, 1) := by decide +kernel
theorem d_M_valueTo_70 : decode (z_c m_M_valueTo) 70 = .ok (.getfield 7, 3) := by decide +kernel
theorem d_M_valueTo_73 : decode (z_c m_M_valueTo) 73 = .ok (.iload_n 1, 1) := by decide +kernel
theorem d_M_valueTo_74 : decode (z_c m_M_valueTo) 74 = .ok (.iaload, 1) := by decide +kernel
theorem d_M_valueTo_75 : decode (z_c m_M_valueTo) 75 = .ok (.aload_n 0, 1) := by decide +kernel
theorem d_M_valueTo_76 : decode (z_c m_M_valueTo) 76 = .ok (.getfield 129, 3) := by decide +kernel
theorem d_M_valueTo_79 : decode (z_c m_M_valueTo) 79 = .ok (.if_icmp .ne 9, 3) := by decide +kernel
theorem d_M_valueTo_82 : decode (z_c m_M_valueTo) 82 = .ok (.aload_n 0, 1) := by decide +kernel
theorem d_M_valueTo_83 : decode (z_c m_M_valueTo) 83 = .ok (.iconst 4, 1) := by decide +kernel
theorem d_M_valueTo_84 : decode (z_c m_M_valueTo) 84 = .ok (.invokevirtual 166, 3) := by decide +kernel
theorem d_M_valueTo_87 : decode (z_c m_M_valueTo) 87 = .ok (.ireturn, 1) := by decide +kernel
theorem d_M_valueTo_88 : decode (z_c m_M_valueTo) 88 = .ok (.aload_n 0, 1) := by decide +kernel
theorem d_M_valueTo_89 : decode (z_c m_M_valueTo) 89 = .ok (.getfield 7, 3) := by decide +kernel
theorem d_M_valueTo_92 : decode (z_c m_M_valueTo) 92 = .ok (.iload_n 1, 1) := by decide +kernel
theorem d_M_valueTo_93 : decode (z_c m_M_valueTo) 93 = .ok (.iaload, 1) := by decide +kernel
theorem d_M_valueTo_94 : decode (z_c m_M_valueTo) 94 = .ok (.aload_n 0, 1) := by decide +kernel
theorem d_M_valueTo_95 : decode (z_c m_M_valueTo) 95 = .ok (.getfield 129, 3) := by decide +kernel
theorem d_M_valueTo_98 : decode (z_c m_M_valueTo) 98 = .ok (.invokestatic 182, 3) := by decide +kernel
theorem d_M_valueTo_101 : decode (z_c m_M_valueTo) 101 = .ok (.istore_n 3, 1) := by decide +kernel
theorem d_M_valueTo_102 : decode (z_c m_M_valueTo) 102 = .ok (.aload_n 0, 1) := by decide +kernel
theorem d_M_valueTo_103 : decode (z_c m_M_valueTo) 103 = .ok (.getfield 7, 3) := by decide +kernel
theorem d_M_valueTo_106 : decode (z_c m_M_valueTo) 106 = .ok (.iload_n 1, 1) := by decide +kernel
theorem d_M_valueTo_107 : decode (z_c m_M_valueTo) 107 = .ok (.dup2, 1) := by decide +kernel
theorem d_M_valueTo_108 : decode (z_c m_M_valueTo) 108 = .ok (.iaload, 1) := by decide +kernel
theorem d_M_valueTo_109 : decode (z_c m_M_valueTo) 109 = .ok (.iload_n 3, 1) := by decide +kernel
theorem d_M_valueTo_110 : decode (z_c m_M_valueTo) 110 = .ok (.idiv, 1) := by decide +kernel
theorem d_M_valueTo_111 : decode (z_c m_M_valueTo) 111 = .ok (.iastore, 1) := by decide +kernel
theorem d_M_valueTo_112 : decode (z_c m_M_valueTo) 112 = .ok (.aload_n 0, 1) := by decide +kernel
theorem d_M_valueTo_113 : decode (z_c m_M_valueTo) 113 = .ok (.getfield 7, 3) := by decide +kernel
theorem d_M_valueTo_116 : decode (z_c m_M_valueTo) 116 = .ok (.iload_n 1, 1) := by decide +kernel
theorem d_M_valueTo_117 : decode (z_c m_M_valueTo) 117 = .ok (.iconst 1, 1) := by decide +kernel
theorem d_M_valueTo_118 : decode (z_c m_M_valueTo) 118 = .ok (.iadd, 1) := by decide +kernel
theorem d_M_valueTo_119 : decode (z_c m_M_valueTo) 119 = .ok (.aload_n 0, 1) := by decide +kernel
theorem d_M_valueTo_120 : decode (z_c m_M_valueTo) 120 = .ok (.getfield 129, 3) := by decide +kernel
theorem d_M_valueTo_123 : decode (z_c m_M_valueTo) 123 = .ok (.iload_n 3, 1) := by decide +kernel
theorem d_M_valueTo_124 : decode (z_c m_M_valueTo) 124 = .ok (.idiv, 1) := by decide +kernel
theorem d_M_valueTo_125 : decode (z_c m_M_valueTo) 125 = .ok (.iastore, 1) := by decide +kernel
theorem d_M_valueTo_126 : decode (z_c m_M_valueTo) 126 = .ok (.iconst 1, 1) := by decide +kernel
theorem d_M_valueTo_127 : decode (z_c m_M_valueTo) 127 = .ok (.ireturn, 1) := by decide +kernel
set_option maxRecDepth 8000 in
theorem b_M_valueTo_0 {X : z_X} {N : Nat} {σ g : z_G} {Q : z_P} {a1 a2 : Int} (hx : z_lay X N σ 0 z_SM z_RM) (h : z_O X 3 m_M_number [(2, 0), (0, a1), (0, 0), (0, 9999)] N σ g (fun r0 g0 => (r0 = 0 ∨ r0 = 1) → (((r0 = 0) → Q 0 g0) ∧ (¬ (r0 = 0) → (z_O X 8 m_M_wantWord [(2, 0), (0, 4)] N σ g0 (fun r1 g1 => (r1 = 0 ∨ r1 = 1) → (((r1 = 0) → Q 0 g1) ∧ (¬ (r1 = 0) → ((((g1 0 11) = 3) → ((((g1 0 14) = 0) → (z_O X 1 m_M_fails [(2, 0), (0, 4)] N σ g1 (fun r2 g2 => (r2 = 0 ∨ r2 = 1) → Q r2 g2))) ∧ (¬ ((g1 0 14) = 0) → ((0 ≤ a1 ∧ a1 < 3296) ∧ ((((g1 0 14) < (g1 1 a1)) → (z_O X 1 m_M_fails [(2, 0), (0, 4)] N σ g1 (fun r3 g3 => (r3 = 0 ∨ r3 = 1) → Q r3 g3))) ∧ (¬ ((g1 0 14) < (g1 1 a1)) → (((a2 = 0) → (z_O X 1 m_M_common [(0, g1 1 a1), (0, g1 0 14)] N σ g1 (fun r4 g4 => ((0 < r4) ∧ ((-2147483648 ≤ (a1 + 1) ∧ (a1 + 1) ≤ 2147483647) ∧ ((0 ≤ (a1 + 1) ∧ (a1 + 1) < 3296) ∧ Q 1 (z_up (z_up g4 1 a1 (Int.tdiv (g4 1 a1) r4)) 1 (a1 + 1) (Int.tdiv (g4 0 14) r4)))))))) ∧ (¬ (a2 = 0) → ((((g1 1 a1) = 0) → (z_O X 1 m_M_fails [(2, 0), (0, 4)] N σ g1 (fun r5 g5 => (r5 = 0 ∨ r5 = 1) → Q r5 g5))) ∧ (¬ ((g1 1 a1) = 0) → ((((g1 1 a1) = (g1 0 14)) → (z_O X 1 m_M_fails [(2, 0), (0, 4)] N σ g1 (fun r7 g7 => (r7 = 0 ∨ r7 = 1) → Q r7 g7))) ∧ (¬ ((g1 1 a1) = (g1 0 14)) → (z_O X 1 m_M_common [(0, g1 1 a1), (0, g1 0 14)] N σ g1 (fun r6 g6 => ((0 < r6) ∧ ((-2147483648 ≤ (a1 + 1) ∧ (a1 + 1) ≤ 2147483647) ∧ ((0 ≤ (a1 + 1) ∧ (a1 + 1) < 3296) ∧ Q 1 (z_up (z_up g6 1 a1 (Int.tdiv (g6 1 a1) r6)) 1 (a1 + 1) (Int.tdiv (g6 0 14) r6))))))))))))))))))) ∧ (¬ ((g1 0 11) = 3) → (z_O X 1 m_M_fails [(2, 0), (0, 2)] N σ g1 (fun r8 g8 => (r8 = 0 ∨ r8 = 1) → Q r8 g8)))))))))))) : z_O X 9 m_M_valueTo [(2, 0), (0, a1), (0, a2)] N σ g Q := by
  refine z_Oenter mi_M_valueTo rfl (fun _ => ?_)
  show z_U X 9 m_M_valueTo 0 [(0, (2, 0)), (1, (0, a1)), (2, (0, a2))] [] N σ g Q
  refine z_aload_n (i := 0) (c := 0) 0 d_M_valueTo_0 rfl rfl rfl ?_
  refine z_iload_n (i := 1) 1 d_M_valueTo_1 rfl rfl ?_
  refine z_iconst (n := 0) d_M_valueTo_2 (by decide) ?_
  refine z_sipush (n := 9999) d_M_valueTo_3 (by decide) (by decide) ?_
  refine z_cV (c := 0) (as := [(0, a1), (0, 0), (0, 9999)]) (d' := 3) (st := []) d_M_valueTo_6 mi_M_number ml_M_175 mv_M_number se_M_number rfl rfl rfl rfl (ks_M_0 hx) rfl rfl (kl_M_0 hx) rfl rfl (z_Omono h (fun r0 g0 _ h hro => ?_))
  have h := h (z_b01 hro)
  have hzr0 := z_b01 hro
  show z_U X 9 m_M_valueTo 9 [(0, (2, 0)), (1, (0, a1)), (2, (0, a2))] [(0, r0)] N σ g0 Q
  refine z_if_eq (tgt := 20) d_M_valueTo_9 (by decide) (fun c1 => ?_) (fun c1 => ?_)
  · have h := h.1 c1
    refine z_iconst (n := 0) d_M_valueTo_20 (by decide) ?_
    exact z_zret d_M_valueTo_21 rfl (by decide) (by decide) (by decide) ⟨rfl, rfl, h⟩
  · have h := h.2 c1
    refine z_aload_n (i := 0) (c := 0) 0 d_M_valueTo_12 rfl rfl rfl ?_
    refine z_iconst (n := 4) d_M_valueTo_13 (by decide) ?_
    refine z_cV (c := 0) (as := [(0, 4)]) (d' := 8) (st := []) d_M_valueTo_14 mi_M_wantWord ml_M_179 mv_M_wantWord se_M_wantWord rfl rfl rfl rfl (ks_M_0 hx) rfl rfl (kl_M_0 hx) rfl rfl (z_Omono h (fun r1 g1 _ h hro => ?_))
    have h := h (z_b01 hro)
    have hzr1 := z_b01 hro
    show z_U X 9 m_M_valueTo 17 [(0, (2, 0)), (1, (0, a1)), (2, (0, a2))] [(0, r1)] N σ g1 Q
    refine z_if_ne (tgt := 22) d_M_valueTo_17 (by decide) (fun c2 => ?_) (fun c2 => ?_)
    · have h := h.2 c2
      refine z_aload_n (i := 0) (c := 0) 0 d_M_valueTo_22 rfl rfl rfl ?_
      refine z_geti (c := 0) (kI := 11) d_M_valueTo_23 fd_M_token fl_M_132 (Or.inl rfl) rfl rfl (ks_M_0 hx) (kl_M_0 hx) ?_
      refine z_iconst (n := 3) d_M_valueTo_26 (by decide) ?_
      refine z_icmp_eq (tgt := 36) d_M_valueTo_27 (by decide) (fun c3 => ?_) (fun c3 => ?_)
      · have h := h.1 c3
        refine z_aload_n (i := 0) (c := 0) 0 d_M_valueTo_36 rfl rfl rfl ?_
        refine z_geti (c := 0) (kI := 14) d_M_valueTo_37 fd_M_value fl_M_129 (Or.inl rfl) rfl rfl (ks_M_0 hx) (kl_M_0 hx) ?_
        refine z_if_eq (tgt := 82) d_M_valueTo_40 (by decide) (fun c4 => ?_) (fun c4 => ?_)
        · have h := h.1 c4
          refine z_aload_n (i := 0) (c := 0) 0 d_M_valueTo_82 rfl rfl rfl ?_
          refine z_iconst (n := 4) d_M_valueTo_83 (by decide) ?_
          refine z_cV (c := 0) (as := [(0, 4)]) (d' := 1) (st := []) d_M_valueTo_84 mi_M_fails ml_M_166 mv_M_fails se_M_fails rfl rfl rfl rfl (ks_M_0 hx) rfl rfl (kl_M_0 hx) rfl rfl (z_Omono h (fun r2 g2 _ h hro => ?_))
          have h := h (z_b01 hro)
          have hzr2 := z_b01 hro
          show z_U X 9 m_M_valueTo 87 [(0, (2, 0)), (1, (0, a1)), (2, (0, a2))] [(0, r2)] N σ g2 Q
          exact z_zret d_M_valueTo_87 rfl (by decide) (by decide) hzr2 ⟨rfl, rfl, h⟩
        · have h := h.2 c4
          refine z_aload_n (i := 0) (c := 0) 0 d_M_valueTo_43 rfl rfl rfl ?_
          refine z_geti (c := 0) (kI := 14) d_M_valueTo_44 fd_M_value fl_M_129 (Or.inl rfl) rfl rfl (ks_M_0 hx) (kl_M_0 hx) ?_
          refine z_aload_n (i := 0) (c := 0) 0 d_M_valueTo_47 rfl rfl rfl ?_
          refine z_getr (c := 0) (kI := 0) (r2 := 1) d_M_valueTo_48 fd_M_at fl_M_7 rfl rfl rfl (ks_M_0 hx) (kl_M_0 hx) (kr_M_0_0 hx) ?_
          refine z_iload_n (i := 1) 1 d_M_valueTo_51 rfl rfl ?_
          obtain ⟨c5, h⟩ := h
          refine z_iald (c := 1) (m := 3296) d_M_valueTo_52 rfl (ks_M_1 hx) (kl_M_1 hx) rfl (by decide) c5 ?_
          refine z_icmp_lt (tgt := 82) d_M_valueTo_53 (by decide) (fun c6 => ?_) (fun c6 => ?_)
          · have h := h.1 c6
            refine z_aload_n (i := 0) (c := 0) 0 d_M_valueTo_82 rfl rfl rfl ?_
            refine z_iconst (n := 4) d_M_valueTo_83 (by decide) ?_
            refine z_cV (c := 0) (as := [(0, 4)]) (d' := 1) (st := []) d_M_valueTo_84 mi_M_fails ml_M_166 mv_M_fails se_M_fails rfl rfl rfl rfl (ks_M_0 hx) rfl rfl (kl_M_0 hx) rfl rfl (z_Omono h (fun r3 g3 _ h hro => ?_))
            have h := h (z_b01 hro)
            have hzr3 := z_b01 hro
            show z_U X 9 m_M_valueTo 87 [(0, (2, 0)), (1, (0, a1)), (2, (0, a2))] [(0, r3)] N σ g3 Q
            exact z_zret d_M_valueTo_87 rfl (by decide) (by decide) hzr3 ⟨rfl, rfl, h⟩
          · have h := h.2 c6
            refine z_iload_n (i := 2) 2 d_M_valueTo_56 rfl rfl ?_
            refine z_if_eq (tgt := 88) d_M_valueTo_57 (by decide) (fun c7 => ?_) (fun c7 => ?_)
            · have h := h.1 c7
              refine z_aload_n (i := 0) (c := 0) 0 d_M_valueTo_88 rfl rfl rfl ?_
              refine z_getr (c := 0) (kI := 0) (r2 := 1) d_M_valueTo_89 fd_M_at fl_M_7 rfl rfl rfl (ks_M_0 hx) (kl_M_0 hx) (kr_M_0_0 hx) ?_
              refine z_iload_n (i := 1) 1 d_M_valueTo_92 rfl rfl ?_
              refine z_iald (c := 1) (m := 3296) d_M_valueTo_93 rfl (ks_M_1 hx) (kl_M_1 hx) rfl (by decide) c5 ?_
              refine z_aload_n (i := 0) (c := 0) 0 d_M_valueTo_94 rfl rfl rfl ?_
              refine z_geti (c := 0) (kI := 14) d_M_valueTo_95 fd_M_value fl_M_129 (Or.inl rfl) rfl rfl (ks_M_0 hx) (kl_M_0 hx) ?_
              refine z_cS (as := [(0, g1 1 a1), (0, g1 0 14)]) (d' := 1) (st := []) d_M_valueTo_98 mi_M_common ml_M_182 ms_M_common rfl rfl rfl rfl rfl (z_Omono h (fun r4 g4 _ h hro => ?_))
              show z_U X 9 m_M_valueTo 101 [(0, (2, 0)), (1, (0, a1)), (2, (0, a2))] [(0, r4)] N σ g4 Q
              refine z_istore_n (i := 3) (ls' := [(3, (0, r4)), (0, (2, 0)), (1, (0, a1)), (2, (0, a2))]) d_M_valueTo_101 rfl rfl rfl ?_
              refine z_aload_n (i := 0) (c := 0) 1 d_M_valueTo_102 rfl rfl rfl ?_
              refine z_getr (c := 0) (kI := 0) (r2 := 1) d_M_valueTo_103 fd_M_at fl_M_7 rfl rfl rfl (ks_M_0 hx) (kl_M_0 hx) (kr_M_0_0 hx) ?_
              refine z_iload_n (i := 1) 2 d_M_valueTo_106 rfl rfl ?_
              refine z_dup2 d_M_valueTo_107 rfl rfl ?_
              refine z_iald (c := 1) (m := 3296) d_M_valueTo_108 rfl (ks_M_1 hx) (kl_M_1 hx) rfl (by decide) c5 ?_
              refine z_iload_n (i := 3) 0 d_M_valueTo_109 rfl rfl ?_
              obtain ⟨c8, h⟩ := h
              refine z_idiv d_M_valueTo_110 c8 ?_
              refine z_iast (c := 1) (m := 3296) d_M_valueTo_111 rfl (ks_M_1 hx) (kl_M_1 hx) rfl (by decide) c5 ?_
              refine z_aload_n (i := 0) (c := 0) 1 d_M_valueTo_112 rfl rfl rfl ?_
              refine z_getr (c := 0) (kI := 0) (r2 := 1) d_M_valueTo_113 fd_M_at fl_M_7 rfl rfl rfl (ks_M_0 hx) (kl_M_0 hx) (kr_M_0_0 hx) ?_
              refine z_iload_n (i := 1) 2 d_M_valueTo_116 rfl rfl ?_
              refine z_iconst (n := 1) d_M_valueTo_117 (by decide) ?_
              obtain ⟨c9, h⟩ := h
              refine z_iadd d_M_valueTo_118 c9 ?_
              refine z_aload_n (i := 0) (c := 0) 1 d_M_valueTo_119 rfl rfl rfl ?_
              refine z_geti (c := 0) (kI := 14) d_M_valueTo_120 fd_M_value fl_M_129 (Or.inl rfl) rfl rfl (ks_M_0 hx) (kl_M_0 hx) ?_
              refine z_ti (b := g4 0 14) (by simp [z_up]) ?_
              refine z_iload_n (i := 3) 0 d_M_valueTo_123 rfl rfl ?_
              refine z_idiv d_M_valueTo_124 c8 ?_
              obtain ⟨c10, h⟩ := h
              refine z_iast (c := 1) (m := 3296) d_M_valueTo_125 rfl (ks_M_1 hx) (kl_M_1 hx) rfl (by decide) c10 ?_
              refine z_iconst (n := 1) d_M_valueTo_126 (by decide) ?_
              exact z_zret d_M_valueTo_127 rfl (by decide) (by decide) (by decide) ⟨rfl, rfl, h⟩
            · have h := h.2 c7
              refine z_aload_n (i := 0) (c := 0) 0 d_M_valueTo_60 rfl rfl rfl ?_
              refine z_getr (c := 0) (kI := 0) (r2 := 1) d_M_valueTo_61 fd_M_at fl_M_7 rfl rfl rfl (ks_M_0 hx) (kl_M_0 hx) (kr_M_0_0 hx) ?_
              refine z_iload_n (i := 1) 1 d_M_valueTo_64 rfl rfl ?_
              refine z_iald (c := 1) (m := 3296) d_M_valueTo_65 rfl (ks_M_1 hx) (kl_M_1 hx) rfl (by decide) c5 ?_
              refine z_if_eq (tgt := 82) d_M_valueTo_66 (by decide) (fun c11 => ?_) (fun c11 => ?_)
              · have h := h.1 c11
                refine z_aload_n (i := 0) (c := 0) 0 d_M_valueTo_82 rfl rfl rfl ?_
                refine z_iconst (n := 4) d_M_valueTo_83 (by decide) ?_
                refine z_cV (c := 0) (as := [(0, 4)]) (d' := 1) (st := []) d_M_valueTo_84 mi_M_fails ml_M_166 mv_M_fails se_M_fails rfl rfl rfl rfl (ks_M_0 hx) rfl rfl (kl_M_0 hx) rfl rfl (z_Omono h (fun r5 g5 _ h hro => ?_))
                have h := h (z_b01 hro)
                have hzr5 := z_b01 hro
                show z_U X 9 m_M_valueTo 87 [(0, (2, 0)), (1, (0, a1)), (2, (0, a2))] [(0, r5)] N σ g5 Q
                exact z_zret d_M_valueTo_87 rfl (by decide) (by decide) hzr5 ⟨rfl, rfl, h⟩
              · have h := h.2 c11
                refine z_aload_n (i := 0) (c := 0) 0 d_M_valueTo_69 rfl rfl rfl ?_
                refine z_getr (c := 0) (kI := 0) (r2 := 1) d_M_valueTo_70 fd_M_at fl_M_7 rfl rfl rfl (ks_M_0 hx) (kl_M_0 hx) (kr_M_0_0 hx) ?_
                refine z_iload_n (i := 1) 1 d_M_valueTo_73 rfl rfl ?_
                refine z_iald (c := 1) (m := 3296) d_M_valueTo_74 rfl (ks_M_1 hx) (kl_M_1 hx) rfl (by decide) c5 ?_
                refine z_aload_n (i := 0) (c := 0) 0 d_M_valueTo_75 rfl rfl rfl ?_
                refine z_geti (c := 0) (kI := 14) d_M_valueTo_76 fd_M_value fl_M_129 (Or.inl rfl) rfl rfl (ks_M_0 hx) (kl_M_0 hx) ?_
                refine z_icmp_ne (tgt := 88) d_M_valueTo_79 (by decide) (fun c12 => ?_) (fun c12 => ?_)
                · have h := h.2 c12
                  refine z_aload_n (i := 0) (c := 0) 0 d_M_valueTo_88 rfl rfl rfl ?_
                  refine z_getr (c := 0) (kI := 0) (r2 := 1) d_M_valueTo_89 fd_M_at fl_M_7 rfl rfl rfl (ks_M_0 hx) (kl_M_0 hx) (kr_M_0_0 hx) ?_
                  refine z_iload_n (i := 1) 1 d_M_valueTo_92 rfl rfl ?_
                  refine z_iald (c := 1) (m := 3296) d_M_valueTo_93 rfl (ks_M_1 hx) (kl_M_1 hx) rfl (by decide) c5 ?_
                  refine z_aload_n (i := 0) (c := 0) 0 d_M_valueTo_94 rfl rfl rfl ?_
                  refine z_geti (c := 0) (kI := 14) d_M_valueTo_95 fd_M_value fl_M_129 (Or.inl rfl) rfl rfl (ks_M_0 hx) (kl_M_0 hx) ?_
                  refine z_cS (as := [(0, g1 1 a1), (0, g1 0 14)]) (d' := 1) (st := []) d_M_valueTo_98 mi_M_common ml_M_182 ms_M_common rfl rfl rfl rfl rfl (z_Omono h (fun r6 g6 _ h hro => ?_))
                  show z_U X 9 m_M_valueTo 101 [(0, (2, 0)), (1, (0, a1)), (2, (0, a2))] [(0, r6)] N σ g6 Q
                  refine z_istore_n (i := 3) (ls' := [(3, (0, r6)), (0, (2, 0)), (1, (0, a1)), (2, (0, a2))]) d_M_valueTo_101 rfl rfl rfl ?_
                  refine z_aload_n (i := 0) (c := 0) 1 d_M_valueTo_102 rfl rfl rfl ?_
                  refine z_getr (c := 0) (kI := 0) (r2 := 1) d_M_valueTo_103 fd_M_at fl_M_7 rfl rfl rfl (ks_M_0 hx) (kl_M_0 hx) (kr_M_0_0 hx) ?_
                  refine z_iload_n (i := 1) 2 d_M_valueTo_106 rfl rfl ?_
                  refine z_dup2 d_M_valueTo_107 rfl rfl ?_
                  refine z_iald (c := 1) (m := 3296) d_M_valueTo_108 rfl (ks_M_1 hx) (kl_M_1 hx) rfl (by decide) c5 ?_
                  refine z_iload_n (i := 3) 0 d_M_valueTo_109 rfl rfl ?_
                  obtain ⟨c13, h⟩ := h
                  refine z_idiv d_M_valueTo_110 c13 ?_
                  refine z_iast (c := 1) (m := 3296) d_M_valueTo_111 rfl (ks_M_1 hx) (kl_M_1 hx) rfl (by decide) c5 ?_
                  refine z_aload_n (i := 0) (c := 0) 1 d_M_valueTo_112 rfl rfl rfl ?_
                  refine z_getr (c := 0) (kI := 0) (r2 := 1) d_M_valueTo_113 fd_M_at fl_M_7 rfl rfl rfl (ks_M_0 hx) (kl_M_0 hx) (kr_M_0_0 hx) ?_
                  refine z_iload_n (i := 1) 2 d_M_valueTo_116 rfl rfl ?_
                  refine z_iconst (n := 1) d_M_valueTo_117 (by decide) ?_
                  obtain ⟨c14, h⟩ := h
                  refine z_iadd d_M_valueTo_118 c14 ?_
                  refine z_aload_n (i := 0) (c := 0) 1 d_M_valueTo_119 rfl rfl rfl ?_
                  refine z_geti (c := 0) (kI := 14) d_M_valueTo_120 fd_M_value fl_M_129 (Or.inl rfl) rfl rfl (ks_M_0 hx) (kl_M_0 hx) ?_
                  refine z_ti (b := g6 0 14) (by simp [z_up]) ?_
                  refine z_iload_n (i := 3) 0 d_M_valueTo_123 rfl rfl ?_
                  refine z_idiv d_M_valueTo_124 c13 ?_
                  obtain ⟨c15, h⟩ := h
                  refine z_iast (c := 1) (m := 3296) d_M_valueTo_125 rfl (ks_M_1 hx) (kl_M_1 hx) rfl (by decide) c15 ?_
                  refine z_iconst (n := 1) d_M_valueTo_126 (by decide) ?_
                  exact z_zret d_M_valueTo_127 rfl (by decide) (by decide) (by decide) ⟨rfl, rfl, h⟩
                · have h := h.1 c12
                  refine z_aload_n (i := 0) (c := 0) 0 d_M_valueTo_82 rfl rfl rfl ?_
                  refine z_iconst (n := 4) d_M_valueTo_83 (by decide) ?_
                  refine z_cV (c := 0) (as := [(0, 4)]) (d' := 1) (st := []) d_M_valueTo_84 mi_M_fails ml_M_166 mv_M_fails se_M_fails rfl rfl rfl rfl (ks_M_0 hx) rfl rfl (kl_M_0 hx) rfl rfl (z_Omono h (fun r7 g7 _ h hro => ?_))
                  have h := h (z_b01 hro)
                  have hzr7 := z_b01 hro
                  show z_U X 9 m_M_valueTo 87 [(0, (2, 0)), (1, (0, a1)), (2, (0, a2))] [(0, r7)] N σ g7 Q
                  exact z_zret d_M_valueTo_87 rfl (by decide) (by decide) hzr7 ⟨rfl, rfl, h⟩
      · have h := h.2 c3
        refine z_aload_n (i := 0) (c := 0) 0 d_M_valueTo_30 rfl rfl rfl ?_
        refine z_iconst (n := 2) d_M_valueTo_31 (by decide) ?_
        refine z_cV (c := 0) (as := [(0, 2)]) (d' := 1) (st := []) d_M_valueTo_32 mi_M_fails ml_M_166 mv_M_fails se_M_fails rfl rfl rfl rfl (ks_M_0 hx) rfl rfl (kl_M_0 hx) rfl rfl (z_Omono h (fun r8 g8 _ h hro => ?_))
        have h := h (z_b01 hro)
        have hzr8 := z_b01 hro
        show z_U X 9 m_M_valueTo 35 [(0, (2, 0)), (1, (0, a1)), (2, (0, a2))] [(0, r8)] N σ g8 Q
        exact z_zret d_M_valueTo_35 rfl (by decide) (by decide) hzr8 ⟨rfl, rfl, h⟩
    · have h := h.1 c2
      refine z_iconst (n := 0) d_M_valueTo_20 (by decide) ?_
      exact z_zret d_M_valueTo_21 rfl (by decide) (by decide) (by decide) ⟨rfl, rfl, h⟩
theorem d_M_aPin_0 : decode (z_c m_M_aPin) 0 = .ok (.sipush 2450, 3) := by decide +kernel
theorem d_M_aPin_3 : decode (z_c m_M_aPin) 3 = .ok (.iconst 3, 1) := by decide +kernel
theorem d_M_aPin_4 : decode (z_c m_M_aPin) 4 = .ok (.aload_n 0, 1) := by decide +kernel
theorem d_M_aPin_5 : decode (z_c m_M_aPin) 5 = .ok (.getfield 7, 3) := by decide +kernel
theorem d_M_aPin_8 : decode (z_c m_M_aPin) 8 = .ok (.sipush 2444, 3) := by decide +kernel
theorem d_M_aPin_11 : decode (z_c m_M_aPin) 11 = .ok (.iaload, 1) := by decide +kernel
theorem d_M_aPin_12 : decode (z_c m_M_aPin) 12 = .ok (.imul, 1) := by decide +kernel
theorem d_M_aPin_13 : decode (z_c m_M_aPin) 13 = .ok (.iadd, 1) := by decide +kernel
theorem d_M_aPin_14 : decode (z_c m_M_aPin) 14 = .ok (.istore_n 1, 1) := by decide +kernel
theorem d_M_aPin_15 : decode (z_c m_M_aPin) 15 = .ok (.aload_n 0, 1) := by decide +kernel
theorem d_M_aPin_16 : decode (z_c m_M_aPin) 16 = .ok (.getfield 7, 3) := by decide +kernel
theorem d_M_aPin_19 : decode (z_c m_M_aPin) 19 = .ok (.sipush 2444, 3) := by decide +kernel
theorem d_M_aPin_22 : decode (z_c m_M_aPin) 22 = .ok (.iaload, 1) := by decide +kernel
theorem d_M_aPin_23 : decode (z_c m_M_aPin) 23 = .ok (.bipush 12, 2) := by decide +kernel
theorem d_M_aPin_25 : decode (z_c m_M_aPin) 25 = .ok (.if_icmp .ne 10, 3) := by decide +kernel
theorem d_M_aPin_28 : decode (z_c m_M_aPin) 28 = .ok (.aload_n 0, 1) := by decide +kernel
theorem d_M_aPin_29 : decode (z_c m_M_aPin) 29 = .ok (.bipush 6, 2) := by decide +kernel
theorem d_M_aPin_31 : decode (z_c m_M_aPin) 31 = .ok (.invokevirtual 166, 3) := by decide +kernel
theorem d_M_aPin_34 : decode (z_c m_M_aPin) 34 = .ok (.ireturn, 1) := by decide +kernel
theorem d_M_aPin_35 : decode (z_c m_M_aPin) 35 = .ok (.aload_n 0, 1) := by decide +kernel
theorem d_M_aPin_36 : decode (z_c m_M_aPin) 36 = .ok (.invokevirtual 160, 3) := by decide +kernel
theorem d_M_aPin_39 : decode (z_c m_M_aPin) 39 = .ok (.aload_n 0, 1) := by decide +kernel
theorem d_M_aPin_40 : decode (z_c m_M_aPin) 40 = .ok (.iload_n 1, 1) := by decide +kernel
theorem d_M_aPin_41 : decode (z_c m_M_aPin) 41 = .ok (.iconst 0, 1) := by decide +kernel
theorem d_M_aPin_42 : decode (z_c m_M_aPin) 42 = .ok (.invokevirtual 185, 3) := by decide +kernel
theorem d_M_aPin_45 : decode (z_c m_M_aPin) 45 = .ok (.ifCond .ne 5, 3) := by decide +kernel
theorem d_M_aPin_48 : decode (z_c m_M_aPin) 48 = .ok (.iconst 0, 1) := by decide +kernel
theorem d_M_aPin_49 : decode (z_c m_M_aPin) 49 = .ok (.ireturn, 1) := by decide +kernel
theorem d_M_aPin_50 : decode (z_c m_M_aPin) 50 = .ok (.aload_n 0, 1) := by decide +kernel
theorem d_M_aPin_51 : decode (z_c m_M_aPin) 51 = .ok (.sipush 2440, 3) := by decide +kernel
theorem d_M_aPin_54 : decode (z_c m_M_aPin) 54 = .ok (.aload_n 0, 1) := by decide +kernel
theorem d_M_aPin_55 : decode (z_c m_M_aPin) 55 = .ok (.getfield 7, 3) := by decide +kernel
theorem d_M_aPin_58 : decode (z_c m_M_aPin) 58 = .ok (.iload_n 1, 1) := by decide +kernel
theorem d_M_aPin_59 : decode (z_c m_M_aPin) 59 = .ok (.iaload, 1) := by decide +kernel
theorem d_M_aPin_60 : decode (z_c m_M_aPin) 60 = .ok (.aload_n 0, 1) := by decide +kernel
theorem d_M_aPin_61 : decode (z_c m_M_aPin) 61 = .ok (.getfield 7, 3) := by decide +kernel
theorem d_M_aPin_64 : decode (z_c m_M_aPin) 64 = .ok (.iload_n 1, 1) := by decide +kernel
theorem d_M_aPin_65 : decode (z_c m_M_aPin) 65 = .ok (.iconst 1, 1) := by decide +kernel
theorem d_M_aPin_66 : decode (z_c m_M_aPin) 66 = .ok (.iadd, 1) := by decide +kernel
theorem d_M_aPin_67 : decode (z_c m_M_aPin) 67 = .ok (.iaload, 1) := by decide +kernel
theorem d_M_aPin_68 : decode (z_c m_M_aPin) 68 = .ok (.invokevirtual 189, 3) := by decide +kernel
theorem d_M_aPin_71 : decode (z_c m_M_aPin) 71 = .ok (.iconst (-1), 1) := by decide +kernel
theorem d_M_aPin_72 : decode (z_c m_M_aPin) 72 = .ok (.if_icmp .eq 9, 3) := by decide +kernel
theorem d_M_aPin_75 : decode (z_c m_M_aPin) 75 = .ok (.aload_n 0, 1) := by decide +kernel
theorem d_M_aPin_76 : decode (z_c m_M_aPin) 76 = .ok (.iconst 5, 1) := by decide +kernel
theorem d_M_aPin_77 : decode (z_c m_M_aPin) 77 = .ok (.invokevirtual 166, 3) := by decide +kernel
theorem d_M_aPin_80 : decode (z_c m_M_aPin) 80 = .ok (.ireturn, 1) := by decide +kernel
theorem d_M_aPin_81 : decode (z_c m_M_aPin) 81 = .ok (.aload_n 0, 1) := by decide +kernel
theorem d_M_aPin_82 : decode (z_c m_M_aPin) 82 = .ok (.getfield 7, 3) := by decide +kernel
theorem d_M_aPin_85 : decode (z_c m_M_aPin) 85 = .ok (.iload_n 1, 1) := by decide +kernel
theorem d_M_aPin_86 : decode (z_c m_M_aPin) 86 = .ok (.iconst 2, 1) := by decide +kernel
theorem d_M_aPin_87 : decode (z_c m_M_aPin) 87 = .ok (.iadd, 1) := by decide +kernel
theorem d_M_aPin_88 : decode (z_c m_M_aPin) 88 = .ok (.iconst 1, 1) := by decide +kernel
theorem d_M_aPin_89 : decode (z_c m_M_aPin) 89 = .ok (.iastore, 1) := by decide +kernel
theorem d_M_aPin_90 : decode (z_c m_M_aPin) 90 = .ok (.aload_n 0, 1) := by decide +kernel
theorem d_M_aPin_91 : decode (z_c m_M_aPin) 91 = .ok (.getfield 7, 3) := by decide +kernel
theorem d_M_aPin_94 : decode (z_c m_M_aPin) 94 = .ok (.sipush 2444, 3) := by decide +kernel
theorem d_M_aPin_97 : decode (z_c m_M_aPin) 97 = .ok (.dup2, 1) := by decide +kernel
theorem d_M_aPin_98 : decode (z_c m_M_aPin) 98 = .ok (.iaload, 1) := by decide +kernel
theorem d_M_aPin_99 : decode (z_c m_M_aPin) 99 = .ok (.iconst 1, 1) := by decide +kernel
theorem d_M_aPin_100 : decode (z_c m_M_aPin) 100 = .ok (.iadd, 1) := by decide +kernel
theorem d_M_aPin_101 : decode (z_c m_M_aPin) 101 = .ok (.iastore, 1) := by decide +kernel
theorem d_M_aPin_102 : decode (z_c m_M_aPin) 102 = .ok (.aload_n 0, 1) := by decide +kernel
theorem d_M_aPin_103 : decode (z_c m_M_aPin) 103 = .ok (.invokevirtual 160, 3) := by decide +kernel
theorem d_M_aPin_106 : decode (z_c m_M_aPin) 106 = .ok (.aload_n 0, 1) := by decide +kernel
theorem d_M_aPin_107 : decode (z_c m_M_aPin) 107 = .ok (.ldc 169, 2) := by decide +kernel
theorem d_M_aPin_109 : decode (z_c m_M_aPin) 109 = .ok (.invokevirtual 171, 3) := by decide +kernel
theorem d_M_aPin_112 : decode (z_c m_M_aPin) 112 = .ok (.iconst 5, 1) := by decide +kernel
theorem d_M_aPin_113 : decode (z_c m_M_aPin) 113 = .ok (.if_icmp .eq 5, 3) := by decide +kernel
theorem d_M_aPin_116 : decode (z_c m_M_aPin) 116 = .ok (.iconst 1, 1) := by decide +kernel
theorem d_M_aPin_117 : decode (z_c m_M_aPin) 117 = .ok (.ireturn, 1) := by decide +kernel
theorem d_M_aPin_118 : decode (z_c m_M_aPin) 118 = .ok (.aload_n 0, 1) := by decide +kernel
theorem d_M_aPin_119 : decode (z_c m_M_aPin) 119 = .ok (.invokevirtual 160, 3) := by decide +kernel
theorem d_M_aPin_122 : decode (z_c m_M_aPin) 122 = .ok (.aload_n 0, 1) := by decide +kernel
theorem d_M_aPin_123 : decode (z_c m_M_aPin) 123 = .ok (.iload_n 1, 1) := by decide +kernel
theorem d_M_aPin_124 : decode (z_c m_M_aPin) 124 = .ok (.iconst 2, 1) := by decide +kernel
theorem d_M_aPin_125 : decode (z_c m_M_aPin) 125 = .ok (.iadd, 1) := by decide +kernel
theorem d_M_aPin_126 : decode (z_c m_M_aPin) 126 = .ok (.iconst 1, 1) := by decide +kernel
theorem d_M_aPin_127 : decode (z_c m_M_aPin) 127 = .ok (.bipush 99, 2) := by decide +kernel
theorem d_M_aPin_129 : decode (z_c m_M_aPin) 129 = .ok (.invokevirtual 175, 3) := by decide +kernel
theorem d_M_aPin_132 : decode (z_c m_M_aPin) 132 = .ok (.ireturn, 1) := by decide +kernel
set_option maxRecDepth 8000 in
theorem b_M_aPin_0 {X : z_X} {N : Nat} {σ g : z_G} {Q : z_P} (hx : z_lay X N σ 0 z_SM z_RM) (h : (-2147483648 ≤ (3 * (g 1 2444)) ∧ (3 * (g 1 2444)) ≤ 2147483647) ∧ ((-2147483648 ≤ (2450 + (3 * (g 1 2444))) ∧ (2450 + (3 * (g 1 2444))) ≤ 2147483647) ∧ ((((g 1 2444) = 12) → (z_O X 1 m_M_fails [(2, 0), (0, 6)] N σ g (fun r8 g8 => (r8 = 0 ∨ r8 = 1) → Q r8 g8))) ∧ (¬ ((g 1 2444) = 12) → (z_O X 2 m_M_nextToken [(2, 0)] N σ g (fun r0 g0 => (z_O X 9 m_M_valueTo [(2, 0), (0, 2450 + (3 * (g 1 2444))), (0, 0)] N σ g0 (fun r1 g1 => (r1 = 0 ∨ r1 = 1) → (((r1 = 0) → Q 0 g1) ∧ (¬ (r1 = 0) → ((0 ≤ (2450 + (3 * (g 1 2444))) ∧ (2450 + (3 * (g 1 2444))) < 3296) ∧ ((-2147483648 ≤ ((2450 + (3 * (g 1 2444))) + 1) ∧ ((2450 + (3 * (g 1 2444))) + 1) ≤ 2147483647) ∧ ((0 ≤ ((2450 + (3 * (g 1 2444))) + 1) ∧ ((2450 + (3 * (g 1 2444))) + 1) < 3296) ∧ (z_O X 1 m_M_findPin [(2, 0), (0, 2440), (0, g1 1 (2450 + (3 * (g 1 2444)))), (0, g1 1 ((2450 + (3 * (g 1 2444))) + 1))] N σ g1 (fun r2 g2 => (((r2 = (-1)) → ((-2147483648 ≤ ((2450 + (3 * (g 1 2444))) + 2) ∧ ((2450 + (3 * (g 1 2444))) + 2) ≤ 2147483647) ∧ ((0 ≤ ((2450 + (3 * (g 1 2444))) + 2) ∧ ((2450 + (3 * (g 1 2444))) + 2) < 3296) ∧ ((-2147483648 ≤ (((z_up g2 1 ((2450 + (3 * (g 1 2444))) + 2) 1) 1 2444) + 1) ∧ (((z_up g2 1 ((2450 + (3 * (g 1 2444))) + 2) 1) 1 2444) + 1) ≤ 2147483647) ∧ (z_O X 2 m_M_nextToken [(2, 0)] N σ (z_up (z_up g2 1 ((2450 + (3 * (g 1 2444))) + 2) 1) 1 2444 (((z_up g2 1 ((2450 + (3 * (g 1 2444))) + 2) 1) 1 2444) + 1)) (fun r3 g3 => (z_O X 7 m_M_inWords [(2, 0), (4, 20)] N σ g3 (fun r4 g4 => (((r4 = 5) → (z_O X 2 m_M_nextToken [(2, 0)] N σ g4 (fun r5 g5 => (z_O X 3 m_M_number [(2, 0), (0, (2450 + (3 * (g 1 2444))) + 2), (0, 1), (0, 99)] N σ g5 (fun r6 g6 => (r6 = 0 ∨ r6 = 1) → Q r6 g6))))) ∧ (¬ (r4 = 5) → Q 1 g4)))))))))) ∧ (¬ (r2 = (-1)) → (z_O X 1 m_M_fails [(2, 0), (0, 5)] N σ g2 (fun r7 g7 => (r7 = 0 ∨ r7 = 1) → Q r7 g7))))))))))))))))))) : z_O X 10 m_M_aPin [(2, 0)] N σ g Q := by
  refine z_Oenter mi_M_aPin rfl (fun _ => ?_)
  show z_U X 10 m_M_aPin 0 [(0, (2, 0))] [] N σ g Q
  refine z_sipush (n := 2450) d_M_aPin_0 (by decide) (by decide) ?_
  refine z_iconst (n := 3) d_M_aPin_3 (by decide) ?_
  refine z_aload_n (i := 0) (c := 0) 0 d_M_aPin_4 rfl rfl rfl ?_
  refine z_getr (c := 0) (kI := 0) (r2 := 1) d_M_aPin_5 fd_M_at fl_M_7 rfl rfl rfl (ks_M_0 hx) (kl_M_0 hx) (kr_M_0_0 hx) ?_
  refine z_sipush (n := 2444) d_M_aPin_8 (by decide) (by decide) ?_
  refine z_iald (c := 1) (m := 3296) d_M_aPin_11 rfl (ks_M_1 hx) (kl_M_1 hx) rfl (by decide) (by decide) ?_
  obtain ⟨c1, h⟩ := h
  refine z_imul d_M_aPin_12 c1 ?_
  obtain ⟨c2, h⟩ := h
  refine z_iadd d_M_aPin_13 c2 ?_
  refine z_istore_n (i := 1) (ls' := [(1, (0, 2450 + (3 * (g 1 2444)))), (0, (2, 0))]) d_M_aPin_14 rfl rfl rfl ?_
  refine z_aload_n (i := 0) (c := 0) 1 d_M_aPin_15 rfl rfl rfl ?_
  refine z_getr (c := 0) (kI := 0) (r2 := 1) d_M_aPin_16 fd_M_at fl_M_7 rfl rfl rfl (ks_M_0 hx) (kl_M_0 hx) (kr_M_0_0 hx) ?_
  refine z_sipush (n := 2444) d_M_aPin_19 (by decide) (by decide) ?_
  refine z_iald (c := 1) (m := 3296) d_M_aPin_22 rfl (ks_M_1 hx) (kl_M_1 hx) rfl (by decide) (by decide) ?_
  refine z_bipush (n := 12) d_M_aPin_23 (by decide) (by decide) ?_
  refine z_icmp_ne (tgt := 35) d_M_aPin_25 (by decide) (fun c3 => ?_) (fun c3 => ?_)
  · have h := h.2 c3
    refine z_aload_n (i := 0) (c := 0) 1 d_M_aPin_35 rfl rfl rfl ?_
    refine z_cV (c := 0) (as := []) (d' := 2) (st := []) d_M_aPin_36 mi_M_nextToken ml_M_160 mv_M_nextToken se_M_nextToken rfl rfl rfl rfl (ks_M_0 hx) rfl rfl (kl_M_0 hx) rfl rfl (z_Omono h (fun r0 g0 _ h hro => ?_))
    show z_U X 10 m_M_aPin 39 [(1, (0, 2450 + (3 * (g 1 2444)))), (0, (2, 0))] [] N σ g0 Q
    refine z_aload_n (i := 0) (c := 0) 1 d_M_aPin_39 rfl rfl rfl ?_
    refine z_iload_n (i := 1) 0 d_M_aPin_40 rfl rfl ?_
    refine z_iconst (n := 0) d_M_aPin_41 (by decide) ?_
    refine z_cV (c := 0) (as := [(0, 2450 + (3 * (g 1 2444))), (0, 0)]) (d' := 9) (st := []) d_M_aPin_42 mi_M_valueTo ml_M_185 mv_M_valueTo se_M_valueTo rfl rfl rfl rfl (ks_M_0 hx) rfl rfl (kl_M_0 hx) rfl rfl (z_Omono h (fun r1 g1 _ h hro => ?_))
    have h := h (z_b01 hro)
    have hzr1 := z_b01 hro
    show z_U X 10 m_M_aPin 45 [(1, (0, 2450 + (3 * (g 1 2444)))), (0, (2, 0))] [(0, r1)] N σ g1 Q
    refine z_if_ne (tgt := 50) d_M_aPin_45 (by decide) (fun c4 => ?_) (fun c4 => ?_)
    · have h := h.2 c4
      refine z_aload_n (i := 0) (c := 0) 1 d_M_aPin_50 rfl rfl rfl ?_
      refine z_sipush (n := 2440) d_M_aPin_51 (by decide) (by decide) ?_
      refine z_aload_n (i := 0) (c := 0) 1 d_M_aPin_54 rfl rfl rfl ?_
      refine z_getr (c := 0) (kI := 0) (r2 := 1) d_M_aPin_55 fd_M_at fl_M_7 rfl rfl rfl (ks_M_0 hx) (kl_M_0 hx) (kr_M_0_0 hx) ?_
      refine z_iload_n (i := 1) 0 d_M_aPin_58 rfl rfl ?_
      obtain ⟨c5, h⟩ := h
      refine z_iald (c := 1) (m := 3296) d_M_aPin_59 rfl (ks_M_1 hx) (kl_M_1 hx) rfl (by decide) c5 ?_
      refine z_aload_n (i := 0) (c := 0) 1 d_M_aPin_60 rfl rfl rfl ?_
      refine z_getr (c := 0) (kI := 0) (r2 := 1) d_M_aPin_61 fd_M_at fl_M_7 rfl rfl rfl (ks_M_0 hx) (kl_M_0 hx) (kr_M_0_0 hx) ?_
      refine z_iload_n (i := 1) 0 d_M_aPin_64 rfl rfl ?_
      refine z_iconst (n := 1) d_M_aPin_65 (by decide) ?_
      obtain ⟨c6, h⟩ := h
      refine z_iadd d_M_aPin_66 c6 ?_
      obtain ⟨c7, h⟩ := h
      refine z_iald (c := 1) (m := 3296) d_M_aPin_67 rfl (ks_M_1 hx) (kl_M_1 hx) rfl (by decide) c7 ?_
      refine z_cV (c := 0) (as := [(0, 2440), (0, g1 1 (2450 + (3 * (g 1 2444)))), (0, g1 1 ((2450 + (3 * (g 1 2444))) + 1))]) (d' := 1) (st := []) d_M_aPin_68 mi_M_findPin ml_M_189 mv_M_findPin se_M_findPin rfl rfl rfl rfl (ks_M_0 hx) rfl rfl (kl_M_0 hx) rfl rfl (z_Omono h (fun r2 g2 _ h hro => ?_))
      show z_U X 10 m_M_aPin 71 [(1, (0, 2450 + (3 * (g 1 2444)))), (0, (2, 0))] [(0, r2)] N σ g2 Q
      refine z_iconst (n := (-1)) d_M_aPin_71 (by decide) ?_
      refine z_icmp_eq (tgt := 81) d_M_aPin_72 (by decide) (fun c8 => ?_) (fun c8 => ?_)
      · have h := h.1 c8
        refine z_aload_n (i := 0) (c := 0) 1 d_M_aPin_81 rfl rfl rfl ?_
        refine z_getr (c := 0) (kI := 0) (r2 := 1) d_M_aPin_82 fd_M_at fl_M_7 rfl rfl rfl (ks_M_0 hx) (kl_M_0 hx) (kr_M_0_0 hx) ?_
        refine z_iload_n (i := 1) 0 d_M_aPin_85 rfl rfl ?_
        refine z_iconst (n := 2) d_M_aPin_86 (by decide) ?_
        obtain ⟨c9, h⟩ := h
        refine z_iadd d_M_aPin_87 c9 ?_
        refine z_iconst (n := 1) d_M_aPin_88 (by decide) ?_
        obtain ⟨c10, h⟩ := h
        refine z_iast (c := 1) (m := 3296) d_M_aPin_89 rfl (ks_M_1 hx) (kl_M_1 hx) rfl (by decide) c10 ?_
        refine z_aload_n (i := 0) (c := 0) 1 d_M_aPin_90 rfl rfl rfl ?_
        refine z_getr (c := 0) (kI := 0) (r2 := 1) d_M_aPin_91 fd_M_at fl_M_7 rfl rfl rfl (ks_M_0 hx) (kl_M_0 hx) (kr_M_0_0 hx) ?_
        refine z_sipush (n := 2444) d_M_aPin_94 (by decide) (by decide) ?_
        refine z_dup2 d_M_aPin_97 rfl rfl ?_
        refine z_iald (c := 1) (m := 3296) d_M_aPin_98 rfl (ks_M_1 hx) (kl_M_1 hx) rfl (by decide) (by decide) ?_
        refine z_iconst (n := 1) d_M_aPin_99 (by decide) ?_
        obtain ⟨c11, h⟩ := h
        refine z_iadd d_M_aPin_100 c11 ?_
        refine z_iast (c := 1) (m := 3296) d_M_aPin_101 rfl (ks_M_1 hx) (kl_M_1 hx) rfl (by decide) (by decide) ?_
        refine z_aload_n (i := 0) (c := 0) 1 d_M_aPin_102 rfl rfl rfl ?_
        refine z_cV (c := 0) (as := []) (d' := 2) (st := []) d_M_aPin_103 mi_M_nextToken ml_M_160 mv_M_nextToken se_M_nextToken rfl rfl rfl rfl (ks_M_0 hx) rfl rfl (kl_M_0 hx) rfl rfl (z_Omono h (fun r3 g3 _ h hro => ?_))
        show z_U X 10 m_M_aPin 106 [(1, (0, 2450 + (3 * (g 1 2444)))), (0, (2, 0))] [] N σ g3 Q
        refine z_aload_n (i := 0) (c := 0) 1 d_M_aPin_106 rfl rfl rfl ?_
        refine z_ldcs (q := ("FareyRankModel", 169, 20)) d_M_aPin_107 (List.mem_of_getElem? (i := 23) rfl) rfl rfl rfl ?_
        refine z_cV (c := 0) (as := [(4, 20)]) (d' := 7) (st := []) d_M_aPin_109 mi_M_inWords ml_M_171 mv_M_inWords se_M_inWords rfl rfl rfl rfl (ks_M_0 hx) rfl rfl (kl_M_0 hx) rfl rfl (z_Omono h (fun r4 g4 _ h hro => ?_))
        show z_U X 10 m_M_aPin 112 [(1, (0, 2450 + (3 * (g 1 2444)))), (0, (2, 0))] [(0, r4)] N σ g4 Q
        refine z_iconst (n := 5) d_M_aPin_112 (by decide) ?_
        refine z_icmp_eq (tgt := 118) d_M_aPin_113 (by decide) (fun c12 => ?_) (fun c12 => ?_)
        · have h := h.1 c12
          refine z_aload_n (i := 0) (c := 0) 1 d_M_aPin_118 rfl rfl rfl ?_
          refine z_cV (c := 0) (as := []) (d' := 2) (st := []) d_M_aPin_119 mi_M_nextToken ml_M_160 mv_M_nextToken se_M_nextToken rfl rfl rfl rfl (ks_M_0 hx) rfl rfl (kl_M_0 hx) rfl rfl (z_Omono h (fun r5 g5 _ h hro => ?_))
          show z_U X 10 m_M_aPin 122 [(1, (0, 2450 + (3 * (g 1 2444)))), (0, (2, 0))] [] N σ g5 Q
          refine z_aload_n (i := 0) (c := 0) 1 d_M_aPin_122 rfl rfl rfl ?_
          refine z_iload_n (i := 1) 0 d_M_aPin_123 rfl rfl ?_
          refine z_iconst (n := 2) d_M_aPin_124 (by decide) ?_
          refine z_iadd d_M_aPin_125 c9 ?_
          refine z_iconst (n := 1) d_M_aPin_126 (by decide) ?_
          refine z_bipush (n := 99) d_M_aPin_127 (by decide) (by decide) ?_
          refine z_cV (c := 0) (as := [(0, (2450 + (3 * (g 1 2444))) + 2), (0, 1), (0, 99)]) (d' := 3) (st := []) d_M_aPin_129 mi_M_number ml_M_175 mv_M_number se_M_number rfl rfl rfl rfl (ks_M_0 hx) rfl rfl (kl_M_0 hx) rfl rfl (z_Omono h (fun r6 g6 _ h hro => ?_))
          have h := h (z_b01 hro)
          have hzr6 := z_b01 hro
          show z_U X 10 m_M_aPin 132 [(1, (0, 2450 + (3 * (g 1 2444)))), (0, (2, 0))] [(0, r6)] N σ g6 Q
          exact z_zret d_M_aPin_132 rfl (by decide) (by decide) hzr6 ⟨rfl, rfl, h⟩
        · have h := h.2 c12
          refine z_iconst (n := 1) d_M_aPin_116 (by decide) ?_
          exact z_zret d_M_aPin_117 rfl (by decide) (by decide) (by decide) ⟨rfl, rfl, h⟩
      · have h := h.2 c8
        refine z_aload_n (i := 0) (c := 0) 1 d_M_aPin_75 rfl rfl rfl ?_
        refine z_iconst (n := 5) d_M_aPin_76 (by decide) ?_
        refine z_cV (c := 0) (as := [(0, 5)]) (d' := 1) (st := []) d_M_aPin_77 mi_M_fails ml_M_166 mv_M_fails se_M_fails rfl rfl rfl rfl (ks_M_0 hx) rfl rfl (kl_M_0 hx) rfl rfl (z_Omono h (fun r7 g7 _ h hro => ?_))
        have h := h (z_b01 hro)
        have hzr7 := z_b01 hro
        show z_U X 10 m_M_aPin 80 [(1, (0, 2450 + (3 * (g 1 2444)))), (0, (2, 0))] [(0, r7)] N σ g7 Q
        exact z_zret d_M_aPin_80 rfl (by decide) (by decide) hzr7 ⟨rfl, rfl, h⟩
    · have h := h.1 c4
      refine z_iconst (n := 0) d_M_aPin_48 (by decide) ?_
      exact z_zret d_M_aPin_49 rfl (by decide) (by decide) (by decide) ⟨rfl, rfl, h⟩
  · have h := h.1 c3
    refine z_aload_n (i := 0) (c := 0) 1 d_M_aPin_28 rfl rfl rfl ?_
    refine z_bipush (n := 6) d_M_aPin_29 (by decide) (by decide) ?_
    refine z_cV (c := 0) (as := [(0, 6)]) (d' := 1) (st := []) d_M_aPin_31 mi_M_fails ml_M_166 mv_M_fails se_M_fails rfl rfl rfl rfl (ks_M_0 hx) rfl rfl (kl_M_0 hx) rfl rfl (z_Omono h (fun r8 g8 _ h hro => ?_))
    have h := h (z_b01 hro)
    have hzr8 := z_b01 hro
    show z_U X 10 m_M_aPin 34 [(1, (0, 2450 + (3 * (g 1 2444)))), (0, (2, 0))] [(0, r8)] N σ g8 Q
    exact z_zret d_M_aPin_34 rfl (by decide) (by decide) hzr8 ⟨rfl, rfl, h⟩
theorem d_M_aPlace_0 : decode (z_c m_M_aPlace) 0 = .ok (.aload_n 0, 1) := by decide +kernel
theorem d_M_aPlace_1 : decode (z_c m_M_aPlace) 1 = .ok (.sipush 2442, 3) := by decide +kernel
theorem d_M_aPlace_4 : decode (z_c m_M_aPlace) 4 = .ok (.iconst 1, 1) := by decide +kernel
theorem d_M_aPlace_5 : decode (z_c m_M_aPlace) 5 = .ok (.invokevirtual 185, 3) := by decide +kernel
theorem d_M_aPlace_8 : decode (z_c m_M_aPlace) 8 = .ok (.ifCond .ne 5, 3) := by decide +kernel
theorem d_M_aPlace_11 : decode (z_c m_M_aPlace) 11 = .ok (.iconst 0, 1) := by decide +kernel
theorem d_M_aPlace_12 : decode (z_c m_M_aPlace) 12 = .ok (.ireturn, 1) := by decide +kernel
theorem d_M_aPlace_13 : decode (z_c m_M_aPlace) 13 = .ok (.aload_n 0, 1) := by decide +kernel
theorem d_M_aPlace_14 : decode (z_c m_M_aPlace) 14 = .ok (.invokevirtual 160, 3) := by decide +kernel
theorem d_M_aPlace_17 : decode (z_c m_M_aPlace) 17 = .ok (.iconst 1, 1) := by decide +kernel
theorem d_M_aPlace_18 : decode (z_c m_M_aPlace) 18 = .ok (.ireturn, 1) := by decide +kernel
set_option maxRecDepth 8000 in
theorem b_M_aPlace_0 {X : z_X} {N : Nat} {σ g : z_G} {Q : z_P} (hx : z_lay X N σ 0 z_SM z_RM) (h : z_O X 9 m_M_valueTo [(2, 0), (0, 2442), (0, 1)] N σ g (fun r0 g0 => (r0 = 0 ∨ r0 = 1) → (((r0 = 0) → Q 0 g0) ∧ (¬ (r0 = 0) → (z_O X 2 m_M_nextToken [(2, 0)] N σ g0 (fun r1 g1 => Q 1 g1)))))) : z_O X 10 m_M_aPlace [(2, 0)] N σ g Q := by
  refine z_Oenter mi_M_aPlace rfl (fun _ => ?_)
  show z_U X 10 m_M_aPlace 0 [(0, (2, 0))] [] N σ g Q
  refine z_aload_n (i := 0) (c := 0) 0 d_M_aPlace_0 rfl rfl rfl ?_
  refine z_sipush (n := 2442) d_M_aPlace_1 (by decide) (by decide) ?_
  refine z_iconst (n := 1) d_M_aPlace_4 (by decide) ?_
  refine z_cV (c := 0) (as := [(0, 2442), (0, 1)]) (d' := 9) (st := []) d_M_aPlace_5 mi_M_valueTo ml_M_185 mv_M_valueTo se_M_valueTo rfl rfl rfl rfl (ks_M_0 hx) rfl rfl (kl_M_0 hx) rfl rfl (z_Omono h (fun r0 g0 _ h hro => ?_))
  have h := h (z_b01 hro)
  have hzr0 := z_b01 hro
  show z_U X 10 m_M_aPlace 8 [(0, (2, 0))] [(0, r0)] N σ g0 Q
  refine z_if_ne (tgt := 13) d_M_aPlace_8 (by decide) (fun c1 => ?_) (fun c1 => ?_)
  · have h := h.2 c1
    refine z_aload_n (i := 0) (c := 0) 0 d_M_aPlace_13 rfl rfl rfl ?_
    refine z_cV (c := 0) (as := []) (d' := 2) (st := []) d_M_aPlace_14 mi_M_nextToken ml_M_160 mv_M_nextToken se_M_nextToken rfl rfl rfl rfl (ks_M_0 hx) rfl rfl (kl_M_0 hx) rfl rfl (z_Omono h (fun r1 g1 _ h hro => ?_))
    show z_U X 10 m_M_aPlace 17 [(0, (2, 0))] [] N σ g1 Q
    refine z_iconst (n := 1) d_M_aPlace_17 (by decide) ?_
    exact z_zret d_M_aPlace_18 rfl (by decide) (by decide) (by decide) ⟨rfl, rfl, h⟩
  · have h := h.1 c1
    refine z_iconst (n := 0) d_M_aPlace_11 (by decide) ?_
    exact z_zret d_M_aPlace_12 rfl (by decide) (by decide) (by decide) ⟨rfl, rfl, h⟩
theorem d_M_test_0 : decode (z_c m_M_test) 0 = .ok (.aload_n 0, 1) := by decide +kernel
theorem d_M_test_1 : decode (z_c m_M_test) 1 = .ok (.ldc 169, 2) := by decide +kernel
theorem d_M_test_3 : decode (z_c m_M_test) 3 = .ok (.invokevirtual 171, 3) := by decide +kernel
theorem d_M_test_6 : decode (z_c m_M_test) 6 = .ok (.istore_n 2, 1) := by decide +kernel
theorem d_M_test_7 : decode (z_c m_M_test) 7 = .ok (.iload_n 2, 1) := by decide +kernel
theorem d_M_test_8 : decode (z_c m_M_test) 8 = .ok (.bipush 16, 2) := by decide +kernel
theorem d_M_test_10 : decode (z_c m_M_test) 10 = .ok (.if_icmp .ge 9, 3) := by decide +kernel
theorem d_M_test_13 : decode (z_c m_M_test) 13 = .ok (.aload_n 0, 1) := by decide +kernel
theorem d_M_test_14 : decode (z_c m_M_test) 14 = .ok (.iconst 2, 1) := by decide +kernel
theorem d_M_test_15 : decode (z_c m_M_test) 15 = .ok (.invokevirtual 166, 3) := by decide +kernel
theorem d_M_test_18 : decode (z_c m_M_test) 18 = .ok (.ireturn, 1) := by decide +kernel
theorem d_M_test_19 : decode (z_c m_M_test) 19 = .ok (.aload_n 0, 1) := by decide +kernel
theorem d_M_test_20 : decode (z_c m_M_test) 20 = .ok (.getfield 7, 3) := by decide +kernel
theorem d_M_test_23 : decode (z_c m_M_test) 23 = .ok (.iload_n 1, 1) := by decide +kernel
theorem d_M_test_24 : decode (z_c m_M_test) 24 = .ok (.sipush 1200, 3) := by decide +kernel
theorem d_M_test_27 : decode (z_c m_M_test) 27 = .ok (.iload_n 2, 1) := by decide +kernel
theorem d_M_test_28 : decode (z_c m_M_test) 28 = .ok (.iadd, 1) := by decide +kernel
theorem d_M_test_29 : decode (z_c m_M_test) 29 = .ok (.iastore, 1) := by decide +kernel
theorem d_M_test_30 : decode (z_c m_M_test) 30 = .ok (.aload_n 0, 1) := by decide +kernel
theorem d_M_test_31 : decode (z_c m_M_test) 31 = .ok (.invokevirtual 160, 3) := by decide +kernel
theorem d_M_test_34 : decode (z_c m_M_test) 34 = .ok (.iload_n 2, 1) := by decide +kernel
theorem d_M_test_35 : decode (z_c m_M_test) 35 = .ok (.bipush 17, 2) := by decide +kernel
theorem d_M_test_37 : decode (z_c m_M_test) 37 = .ok (.if_icmp .ne 5, 3) := by decide +kernel
theorem d_M_test_40 : decode (z_c m_M_test) 40 = .ok (.iconst 1, 1) := by decide +kernel
theorem d_M_test_41 : decode (z_c m_M_test) 41 = .ok (.ireturn, 1) := by decide +kernel
theorem d_M_test_42 : decode (z_c m_M_test) 42 = .ok (.iload_n 2, 1) := by decide +kernel
theorem d_M_test_43 : decode (z_c m_M_test) 43 = .ok (.bipush 16, 2) := by decide +kernel
theorem d_M_test_45 : decode (z_c m_M_test) 45 = .ok (.if_icmp .ne 22, 3) := by decide +kernel
theorem d_M_test_48 : decode (z_c m_M_test) 48 = .ok (.aload_n 0, 1) := by decide +kernel
theorem d_M_test_49 : decode (z_c m_M_test) 49 = .ok (.iload_n 1, 1) := by decide +kernel
theorem d_M_test_50 : decode (z_c m_M_test) 50 = .ok (.iconst 1, 1) := by decide +kernel
theorem d_M_test_51 : decode (z_c m_M_test) 51 = .ok (.iadd, 1) := by decide +kernel
theorem d_M_test_52 : decode (z_c m_M_test) 52 = .ok (.iconst 0, 1) := by decide +kernel
theorem d_M_test_53 : decode (z_c m_M_test) 53 = .ok (.invokevirtual 185, 3) := by decide +kernel
theorem d_M_test_56 : decode (z_c m_M_test) 56 = .ok (.ifCond .ne 5, 3) := by decide +kernel
theorem d_M_test_59 : decode (z_c m_M_test) 59 = .ok (.iconst 0, 1) := by decide +kernel
theorem d_M_test_60 : decode (z_c m_M_test) 60 = .ok (.ireturn, 1) := by decide +kernel
theorem d_M_test_61 : decode (z_c m_M_test) 61 = .ok (.aload_n 0, 1) := by decide +kernel
theorem d_M_test_62 : decode (z_c m_M_test) 62 = .ok (.invokevirtual 160, 3) := by decide +kernel
theorem d_M_test_65 : decode (z_c m_M_test) 65 = .ok (.iconst 1, 1) := by decide +kernel
theorem d_M_test_66 : decode (z_c m_M_test) 66 = .ok (.ireturn, 1) := by decide +kernel
theorem d_M_test_67 : decode (z_c m_M_test) 67 = .ok (.aload_n 0, 1) := by decide +kernel
theorem d_M_test_68 : decode (z_c m_M_test) 68 = .ok (.bipush 60, 2) := by decide +kernel
theorem d_M_test_70 : decode (z_c m_M_test) 70 = .ok (.invokevirtual 163, 3) := by decide +kernel
theorem d_M_test_73 : decode (z_c m_M_test) 73 = .ok (.ifCond .ne 27, 3) := by decide +kernel
theorem d_M_test_76 : decode (z_c m_M_test) 76 = .ok (.aload_n 0, 1) := by decide +kernel
theorem d_M_test_77 : decode (z_c m_M_test) 77 = .ok (.bipush 62, 2) := by decide +kernel
theorem d_M_test_79 : decode (z_c m_M_test) 79 = .ok (.invokevirtual 163, 3) := by decide +kernel
theorem d_M_test_82 : decode (z_c m_M_test) 82 = .ok (.ifCond .ne 18, 3) := by decide +kernel
theorem d_M_test_85 : decode (z_c m_M_test) 85 = .ok (.aload_n 0, 1) := by decide +kernel
theorem d_M_test_86 : decode (z_c m_M_test) 86 = .ok (.bipush 61, 2) := by decide +kernel
theorem d_M_test_88 : decode (z_c m_M_test) 88 = .ok (.invokevirtual 163, 3) := by decide +kernel
theorem d_M_test_91 : decode (z_c m_M_test) 91 = .ok (.ifCond .ne 9, 3) := by decide +kernel
theorem d_M_test_94 : decode (z_c m_M_test) 94 = .ok (.aload_n 0, 1) := by decide +kernel
theorem d_M_test_95 : decode (z_c m_M_test) 95 = .ok (.iconst 2, 1) := by decide +kernel
theorem d_M_test_96 : decode (z_c m_M_test) 96 = .ok (.invokevirtual 166, 3) := by decide +kernel
theorem d_M_test_99 : decode (z_c m_M_test) 99 = .ok (.ireturn, 1) := by decide +kernel
theorem d_M_test_100 : decode (z_c m_M_test) 100 = .ok (.aload_n 0, 1) := by decide +kernel
theorem d_M_test_101 : decode (z_c m_M_test) 101 = .ok (.getfield 7, 3) := by decide +kernel
theorem d_M_test_104 : decode (z_c m_M_test) 104 = .ok (.iload_n 1, 1) := by decide +kernel
theorem d_M_test_105 : decode (z_c m_M_test) 105 = .ok (.iconst 5, 1) := by decide +kernel
theorem d_M_test_106 : decode (z_c m_M_test) 106 = .ok (.iadd, 1) := by decide +kernel
theorem d_M_test_107 : decode (z_c m_M_test) 107 = .ok (.aload_n 0, 1) := by decide +kernel
theorem d_M_test_108 : decode (z_c m_M_test) 108 = .ok (.getfield 129, 3) := by decide +kernel
theorem d_M_test_111 : decode (z_c m_M_test) 111 = .ok (.iastore, 1) := by decide +kernel
theorem d_M_test_112 : decode (z_c m_M_test) 112 = .ok (.aload_n 0, 1) := by decide +kernel
theorem d_M_test_113 : decode (z_c m_M_test) 113 = .ok (.invokevirtual 160, 3) := by decide +kernel
theorem d_M_test_116 : decode (z_c m_M_test) 116 = .ok (.aload_n 0, 1) := by decide +kernel
theorem d_M_test_117 : decode (z_c m_M_test) 117 = .ok (.iload_n 1, 1) := by decide +kernel
theorem d_M_test_118 : decode (z_c m_M_test) 118 = .ok (.iconst 1, 1) := by decide +kernel
theorem d_M_test_119 : decode (z_c m_M_test) 119 = .ok (.iadd, 1) := by decide +kernel
theorem d_M_test_120 : decode (z_c m_M_test) 120 = .ok (.iconst 0, 1) := by decide +kernel
theorem d_M_test_121 : decode (z_c m_M_test) 121 = .ok (.sipush 9999, 3) := by decide +kernel
theorem d_M_test_124 : decode (z_c m_M_test) 124 = .ok (.invokevirtual 175, 3) := by decide +kernel
theorem d_M_test_127 : decode (z_c m_M_test) 127 = .ok (.ireturn, 1) := by decide +kernel
set_option maxRecDepth 8000 in
theorem b_M_test_0 {X : z_X} {N : Nat} {σ g : z_G} {Q : z_P} {a1 : Int} (hx : z_lay X N σ 0 z_SM z_RM) (h : z_O X 7 m_M_inWords [(2, 0), (4, 20)] N σ g (fun r0 g0 => (((16 ≤ r0) → ((-2147483648 ≤ (1200 + r0) ∧ (1200 + r0) ≤ 2147483647) ∧ ((0 ≤ a1 ∧ a1 < 3296) ∧ (z_O X 2 m_M_nextToken [(2, 0)] N σ (z_up g0 1 a1 (1200 + r0)) (fun r1 g1 => (((r0 = 17) → Q 1 g1) ∧ (¬ (r0 = 17) → (((r0 = 16) → ((-2147483648 ≤ (a1 + 1) ∧ (a1 + 1) ≤ 2147483647) ∧ (z_O X 9 m_M_valueTo [(2, 0), (0, a1 + 1), (0, 0)] N σ g1 (fun r10 g10 => (r10 = 0 ∨ r10 = 1) → (((r10 = 0) → Q 0 g10) ∧ (¬ (r10 = 0) → (z_O X 2 m_M_nextToken [(2, 0)] N σ g10 (fun r11 g11 => Q 1 g11)))))))) ∧ (¬ (r0 = 16) → ((((g1 0 11) = 4) → ((((g1 0 14) = 60) → ((-2147483648 ≤ (a1 + 5) ∧ (a1 + 5) ≤ 2147483647) ∧ ((0 ≤ (a1 + 5) ∧ (a1 + 5) < 3296) ∧ (z_O X 2 m_M_nextToken [(2, 0)] N σ (z_up g1 1 (a1 + 5) (g1 0 14)) (fun r2 g2 => ((-2147483648 ≤ (a1 + 1) ∧ (a1 + 1) ≤ 2147483647) ∧ (z_O X 3 m_M_number [(2, 0), (0, a1 + 1), (0, 0), (0, 9999)] N σ g2 (fun r3 g3 => (r3 = 0 ∨ r3 = 1) → Q r3 g3)))))))) ∧ (¬ ((g1 0 14) = 60) → ((((g1 0 14) = 62) → ((-2147483648 ≤ (a1 + 5) ∧ (a1 + 5) ≤ 2147483647) ∧ ((0 ≤ (a1 + 5) ∧ (a1 + 5) < 3296) ∧ (z_O X 2 m_M_nextToken [(2, 0)] N σ (z_up g1 1 (a1 + 5) (g1 0 14)) (fun r4 g4 => ((-2147483648 ≤ (a1 + 1) ∧ (a1 + 1) ≤ 2147483647) ∧ (z_O X 3 m_M_number [(2, 0), (0, a1 + 1), (0, 0), (0, 9999)] N σ g4 (fun r5 g5 => (r5 = 0 ∨ r5 = 1) → Q r5 g5)))))))) ∧ (¬ ((g1 0 14) = 62) → ((((g1 0 14) = 61) → ((-2147483648 ≤ (a1 + 5) ∧ (a1 + 5) ≤ 2147483647) ∧ ((0 ≤ (a1 + 5) ∧ (a1 + 5) < 3296) ∧ (z_O X 2 m_M_nextToken [(2, 0)] N σ (z_up g1 1 (a1 + 5) (g1 0 14)) (fun r6 g6 => ((-2147483648 ≤ (a1 + 1) ∧ (a1 + 1) ≤ 2147483647) ∧ (z_O X 3 m_M_number [(2, 0), (0, a1 + 1), (0, 0), (0, 9999)] N σ g6 (fun r7 g7 => (r7 = 0 ∨ r7 = 1) → Q r7 g7)))))))) ∧ (¬ ((g1 0 14) = 61) → (z_O X 1 m_M_fails [(2, 0), (0, 2)] N σ g1 (fun r8 g8 => (r8 = 0 ∨ r8 = 1) → Q r8 g8))))))))) ∧ (¬ ((g1 0 11) = 4) → (z_O X 1 m_M_fails [(2, 0), (0, 2)] N σ g1 (fun r9 g9 => (r9 = 0 ∨ r9 = 1) → Q r9 g9))))))))))))) ∧ (¬ (16 ≤ r0) → (z_O X 1 m_M_fails [(2, 0), (0, 2)] N σ g0 (fun r12 g12 => (r12 = 0 ∨ r12 = 1) → Q r12 g12)))))) : z_O X 10 m_M_test [(2, 0), (0, a1)] N σ g Q := by
  refine z_Oenter mi_M_test rfl (fun _ => ?_)
  show z_U X 10 m_M_test 0 [(0, (2, 0)), (1, (0, a1))] [] N σ g Q
  refine z_aload_n (i := 0) (c := 0) 0 d_M_test_0 rfl rfl rfl ?_
  refine z_ldcs (q := ("FareyRankModel", 169, 20)) d_M_test_1 (List.mem_of_getElem? (i := 23) rfl) rfl rfl rfl ?_
  refine z_cV (c := 0) (as := [(4, 20)]) (d' := 7) (st := []) d_M_test_3 mi_M_inWords ml_M_171 mv_M_inWords se_M_inWords rfl rfl rfl rfl (ks_M_0 hx) rfl rfl (kl_M_0 hx) rfl rfl (z_Omono h (fun r0 g0 _ h hro => ?_))
  show z_U X 10 m_M_test 6 [(0, (2, 0)), (1, (0, a1))] [(0, r0)] N σ g0 Q
  refine z_istore_n (i := 2) (ls' := [(2, (0, r0)), (0, (2, 0)), (1, (0, a1))]) d_M_test_6 rfl rfl rfl ?_
  refine z_iload_n (i := 2) 0 d_M_test_7 rfl rfl ?_
  refine z_bipush (n := 16) d_M_test_8 (by decide) (by decide) ?_
  refine z_icmp_ge (tgt := 19) d_M_test_10 (by decide) (fun c1 => ?_) (fun c1 => ?_)
  · have h := h.1 c1
    refine z_aload_n (i := 0) (c := 0) 1 d_M_test_19 rfl rfl rfl ?_
    refine z_getr (c := 0) (kI := 0) (r2 := 1) d_M_test_20 fd_M_at fl_M_7 rfl rfl rfl (ks_M_0 hx) (kl_M_0 hx) (kr_M_0_0 hx) ?_
    refine z_iload_n (i := 1) 2 d_M_test_23 rfl rfl ?_
    refine z_sipush (n := 1200) d_M_test_24 (by decide) (by decide) ?_
    refine z_iload_n (i := 2) 0 d_M_test_27 rfl rfl ?_
    obtain ⟨c2, h⟩ := h
    refine z_iadd d_M_test_28 c2 ?_
    obtain ⟨c3, h⟩ := h
    refine z_iast (c := 1) (m := 3296) d_M_test_29 rfl (ks_M_1 hx) (kl_M_1 hx) rfl (by decide) c3 ?_
    refine z_aload_n (i := 0) (c := 0) 1 d_M_test_30 rfl rfl rfl ?_
    refine z_cV (c := 0) (as := []) (d' := 2) (st := []) d_M_test_31 mi_M_nextToken ml_M_160 mv_M_nextToken se_M_nextToken rfl rfl rfl rfl (ks_M_0 hx) rfl rfl (kl_M_0 hx) rfl rfl (z_Omono h (fun r1 g1 _ h hro => ?_))
    show z_U X 10 m_M_test 34 [(2, (0, r0)), (0, (2, 0)), (1, (0, a1))] [] N σ g1 Q
    refine z_iload_n (i := 2) 0 d_M_test_34 rfl rfl ?_
    refine z_bipush (n := 17) d_M_test_35 (by decide) (by decide) ?_
    refine z_icmp_ne (tgt := 42) d_M_test_37 (by decide) (fun c4 => ?_) (fun c4 => ?_)
    · have h := h.2 c4
      refine z_iload_n (i := 2) 0 d_M_test_42 rfl rfl ?_
      refine z_bipush (n := 16) d_M_test_43 (by decide) (by decide) ?_
      refine z_icmp_ne (tgt := 67) d_M_test_45 (by decide) (fun c5 => ?_) (fun c5 => ?_)
      · have h := h.2 c5
        refine z_aload_n (i := 0) (c := 0) 1 d_M_test_67 rfl rfl rfl ?_
        refine z_bipush (n := 60) d_M_test_68 (by decide) (by decide) ?_
        refine z_cV (c := 0) (as := [(0, 60)]) (d' := 1) (st := []) d_M_test_70 mi_M_isSign ml_M_163 mv_M_isSign se_M_isSign rfl rfl rfl rfl (ks_M_0 hx) rfl rfl (kl_M_0 hx) rfl rfl (b_M_isSign_0 hx ?_)
        refine ⟨fun c6 => ?_, fun c6 => ?_⟩
        · have h := h.1 c6
          refine ⟨fun c7 => ?_, fun c7 => ?_⟩
          · have h := h.1 c7
            intro _
            show z_U X 10 m_M_test 73 [(2, (0, r0)), (0, (2, 0)), (1, (0, a1))] [(0, 1)] N σ g1 Q
            refine z_if_ne (tgt := 100) d_M_test_73 (by decide) (fun _ => ?_) (fun c => absurd c (by decide))
            refine z_aload_n (i := 0) (c := 0) 1 d_M_test_100 rfl rfl rfl ?_
            refine z_getr (c := 0) (kI := 0) (r2 := 1) d_M_test_101 fd_M_at fl_M_7 rfl rfl rfl (ks_M_0 hx) (kl_M_0 hx) (kr_M_0_0 hx) ?_
            refine z_iload_n (i := 1) 2 d_M_test_104 rfl rfl ?_
            refine z_iconst (n := 5) d_M_test_105 (by decide) ?_
            obtain ⟨c8, h⟩ := h
            refine z_iadd d_M_test_106 c8 ?_
            refine z_aload_n (i := 0) (c := 0) 1 d_M_test_107 rfl rfl rfl ?_
            refine z_geti (c := 0) (kI := 14) d_M_test_108 fd_M_value fl_M_129 (Or.inl rfl) rfl rfl (ks_M_0 hx) (kl_M_0 hx) ?_
            obtain ⟨c9, h⟩ := h
            refine z_iast (c := 1) (m := 3296) d_M_test_111 rfl (ks_M_1 hx) (kl_M_1 hx) rfl (by decide) c9 ?_
            refine z_aload_n (i := 0) (c := 0) 1 d_M_test_112 rfl rfl rfl ?_
            refine z_cV (c := 0) (as := []) (d' := 2) (st := []) d_M_test_113 mi_M_nextToken ml_M_160 mv_M_nextToken se_M_nextToken rfl rfl rfl rfl (ks_M_0 hx) rfl rfl (kl_M_0 hx) rfl rfl (z_Omono h (fun r2 g2 _ h hro => ?_))
            show z_U X 10 m_M_test 116 [(2, (0, r0)), (0, (2, 0)), (1, (0, a1))] [] N σ g2 Q
            refine z_aload_n (i := 0) (c := 0) 1 d_M_test_116 rfl rfl rfl ?_
            refine z_iload_n (i := 1) 2 d_M_test_117 rfl rfl ?_
            refine z_iconst (n := 1) d_M_test_118 (by decide) ?_
            obtain ⟨c10, h⟩ := h
            refine z_iadd d_M_test_119 c10 ?_
            refine z_iconst (n := 0) d_M_test_120 (by decide) ?_
            refine z_sipush (n := 9999) d_M_test_121 (by decide) (by decide) ?_
            refine z_cV (c := 0) (as := [(0, a1 + 1), (0, 0), (0, 9999)]) (d' := 3) (st := []) d_M_test_124 mi_M_number ml_M_175 mv_M_number se_M_number rfl rfl rfl rfl (ks_M_0 hx) rfl rfl (kl_M_0 hx) rfl rfl (z_Omono h (fun r3 g3 _ h hro => ?_))
            have h := h (z_b01 hro)
            have hzr3 := z_b01 hro
            show z_U X 10 m_M_test 127 [(2, (0, r0)), (0, (2, 0)), (1, (0, a1))] [(0, r3)] N σ g3 Q
            exact z_zret d_M_test_127 rfl (by decide) (by decide) hzr3 ⟨rfl, rfl, h⟩
          · have h := h.2 c7
            intro _
            show z_U X 10 m_M_test 73 [(2, (0, r0)), (0, (2, 0)), (1, (0, a1))] [(0, 0)] N σ g1 Q
            refine z_if_ne (tgt := 100) d_M_test_73 (by decide) (fun c => absurd (by decide) c) (fun _ => ?_)
            refine z_aload_n (i := 0) (c := 0) 1 d_M_test_76 rfl rfl rfl ?_
            refine z_bipush (n := 62) d_M_test_77 (by decide) (by decide) ?_
            refine z_cV (c := 0) (as := [(0, 62)]) (d' := 1) (st := []) d_M_test_79 mi_M_isSign ml_M_163 mv_M_isSign se_M_isSign rfl rfl rfl rfl (ks_M_0 hx) rfl rfl (kl_M_0 hx) rfl rfl (b_M_isSign_0 hx ?_)
            refine ⟨fun _ => ?_, fun c => absurd c6 c⟩
            refine ⟨fun c11 => ?_, fun c11 => ?_⟩
            · have h := h.1 c11
              intro _
              show z_U X 10 m_M_test 82 [(2, (0, r0)), (0, (2, 0)), (1, (0, a1))] [(0, 1)] N σ g1 Q
              refine z_if_ne (tgt := 100) d_M_test_82 (by decide) (fun _ => ?_) (fun c => absurd c (by decide))
              refine z_aload_n (i := 0) (c := 0) 1 d_M_test_100 rfl rfl rfl ?_
              refine z_getr (c := 0) (kI := 0) (r2 := 1) d_M_test_101 fd_M_at fl_M_7 rfl rfl rfl (ks_M_0 hx) (kl_M_0 hx) (kr_M_0_0 hx) ?_
              refine z_iload_n (i := 1) 2 d_M_test_104 rfl rfl ?_
              refine z_iconst (n := 5) d_M_test_105 (by decide) ?_
              obtain ⟨c12, h⟩ := h
              refine z_iadd d_M_test_106 c12 ?_
              refine z_aload_n (i := 0) (c := 0) 1 d_M_test_107 rfl rfl rfl ?_
              refine z_geti (c := 0) (kI := 14) d_M_test_108 fd_M_value fl_M_129 (Or.inl rfl) rfl rfl (ks_M_0 hx) (kl_M_0 hx) ?_
              obtain ⟨c13, h⟩ := h
              refine z_iast (c := 1) (m := 3296) d_M_test_111 rfl (ks_M_1 hx) (kl_M_1 hx) rfl (by decide) c13 ?_
              refine z_aload_n (i := 0) (c := 0) 1 d_M_test_112 rfl rfl rfl ?_
              refine z_cV (c := 0) (as := []) (d' := 2) (st := []) d_M_test_113 mi_M_nextToken ml_M_160 mv_M_nextToken se_M_nextToken rfl rfl rfl rfl (ks_M_0 hx) rfl rfl (kl_M_0 hx) rfl rfl (z_Omono h (fun r4 g4 _ h hro => ?_))
              show z_U X 10 m_M_test 116 [(2, (0, r0)), (0, (2, 0)), (1, (0, a1))] [] N σ g4 Q
              refine z_aload_n (i := 0) (c := 0) 1 d_M_test_116 rfl rfl rfl ?_
              refine z_iload_n (i := 1) 2 d_M_test_117 rfl rfl ?_
              refine z_iconst (n := 1) d_M_test_118 (by decide) ?_
              obtain ⟨c14, h⟩ := h
              refine z_iadd d_M_test_119 c14 ?_
              refine z_iconst (n := 0) d_M_test_120 (by decide) ?_
              refine z_sipush (n := 9999) d_M_test_121 (by decide) (by decide) ?_
              refine z_cV (c := 0) (as := [(0, a1 + 1), (0, 0), (0, 9999)]) (d' := 3) (st := []) d_M_test_124 mi_M_number ml_M_175 mv_M_number se_M_number rfl rfl rfl rfl (ks_M_0 hx) rfl rfl (kl_M_0 hx) rfl rfl (z_Omono h (fun r5 g5 _ h hro => ?_))
              have h := h (z_b01 hro)
              have hzr5 := z_b01 hro
              show z_U X 10 m_M_test 127 [(2, (0, r0)), (0, (2, 0)), (1, (0, a1))] [(0, r5)] N σ g5 Q
              exact z_zret d_M_test_127 rfl (by decide) (by decide) hzr5 ⟨rfl, rfl, h⟩
            · have h := h.2 c11
              intro _
              show z_U X 10 m_M_test 82 [(2, (0, r0)), (0, (2, 0)), (1, (0, a1))] [(0, 0)] N σ g1 Q
              refine z_if_ne (tgt := 100) d_M_test_82 (by decide) (fun c => absurd (by decide) c) (fun _ => ?_)
              refine z_aload_n (i := 0) (c := 0) 1 d_M_test_85 rfl rfl rfl ?_
              refine z_bipush (n := 61) d_M_test_86 (by decide) (by decide) ?_
              refine z_cV (c := 0) (as := [(0, 61)]) (d' := 1) (st := []) d_M_test_88 mi_M_isSign ml_M_163 mv_M_isSign se_M_isSign rfl rfl rfl rfl (ks_M_0 hx) rfl rfl (kl_M_0 hx) rfl rfl (b_M_isSign_0 hx ?_)
              refine ⟨fun _ => ?_, fun c => absurd c6 c⟩
              refine ⟨fun c15 => ?_, fun c15 => ?_⟩
              · have h := h.1 c15
                intro _
                show z_U X 10 m_M_test 91 [(2, (0, r0)), (0, (2, 0)), (1, (0, a1))] [(0, 1)] N σ g1 Q
                refine z_if_ne (tgt := 100) d_M_test_91 (by decide) (fun _ => ?_) (fun c => absurd c (by decide))
                refine z_aload_n (i := 0) (c := 0) 1 d_M_test_100 rfl rfl rfl ?_
                refine z_getr (c := 0) (kI := 0) (r2 := 1) d_M_test_101 fd_M_at fl_M_7 rfl rfl rfl (ks_M_0 hx) (kl_M_0 hx) (kr_M_0_0 hx) ?_
                refine z_iload_n (i := 1) 2 d_M_test_104 rfl rfl ?_
                refine z_iconst (n := 5) d_M_test_105 (by decide) ?_
                obtain ⟨c16, h⟩ := h
                refine z_iadd d_M_test_106 c16 ?_
                refine z_aload_n (i := 0) (c := 0) 1 d_M_test_107 rfl rfl rfl ?_
                refine z_geti (c := 0) (kI := 14) d_M_test_108 fd_M_value fl_M_129 (Or.inl rfl) rfl rfl (ks_M_0 hx) (kl_M_0 hx) ?_
                obtain ⟨c17, h⟩ := h
                refine z_iast (c := 1) (m := 3296) d_M_test_111 rfl (ks_M_1 hx) (kl_M_1 hx) rfl (by decide) c17 ?_
                refine z_aload_n (i := 0) (c := 0) 1 d_M_test_112 rfl rfl rfl ?_
                refine z_cV (c := 0) (as := []) (d' := 2) (st := []) d_M_test_113 mi_M_nextToken ml_M_160 mv_M_nextToken se_M_nextToken rfl rfl rfl rfl (ks_M_0 hx) rfl rfl (kl_M_0 hx) rfl rfl (z_Omono h (fun r6 g6 _ h hro => ?_))
                show z_U X 10 m_M_test 116 [(2, (0, r0)), (0, (2, 0)), (1, (0, a1))] [] N σ g6 Q
                refine z_aload_n (i := 0) (c := 0) 1 d_M_test_116 rfl rfl rfl ?_
                refine z_iload_n (i := 1) 2 d_M_test_117 rfl rfl ?_
                refine z_iconst (n := 1) d_M_test_118 (by decide) ?_
                obtain ⟨c18, h⟩ := h
                refine z_iadd d_M_test_119 c18 ?_
                refine z_iconst (n := 0) d_M_test_120 (by decide) ?_
                refine z_sipush (n := 9999) d_M_test_121 (by decide) (by decide) ?_
                refine z_cV (c := 0) (as := [(0, a1 + 1), (0, 0), (0, 9999)]) (d' := 3) (st := []) d_M_test_124 mi_M_number ml_M_175 mv_M_number se_M_number rfl rfl rfl rfl (ks_M_0 hx) rfl rfl (kl_M_0 hx) rfl rfl (z_Omono h (fun r7 g7 _ h hro => ?_))
                have h := h (z_b01 hro)
                have hzr7 := z_b01 hro
                show z_U X 10 m_M_test 127 [(2, (0, r0)), (0, (2, 0)), (1, (0, a1))] [(0, r7)] N σ g7 Q
                exact z_zret d_M_test_127 rfl (by decide) (by decide) hzr7 ⟨rfl, rfl, h⟩
              · have h := h.2 c15
                intro _
                show z_U X 10 m_M_test 91 [(2, (0, r0)), (0, (2, 0)), (1, (0, a1))] [(0, 0)] N σ g1 Q
                refine z_if_ne (tgt := 100) d_M_test_91 (by decide) (fun c => absurd (by decide) c) (fun _ => ?_)
                refine z_aload_n (i := 0) (c := 0) 1 d_M_test_94 rfl rfl rfl ?_
                refine z_iconst (n := 2) d_M_test_95 (by decide) ?_
                refine z_cV (c := 0) (as := [(0, 2)]) (d' := 1) (st := []) d_M_test_96 mi_M_fails ml_M_166 mv_M_fails se_M_fails rfl rfl rfl rfl (ks_M_0 hx) rfl rfl (kl_M_0 hx) rfl rfl (z_Omono h (fun r8 g8 _ h hro => ?_))
                have h := h (z_b01 hro)
                have hzr8 := z_b01 hro
                show z_U X 10 m_M_test 99 [(2, (0, r0)), (0, (2, 0)), (1, (0, a1))] [(0, r8)] N σ g8 Q
                exact z_zret d_M_test_99 rfl (by decide) (by decide) hzr8 ⟨rfl, rfl, h⟩
        · have h := h.2 c6
          intro _
          show z_U X 10 m_M_test 73 [(2, (0, r0)), (0, (2, 0)), (1, (0, a1))] [(0, 0)] N σ g1 Q
          refine z_if_ne (tgt := 100) d_M_test_73 (by decide) (fun c => absurd (by decide) c) (fun _ => ?_)
          refine z_aload_n (i := 0) (c := 0) 1 d_M_test_76 rfl rfl rfl ?_
          refine z_bipush (n := 62) d_M_test_77 (by decide) (by decide) ?_
          refine z_cV (c := 0) (as := [(0, 62)]) (d' := 1) (st := []) d_M_test_79 mi_M_isSign ml_M_163 mv_M_isSign se_M_isSign rfl rfl rfl rfl (ks_M_0 hx) rfl rfl (kl_M_0 hx) rfl rfl (b_M_isSign_0 hx ?_)
          refine ⟨fun c => absurd c c6, fun _ => ?_⟩
          intro _
          show z_U X 10 m_M_test 82 [(2, (0, r0)), (0, (2, 0)), (1, (0, a1))] [(0, 0)] N σ g1 Q
          refine z_if_ne (tgt := 100) d_M_test_82 (by decide) (fun c => absurd (by decide) c) (fun _ => ?_)
          refine z_aload_n (i := 0) (c := 0) 1 d_M_test_85 rfl rfl rfl ?_
          refine z_bipush (n := 61) d_M_test_86 (by decide) (by decide) ?_
          refine z_cV (c := 0) (as := [(0, 61)]) (d' := 1) (st := []) d_M_test_88 mi_M_isSign ml_M_163 mv_M_isSign se_M_isSign rfl rfl rfl rfl (ks_M_0 hx) rfl rfl (kl_M_0 hx) rfl rfl (b_M_isSign_0 hx ?_)
          refine ⟨fun c => absurd c c6, fun _ => ?_⟩
          intro _
          show z_U X 10 m_M_test 91 [(2, (0, r0)), (0, (2, 0)), (1, (0, a1))] [(0, 0)] N σ g1 Q
          refine z_if_ne (tgt := 100) d_M_test_91 (by decide) (fun c => absurd (by decide) c) (fun _ => ?_)
          refine z_aload_n (i := 0) (c := 0) 1 d_M_test_94 rfl rfl rfl ?_
          refine z_iconst (n := 2) d_M_test_95 (by decide) ?_
          refine z_cV (c := 0) (as := [(0, 2)]) (d' := 1) (st := []) d_M_test_96 mi_M_fails ml_M_166 mv_M_fails se_M_fails rfl rfl rfl rfl (ks_M_0 hx) rfl rfl (kl_M_0 hx) rfl rfl (z_Omono h (fun r9 g9 _ h hro => ?_))
          have h := h (z_b01 hro)
          have hzr9 := z_b01 hro
          show z_U X 10 m_M_test 99 [(2, (0, r0)), (0, (2, 0)), (1, (0, a1))] [(0, r9)] N σ g9 Q
          exact z_zret d_M_test_99 rfl (by decide) (by decide) hzr9 ⟨rfl, rfl, h⟩
      · have h := h.1 c5
        refine z_aload_n (i := 0) (c := 0) 1 d_M_test_48 rfl rfl rfl ?_
        refine z_iload_n (i := 1) 2 d_M_test_49 rfl rfl ?_
        refine z_iconst (n := 1) d_M_test_50 (by decide) ?_
        obtain ⟨c19, h⟩ := h
        refine z_iadd d_M_test_51 c19 ?_
        refine z_iconst (n := 0) d_M_test_52 (by decide) ?_
        refine z_cV (c := 0) (as := [(0, a1 + 1), (0, 0)]) (d' := 9) (st := []) d_M_test_53 mi_M_valueTo ml_M_185 mv_M_valueTo se_M_valueTo rfl rfl rfl rfl (ks_M_0 hx) rfl rfl (kl_M_0 hx) rfl rfl (z_Omono h (fun r10 g10 _ h hro => ?_))
        have h := h (z_b01 hro)
        have hzr10 := z_b01 hro
        show z_U X 10 m_M_test 56 [(2, (0, r0)), (0, (2, 0)), (1, (0, a1))] [(0, r10)] N σ g10 Q
        refine z_if_ne (tgt := 61) d_M_test_56 (by decide) (fun c20 => ?_) (fun c20 => ?_)
        · have h := h.2 c20
          refine z_aload_n (i := 0) (c := 0) 1 d_M_test_61 rfl rfl rfl ?_
          refine z_cV (c := 0) (as := []) (d' := 2) (st := []) d_M_test_62 mi_M_nextToken ml_M_160 mv_M_nextToken se_M_nextToken rfl rfl rfl rfl (ks_M_0 hx) rfl rfl (kl_M_0 hx) rfl rfl (z_Omono h (fun r11 g11 _ h hro => ?_))
          show z_U X 10 m_M_test 65 [(2, (0, r0)), (0, (2, 0)), (1, (0, a1))] [] N σ g11 Q
          refine z_iconst (n := 1) d_M_test_65 (by decide) ?_
          exact z_zret d_M_test_66 rfl (by decide) (by decide) (by decide) ⟨rfl, rfl, h⟩
        · have h := h.1 c20
          refine z_iconst (n := 0) d_M_test_59 (by decide) ?_
          exact z_zret d_M_test_60 rfl (by decide) (by decide) (by decide) ⟨rfl, rfl, h⟩
    · have h := h.1 c4
      refine z_iconst (n := 1) d_M_test_40 (by decide) ?_
      exact z_zret d_M_test_41 rfl (by decide) (by decide) (by decide) ⟨rfl, rfl, h⟩
  · have h := h.2 c1
    refine z_aload_n (i := 0) (c := 0) 1 d_M_test_13 rfl rfl rfl ?_
    refine z_iconst (n := 2) d_M_test_14 (by decide) ?_
    refine z_cV (c := 0) (as := [(0, 2)]) (d' := 1) (st := []) d_M_test_15 mi_M_fails ml_M_166 mv_M_fails se_M_fails rfl rfl rfl rfl (ks_M_0 hx) rfl rfl (kl_M_0 hx) rfl rfl (z_Omono h (fun r12 g12 _ h hro => ?_))
    have h := h (z_b01 hro)
    have hzr12 := z_b01 hro
    show z_U X 10 m_M_test 18 [(2, (0, r0)), (0, (2, 0)), (1, (0, a1))] [(0, r12)] N σ g12 Q
    exact z_zret d_M_test_18 rfl (by decide) (by decide) hzr12 ⟨rfl, rfl, h⟩
theorem d_M_studyPart_0 : decode (z_c m_M_studyPart) 0 = .ok (.aload_n 0, 1) := by decide +kernel
theorem d_M_studyPart_1 : decode (z_c m_M_studyPart) 1 = .ok (.ldc 169, 2) := by decide +kernel
theorem d_M_studyPart_3 : decode (z_c m_M_studyPart) 3 = .ok (.invokevirtual 171, 3) := by decide +kernel
theorem d_M_studyPart_6 : decode (z_c m_M_studyPart) 6 = .ok (.istore_n 1, 1) := by decide +kernel
theorem d_M_studyPart_7 : decode (z_c m_M_studyPart) 7 = .ok (.iload_n 1, 1) := by decide +kernel
theorem d_M_studyPart_8 : decode (z_c m_M_studyPart) 8 = .ok (.ifCond .lt 8, 3) := by decide +kernel
theorem d_M_studyPart_11 : decode (z_c m_M_studyPart) 11 = .ok (.iload_n 1, 1) := by decide +kernel
theorem d_M_studyPart_12 : decode (z_c m_M_studyPart) 12 = .ok (.iconst 3, 1) := by decide +kernel
theorem d_M_studyPart_13 : decode (z_c m_M_studyPart) 13 = .ok (.if_icmp .le 9, 3) := by decide +kernel
theorem d_M_studyPart_16 : decode (z_c m_M_studyPart) 16 = .ok (.aload_n 0, 1) := by decide +kernel
theorem d_M_studyPart_17 : decode (z_c m_M_studyPart) 17 = .ok (.iconst 2, 1) := by decide +kernel
theorem d_M_studyPart_18 : decode (z_c m_M_studyPart) 18 = .ok (.invokevirtual 166, 3) := by decide +kernel
theorem d_M_studyPart_21 : decode (z_c m_M_studyPart) 21 = .ok (.ireturn, 1) := by decide +kernel
theorem d_M_studyPart_22 : decode (z_c m_M_studyPart) 22 = .ok (.iload_n 1, 1) := by decide +kernel
theorem d_M_studyPart_23 : decode (z_c m_M_studyPart) 23 = .ok (.iconst 3, 1) := by decide +kernel
theorem d_M_studyPart_24 : decode (z_c m_M_studyPart) 24 = .ok (.if_icmp .ne 25, 3) := by decide +kernel
theorem d_M_studyPart_27 : decode (z_c m_M_studyPart) 27 = .ok (.aload_n 0, 1) := by decide +kernel
theorem d_M_studyPart_28 : decode (z_c m_M_studyPart) 28 = .ok (.invokevirtual 193, 3) := by decide +kernel
theorem d_M_studyPart_31 : decode (z_c m_M_studyPart) 31 = .ok (.ifCond .eq 16, 3) := by decide +kernel
theorem d_M_studyPart_34 : decode (z_c m_M_studyPart) 34 = .ok (.aload_n 0, 1) := by decide +kernel
theorem d_M_studyPart_35 : decode (z_c m_M_studyPart) 35 = .ok (.bipush 59, 2) := by decide +kernel
theorem d_M_studyPart_37 : decode (z_c m_M_studyPart) 37 = .ok (.invokevirtual 197, 3) := by decide +kernel
theorem d_M_studyPart_40 : decode (z_c m_M_studyPart) 40 = .ok (.ifCond .eq 7, 3) := by decide +kernel
theorem d_M_studyPart_43 : decode (z_c m_M_studyPart) 43 = .ok (.iconst 1, 1) := by decide +kernel
theorem d_M_studyPart_44 : decode (z_c m_M_studyPart) 44 = .ok (.goto 4, 3) := by decide +kernel
theorem d_M_studyPart_47 : decode (z_c m_M_studyPart) 47 = .ok (.iconst 0, 1) := by decide +kernel
theorem d_M_studyPart_48 : decode (z_c m_M_studyPart) 48 = .ok (.ireturn, 1) := by decide +kernel
theorem d_M_studyPart_49 : decode (z_c m_M_studyPart) 49 = .ok (.aload_n 0, 1) := by decide +kernel
theorem d_M_studyPart_50 : decode (z_c m_M_studyPart) 50 = .ok (.getfield 200, 3) := by decide +kernel
theorem d_M_studyPart_53 : decode (z_c m_M_studyPart) 53 = .ok (.iload_n 1, 1) := by decide +kernel
theorem d_M_studyPart_54 : decode (z_c m_M_studyPart) 54 = .ok (.invokestatic 203, 3) := by decide +kernel
theorem d_M_studyPart_57 : decode (z_c m_M_studyPart) 57 = .ok (.ifCond .eq 9, 3) := by decide +kernel
theorem d_M_studyPart_60 : decode (z_c m_M_studyPart) 60 = .ok (.aload_n 0, 1) := by decide +kernel
theorem d_M_studyPart_61 : decode (z_c m_M_studyPart) 61 = .ok (.iconst 5, 1) := by decide +kernel
theorem d_M_studyPart_62 : decode (z_c m_M_studyPart) 62 = .ok (.invokevirtual 166, 3) := by decide +kernel
theorem d_M_studyPart_65 : decode (z_c m_M_studyPart) 65 = .ok (.ireturn, 1) := by decide +kernel
theorem d_M_studyPart_66 : decode (z_c m_M_studyPart) 66 = .ok (.aload_n 0, 1) := by decide +kernel
theorem d_M_studyPart_67 : decode (z_c m_M_studyPart) 67 = .ok (.dup, 1) := by decide +kernel
theorem d_M_studyPart_68 : decode (z_c m_M_studyPart) 68 = .ok (.getfield 200, 3) := by decide +kernel
theorem d_M_studyPart_71 : decode (z_c m_M_studyPart) 71 = .ok (.iconst 1, 1) := by decide +kernel
theorem d_M_studyPart_72 : decode (z_c m_M_studyPart) 72 = .ok (.iload_n 1, 1) := by decide +kernel
theorem d_M_studyPart_73 : decode (z_c m_M_studyPart) 73 = .ok (.ishl, 1) := by decide +kernel
theorem d_M_studyPart_74 : decode (z_c m_M_studyPart) 74 = .ok (.ior, 1) := by decide +kernel
theorem d_M_studyPart_75 : decode (z_c m_M_studyPart) 75 = .ok (.putfield 200, 3) := by decide +kernel
theorem d_M_studyPart_78 : decode (z_c m_M_studyPart) 78 = .ok (.aload_n 0, 1) := by decide +kernel
theorem d_M_studyPart_79 : decode (z_c m_M_studyPart) 79 = .ok (.invokevirtual 160, 3) := by decide +kernel
theorem d_M_studyPart_82 : decode (z_c m_M_studyPart) 82 = .ok (.iload_n 1, 1) := by decide +kernel
theorem d_M_studyPart_83 : decode (z_c m_M_studyPart) 83 = .ok (.ifCond .ne 16, 3) := by decide +kernel
theorem d_M_studyPart_86 : decode (z_c m_M_studyPart) 86 = .ok (.aload_n 0, 1) := by decide +kernel
theorem d_M_studyPart_87 : decode (z_c m_M_studyPart) 87 = .ok (.sipush 2440, 3) := by decide +kernel
theorem d_M_studyPart_90 : decode (z_c m_M_studyPart) 90 = .ok (.iconst 0, 1) := by decide +kernel
theorem d_M_studyPart_91 : decode (z_c m_M_studyPart) 91 = .ok (.bipush 16, 2) := by decide +kernel
theorem d_M_studyPart_93 : decode (z_c m_M_studyPart) 93 = .ok (.invokevirtual 175, 3) := by decide +kernel
theorem d_M_studyPart_96 : decode (z_c m_M_studyPart) 96 = .ok (.goto 26, 3) := by decide +kernel
theorem d_M_studyPart_99 : decode (z_c m_M_studyPart) 99 = .ok (.iload_n 1, 1) := by decide +kernel
theorem d_M_studyPart_100 : decode (z_c m_M_studyPart) 100 = .ok (.iconst 1, 1) := by decide +kernel
theorem d_M_studyPart_101 : decode (z_c m_M_studyPart) 101 = .ok (.if_icmp .ne 17, 3) := by decide +kernel
theorem d_M_studyPart_104 : decode (z_c m_M_studyPart) 104 = .ok (.aload_n 0, 1) := by decide +kernel
theorem d_M_studyPart_105 : decode (z_c m_M_studyPart) 105 = .ok (.sipush 2441, 3) := by decide +kernel
theorem d_M_studyPart_108 : decode (z_c m_M_studyPart) 108 = .ok (.iconst 1, 1) := by decide +kernel
theorem d_M_studyPart_109 : decode (z_c m_M_studyPart) 109 = .ok (.sipush 200, 3) := by decide +kernel
theorem d_M_studyPart_112 : decode (z_c m_M_studyPart) 112 = .ok (.invokevirtual 175, 3) := by decide +kernel
theorem d_M_studyPart_115 : decode (z_c m_M_studyPart) 115 = .ok (.goto 7, 3) := by decide +kernel
theorem d_M_studyPart_118 : decode (z_c m_M_studyPart) 118 = .ok (.aload_n 0, 1) := by decide +kernel
theorem d_M_studyPart_119 : decode (z_c m_M_studyPart) 119 = .ok (.invokevirtual 207, 3) := by decide +kernel
theorem d_M_studyPart_122 : decode (z_c m_M_studyPart) 122 = .ok (.istore_n 2, 1) := by decide +kernel
theorem d_M_studyPart_123 : decode (z_c m_M_studyPart) 123 = .ok (.iload_n 2, 1) := by decide +kernel
theorem d_M_studyPart_124 : decode (z_c m_M_studyPart) 124 = .ok (.ifCond .eq 16, 3) := by decide +kernel
theorem d_M_studyPart_127 : decode (z_c m_M_studyPart) 127 = .ok (.aload_n 0, 1) := by decide +kernel
theorem d_M_studyPart_128 : decode (z_c m_M_studyPart) 128 = .ok (.bipush 59, 2) := by decide +kernel
theorem d_M_studyPart_130 : decode (z_c m_M_studyPart) 130 = .ok (.invokevirtual 197, 3) := by decide +kernel
theorem d_M_studyPart_133 : decode (z_c m_M_studyPart) 133 = .ok (.ifCond .eq 7, 3) := by decide +kernel
theorem d_M_studyPart_136 : decode (z_c m_M_studyPart) 136 = .ok (.iconst 1, 1) := by decide +kernel
theorem d_M_studyPart_137 : decode (z_c m_M_studyPart) 137 = .ok (.goto 4, 3) := by decide +kernel
theorem d_M_studyPart_140 : decode (z_c m_M_studyPart) 140 = .ok (.iconst 0, 1) := by decide +kernel
theorem d_M_studyPart_141 : decode (z_c m_M_studyPart) 141 = .ok (.ireturn, 1) := by decide +kernel
set_option maxRecDepth 8000 in
theorem b_M_studyPart_0 {X : z_X} {N : Nat} {σ g : z_G} {Q : z_P} (hx : z_lay X N σ 0 z_SM z_RM) (h : z_O X 7 m_M_inWords [(2, 0), (4, 20)] N σ g (fun r0 g0 => (((r0 < 0) → (z_O X 1 m_M_fails [(2, 0), (0, 2)] N σ g0 (fun r1 g1 => (r1 = 0 ∨ r1 = 1) → Q r1 g1))) ∧ (¬ (r0 < 0) → (((r0 ≤ 3) → (((r0 = 3) → (z_O X 10 m_M_aPin [(2, 0)] N σ g0 (fun r10 g10 => (r10 = 0 ∨ r10 = 1) → (((r10 = 0) → Q 0 g10) ∧ (¬ (r10 = 0) → (z_O X 3 m_M_wantSign [(2, 0), (0, 59)] N σ g10 (fun r11 g11 => (r11 = 0 ∨ r11 = 1) → (((r11 = 0) → Q 0 g11) ∧ (¬ (r11 = 0) → Q 1 g11))))))))) ∧ (¬ (r0 = 3) → ((((Int32.toInt (Int32.ofInt (Int32.toInt (Int32.ofInt (g0 0 18) >>> (Int32.ofInt r0 &&& 31))) &&& Int32.ofInt 1)) = 1) → (z_O X 1 m_M_fails [(2, 0), (0, 5)] N σ g0 (fun r2 g2 => (r2 = 0 ∨ r2 = 1) → Q r2 g2))) ∧ (¬ ((Int32.toInt (Int32.ofInt (Int32.toInt (Int32.ofInt (g0 0 18) >>> (Int32.ofInt r0 &&& 31))) &&& Int32.ofInt 1)) = 1) → (z_O X 2 m_M_nextToken [(2, 0)] N σ (z_up g0 0 18 (Int32.toInt (Int32.ofInt (g0 0 18) ||| Int32.ofInt (Int32.toInt (Int32.ofInt 1 <<< (Int32.ofInt r0 &&& 31)))))) (fun r3 g3 => (((r0 = 0) → (z_O X 3 m_M_number [(2, 0), (0, 2440), (0, 0), (0, 16)] N σ g3 (fun r8 g8 => (r8 = 0 ∨ r8 = 1) → (((r8 = 0) → Q 0 g8) ∧ (¬ (r8 = 0) → (z_O X 3 m_M_wantSign [(2, 0), (0, 59)] N σ g8 (fun r9 g9 => (r9 = 0 ∨ r9 = 1) → (((r9 = 0) → Q 0 g9) ∧ (¬ (r9 = 0) → Q 1 g9))))))))) ∧ (¬ (r0 = 0) → (((r0 = 1) → (z_O X 3 m_M_number [(2, 0), (0, 2441), (0, 1), (0, 200)] N σ g3 (fun r6 g6 => (r6 = 0 ∨ r6 = 1) → (((r6 = 0) → Q 0 g6) ∧ (¬ (r6 = 0) → (z_O X 3 m_M_wantSign [(2, 0), (0, 59)] N σ g6 (fun r7 g7 => (r7 = 0 ∨ r7 = 1) → (((r7 = 0) → Q 0 g7) ∧ (¬ (r7 = 0) → Q 1 g7))))))))) ∧ (¬ (r0 = 1) → (z_O X 10 m_M_aPlace [(2, 0)] N σ g3 (fun r4 g4 => (r4 = 0 ∨ r4 = 1) → (((r4 = 0) → Q 0 g4) ∧ (¬ (r4 = 0) → (z_O X 3 m_M_wantSign [(2, 0), (0, 59)] N σ g4 (fun r5 g5 => (r5 = 0 ∨ r5 = 1) → (((r5 = 0) → Q 0 g5) ∧ (¬ (r5 = 0) → Q 1 g5))))))))))))))))))) ∧ (¬ (r0 ≤ 3) → (z_O X 1 m_M_fails [(2, 0), (0, 2)] N σ g0 (fun r12 g12 => (r12 = 0 ∨ r12 = 1) → Q r12 g12)))))))) : z_O X 11 m_M_studyPart [(2, 0)] N σ g Q := by
  refine z_Oenter mi_M_studyPart rfl (fun _ => ?_)
  show z_U X 11 m_M_studyPart 0 [(0, (2, 0))] [] N σ g Q
  refine z_aload_n (i := 0) (c := 0) 0 d_M_studyPart_0 rfl rfl rfl ?_
  refine z_ldcs (q := ("FareyRankModel", 169, 20)) d_M_studyPart_1 (List.mem_of_getElem? (i := 23) rfl) rfl rfl rfl ?_
  refine z_cV (c := 0) (as := [(4, 20)]) (d' := 7) (st := []) d_M_studyPart_3 mi_M_inWords ml_M_171 mv_M_inWords se_M_inWords rfl rfl rfl rfl (ks_M_0 hx) rfl rfl (kl_M_0 hx) rfl rfl (z_Omono h (fun r0 g0 _ h hro => ?_))
  show z_U X 11 m_M_studyPart 6 [(0, (2, 0))] [(0, r0)] N σ g0 Q
  refine z_istore_n (i := 1) (ls' := [(1, (0, r0)), (0, (2, 0))]) d_M_studyPart_6 rfl rfl rfl ?_
  refine z_iload_n (i := 1) 0 d_M_studyPart_7 rfl rfl ?_
  refine z_if_lt (tgt := 16) d_M_studyPart_8 (by decide) (fun c1 => ?_) (fun c1 => ?_)
  · have h := h.1 c1
    refine z_aload_n (i := 0) (c := 0) 1 d_M_studyPart_16 rfl rfl rfl ?_
    refine z_iconst (n := 2) d_M_studyPart_17 (by decide) ?_
    refine z_cV (c := 0) (as := [(0, 2)]) (d' := 1) (st := []) d_M_studyPart_18 mi_M_fails ml_M_166 mv_M_fails se_M_fails rfl rfl rfl rfl (ks_M_0 hx) rfl rfl (kl_M_0 hx) rfl rfl (z_Omono h (fun r1 g1 _ h hro => ?_))
    have h := h (z_b01 hro)
    have hzr1 := z_b01 hro
    show z_U X 11 m_M_studyPart 21 [(1, (0, r0)), (0, (2, 0))] [(0, r1)] N σ g1 Q
    exact z_zret d_M_studyPart_21 rfl (by decide) (by decide) hzr1 ⟨rfl, rfl, h⟩
  · have h := h.2 c1
    refine z_iload_n (i := 1) 0 d_M_studyPart_11 rfl rfl ?_
    refine z_iconst (n := 3) d_M_studyPart_12 (by decide) ?_
    refine z_icmp_le (tgt := 22) d_M_studyPart_13 (by decide) (fun c2 => ?_) (fun c2 => ?_)
    · have h := h.1 c2
      refine z_iload_n (i := 1) 0 d_M_studyPart_22 rfl rfl ?_
      refine z_iconst (n := 3) d_M_studyPart_23 (by decide) ?_
      refine z_icmp_ne (tgt := 49) d_M_studyPart_24 (by decide) (fun c3 => ?_) (fun c3 => ?_)
      · have h := h.2 c3
        refine z_aload_n (i := 0) (c := 0) 1 d_M_studyPart_49 rfl rfl rfl ?_
        refine z_geti (c := 0) (kI := 18) d_M_studyPart_50 fd_M_toldParts fl_M_200 (Or.inl rfl) rfl rfl (ks_M_0 hx) (kl_M_0 hx) ?_
        refine z_iload_n (i := 1) 0 d_M_studyPart_53 rfl rfl ?_
        refine z_cS (as := [(0, g0 0 18), (0, r0)]) (d' := 1) (st := []) d_M_studyPart_54 mi_M_isIn ml_M_203 ms_M_isIn rfl rfl rfl rfl rfl (b_M_isIn_0  ?_)
        refine ⟨fun c4 => ?_, fun c4 => ?_⟩
        · have h := h.1 c4
          intro _
          show z_U X 11 m_M_studyPart 57 [(1, (0, r0)), (0, (2, 0))] [(0, 1)] N σ g0 Q
          refine z_if_eq (tgt := 66) d_M_studyPart_57 (by decide) (fun c => absurd c (by decide)) (fun _ => ?_)
          refine z_aload_n (i := 0) (c := 0) 1 d_M_studyPart_60 rfl rfl rfl ?_
          refine z_iconst (n := 5) d_M_studyPart_61 (by decide) ?_
          refine z_cV (c := 0) (as := [(0, 5)]) (d' := 1) (st := []) d_M_studyPart_62 mi_M_fails ml_M_166 mv_M_fails se_M_fails rfl rfl rfl rfl (ks_M_0 hx) rfl rfl (kl_M_0 hx) rfl rfl (z_Omono h (fun r2 g2 _ h hro => ?_))
          have h := h (z_b01 hro)
          have hzr2 := z_b01 hro
          show z_U X 11 m_M_studyPart 65 [(1, (0, r0)), (0, (2, 0))] [(0, r2)] N σ g2 Q
          exact z_zret d_M_studyPart_65 rfl (by decide) (by decide) hzr2 ⟨rfl, rfl, h⟩
        · have h := h.2 c4
          intro _
          show z_U X 11 m_M_studyPart 57 [(1, (0, r0)), (0, (2, 0))] [(0, 0)] N σ g0 Q
          refine z_if_eq (tgt := 66) d_M_studyPart_57 (by decide) (fun _ => ?_) (fun c => absurd (by decide) c)
          refine z_aload_n (i := 0) (c := 0) 1 d_M_studyPart_66 rfl rfl rfl ?_
          refine z_dup d_M_studyPart_67 rfl ?_
          refine z_geti (c := 0) (kI := 18) d_M_studyPart_68 fd_M_toldParts fl_M_200 (Or.inl rfl) rfl rfl (ks_M_0 hx) (kl_M_0 hx) ?_
          refine z_iconst (n := 1) d_M_studyPart_71 (by decide) ?_
          refine z_iload_n (i := 1) 0 d_M_studyPart_72 rfl rfl ?_
          refine z_ishl d_M_studyPart_73 ?_
          refine z_ior d_M_studyPart_74 ?_
          refine z_puti (c := 0) (kI := 18) d_M_studyPart_75 fd_M_toldParts fl_M_200 pf_M_toldParts rfl rfl rfl rfl (ks_M_0 hx) (kl_M_0 hx) ?_
          refine z_aload_n (i := 0) (c := 0) 1 d_M_studyPart_78 rfl rfl rfl ?_
          refine z_cV (c := 0) (as := []) (d' := 2) (st := []) d_M_studyPart_79 mi_M_nextToken ml_M_160 mv_M_nextToken se_M_nextToken rfl rfl rfl rfl (ks_M_0 hx) rfl rfl (kl_M_0 hx) rfl rfl (z_Omono h (fun r3 g3 _ h hro => ?_))
          show z_U X 11 m_M_studyPart 82 [(1, (0, r0)), (0, (2, 0))] [] N σ g3 Q
          refine z_iload_n (i := 1) 0 d_M_studyPart_82 rfl rfl ?_
          refine z_if_ne (tgt := 99) d_M_studyPart_83 (by decide) (fun c5 => ?_) (fun c5 => ?_)
          · have h := h.2 c5
            refine z_iload_n (i := 1) 0 d_M_studyPart_99 rfl rfl ?_
            refine z_iconst (n := 1) d_M_studyPart_100 (by decide) ?_
            refine z_icmp_ne (tgt := 118) d_M_studyPart_101 (by decide) (fun c6 => ?_) (fun c6 => ?_)
            · have h := h.2 c6
              refine z_aload_n (i := 0) (c := 0) 1 d_M_studyPart_118 rfl rfl rfl ?_
              refine z_cV (c := 0) (as := []) (d' := 10) (st := []) d_M_studyPart_119 mi_M_aPlace ml_M_207 mv_M_aPlace se_M_aPlace rfl rfl rfl rfl (ks_M_0 hx) rfl rfl (kl_M_0 hx) rfl rfl (z_Omono h (fun r4 g4 _ h hro => ?_))
              have h := h (z_b01 hro)
              have hzr4 := z_b01 hro
              show z_U X 11 m_M_studyPart 122 [(1, (0, r0)), (0, (2, 0))] [(0, r4)] N σ g4 Q
              refine z_istore_n (i := 2) (ls' := [(2, (0, r4)), (1, (0, r0)), (0, (2, 0))]) d_M_studyPart_122 rfl rfl rfl ?_
              refine z_iload_n (i := 2) 0 d_M_studyPart_123 rfl rfl ?_
              refine z_if_eq (tgt := 140) d_M_studyPart_124 (by decide) (fun c7 => ?_) (fun c7 => ?_)
              · have h := h.1 c7
                refine z_iconst (n := 0) d_M_studyPart_140 (by decide) ?_
                exact z_zret d_M_studyPart_141 rfl (by decide) (by decide) (by decide) ⟨rfl, rfl, h⟩
              · have h := h.2 c7
                refine z_aload_n (i := 0) (c := 0) 2 d_M_studyPart_127 rfl rfl rfl ?_
                refine z_bipush (n := 59) d_M_studyPart_128 (by decide) (by decide) ?_
                refine z_cV (c := 0) (as := [(0, 59)]) (d' := 3) (st := []) d_M_studyPart_130 mi_M_wantSign ml_M_197 mv_M_wantSign se_M_wantSign rfl rfl rfl rfl (ks_M_0 hx) rfl rfl (kl_M_0 hx) rfl rfl (z_Omono h (fun r5 g5 _ h hro => ?_))
                have h := h (z_b01 hro)
                have hzr5 := z_b01 hro
                show z_U X 11 m_M_studyPart 133 [(2, (0, r4)), (1, (0, r0)), (0, (2, 0))] [(0, r5)] N σ g5 Q
                refine z_if_eq (tgt := 140) d_M_studyPart_133 (by decide) (fun c8 => ?_) (fun c8 => ?_)
                · have h := h.1 c8
                  refine z_iconst (n := 0) d_M_studyPart_140 (by decide) ?_
                  exact z_zret d_M_studyPart_141 rfl (by decide) (by decide) (by decide) ⟨rfl, rfl, h⟩
                · have h := h.2 c8
                  refine z_iconst (n := 1) d_M_studyPart_136 (by decide) ?_
                  refine z_goto (tgt := 141) d_M_studyPart_137 (by decide) ?_
                  exact z_zret d_M_studyPart_141 rfl (by decide) (by decide) (by decide) ⟨rfl, rfl, h⟩
            · have h := h.1 c6
              refine z_aload_n (i := 0) (c := 0) 1 d_M_studyPart_104 rfl rfl rfl ?_
              refine z_sipush (n := 2441) d_M_studyPart_105 (by decide) (by decide) ?_
              refine z_iconst (n := 1) d_M_studyPart_108 (by decide) ?_
              refine z_sipush (n := 200) d_M_studyPart_109 (by decide) (by decide) ?_
              refine z_cV (c := 0) (as := [(0, 2441), (0, 1), (0, 200)]) (d' := 3) (st := []) d_M_studyPart_112 mi_M_number ml_M_175 mv_M_number se_M_number rfl rfl rfl rfl (ks_M_0 hx) rfl rfl (kl_M_0 hx) rfl rfl (z_Omono h (fun r6 g6 _ h hro => ?_))
              have h := h (z_b01 hro)
              have hzr6 := z_b01 hro
              show z_U X 11 m_M_studyPart 115 [(1, (0, r0)), (0, (2, 0))] [(0, r6)] N σ g6 Q
              refine z_goto (tgt := 122) d_M_studyPart_115 (by decide) ?_
              refine z_istore_n (i := 2) (ls' := [(2, (0, r6)), (1, (0, r0)), (0, (2, 0))]) d_M_studyPart_122 rfl rfl rfl ?_
              refine z_iload_n (i := 2) 0 d_M_studyPart_123 rfl rfl ?_
              refine z_if_eq (tgt := 140) d_M_studyPart_124 (by decide) (fun c9 => ?_) (fun c9 => ?_)
              · have h := h.1 c9
                refine z_iconst (n := 0) d_M_studyPart_140 (by decide) ?_
                exact z_zret d_M_studyPart_141 rfl (by decide) (by decide) (by decide) ⟨rfl, rfl, h⟩
              · have h := h.2 c9
                refine z_aload_n (i := 0) (c := 0) 2 d_M_studyPart_127 rfl rfl rfl ?_
                refine z_bipush (n := 59) d_M_studyPart_128 (by decide) (by decide) ?_
                refine z_cV (c := 0) (as := [(0, 59)]) (d' := 3) (st := []) d_M_studyPart_130 mi_M_wantSign ml_M_197 mv_M_wantSign se_M_wantSign rfl rfl rfl rfl (ks_M_0 hx) rfl rfl (kl_M_0 hx) rfl rfl (z_Omono h (fun r7 g7 _ h hro => ?_))
                have h := h (z_b01 hro)
                have hzr7 := z_b01 hro
                show z_U X 11 m_M_studyPart 133 [(2, (0, r6)), (1, (0, r0)), (0, (2, 0))] [(0, r7)] N σ g7 Q
                refine z_if_eq (tgt := 140) d_M_studyPart_133 (by decide) (fun c10 => ?_) (fun c10 => ?_)
                · have h := h.1 c10
                  refine z_iconst (n := 0) d_M_studyPart_140 (by decide) ?_
                  exact z_zret d_M_studyPart_141 rfl (by decide) (by decide) (by decide) ⟨rfl, rfl, h⟩
                · have h := h.2 c10
                  refine z_iconst (n := 1) d_M_studyPart_136 (by decide) ?_
                  refine z_goto (tgt := 141) d_M_studyPart_137 (by decide) ?_
                  exact z_zret d_M_studyPart_141 rfl (by decide) (by decide) (by decide) ⟨rfl, rfl, h⟩
          · have h := h.1 c5
            refine z_aload_n (i := 0) (c := 0) 1 d_M_studyPart_86 rfl rfl rfl ?_
            refine z_sipush (n := 2440) d_M_studyPart_87 (by decide) (by decide) ?_
            refine z_iconst (n := 0) d_M_studyPart_90 (by decide) ?_
            refine z_bipush (n := 16) d_M_studyPart_91 (by decide) (by decide) ?_
            refine z_cV (c := 0) (as := [(0, 2440), (0, 0), (0, 16)]) (d' := 3) (st := []) d_M_studyPart_93 mi_M_number ml_M_175 mv_M_number se_M_number rfl rfl rfl rfl (ks_M_0 hx) rfl rfl (kl_M_0 hx) rfl rfl (z_Omono h (fun r8 g8 _ h hro => ?_))
            have h := h (z_b01 hro)
            have hzr8 := z_b01 hro
            show z_U X 11 m_M_studyPart 96 [(1, (0, r0)), (0, (2, 0))] [(0, r8)] N σ g8 Q
            refine z_goto (tgt := 122) d_M_studyPart_96 (by decide) ?_
            refine z_istore_n (i := 2) (ls' := [(2, (0, r8)), (1, (0, r0)), (0, (2, 0))]) d_M_studyPart_122 rfl rfl rfl ?_
            refine z_iload_n (i := 2) 0 d_M_studyPart_123 rfl rfl ?_
            refine z_if_eq (tgt := 140) d_M_studyPart_124 (by decide) (fun c11 => ?_) (fun c11 => ?_)
            · have h := h.1 c11
              refine z_iconst (n := 0) d_M_studyPart_140 (by decide) ?_
              exact z_zret d_M_studyPart_141 rfl (by decide) (by decide) (by decide) ⟨rfl, rfl, h⟩
            · have h := h.2 c11
              refine z_aload_n (i := 0) (c := 0) 2 d_M_studyPart_127 rfl rfl rfl ?_
              refine z_bipush (n := 59) d_M_studyPart_128 (by decide) (by decide) ?_
              refine z_cV (c := 0) (as := [(0, 59)]) (d' := 3) (st := []) d_M_studyPart_130 mi_M_wantSign ml_M_197 mv_M_wantSign se_M_wantSign rfl rfl rfl rfl (ks_M_0 hx) rfl rfl (kl_M_0 hx) rfl rfl (z_Omono h (fun r9 g9 _ h hro => ?_))
              have h := h (z_b01 hro)
              have hzr9 := z_b01 hro
              show z_U X 11 m_M_studyPart 133 [(2, (0, r8)), (1, (0, r0)), (0, (2, 0))] [(0, r9)] N σ g9 Q
              refine z_if_eq (tgt := 140) d_M_studyPart_133 (by decide) (fun c12 => ?_) (fun c12 => ?_)
              · have h := h.1 c12
                refine z_iconst (n := 0) d_M_studyPart_140 (by decide) ?_
                exact z_zret d_M_studyPart_141 rfl (by decide) (by decide) (by decide) ⟨rfl, rfl, h⟩
              · have h := h.2 c12
                refine z_iconst (n := 1) d_M_studyPart_136 (by decide) ?_
                refine z_goto (tgt := 141) d_M_studyPart_137 (by decide) ?_
                exact z_zret d_M_studyPart_141 rfl (by decide) (by decide) (by decide) ⟨rfl, rfl, h⟩
      · have h := h.1 c3
        refine z_aload_n (i := 0) (c := 0) 1 d_M_studyPart_27 rfl rfl rfl ?_
        refine z_cV (c := 0) (as := []) (d' := 10) (st := []) d_M_studyPart_28 mi_M_aPin ml_M_193 mv_M_aPin se_M_aPin rfl rfl rfl rfl (ks_M_0 hx) rfl rfl (kl_M_0 hx) rfl rfl (z_Omono h (fun r10 g10 _ h hro => ?_))
        have h := h (z_b01 hro)
        have hzr10 := z_b01 hro
        show z_U X 11 m_M_studyPart 31 [(1, (0, r0)), (0, (2, 0))] [(0, r10)] N σ g10 Q
        refine z_if_eq (tgt := 47) d_M_studyPart_31 (by decide) (fun c13 => ?_) (fun c13 => ?_)
        · have h := h.1 c13
          refine z_iconst (n := 0) d_M_studyPart_47 (by decide) ?_
          exact z_zret d_M_studyPart_48 rfl (by decide) (by decide) (by decide) ⟨rfl, rfl, h⟩
        · have h := h.2 c13
          refine z_aload_n (i := 0) (c := 0) 1 d_M_studyPart_34 rfl rfl rfl ?_
          refine z_bipush (n := 59) d_M_studyPart_35 (by decide) (by decide) ?_
          refine z_cV (c := 0) (as := [(0, 59)]) (d' := 3) (st := []) d_M_studyPart_37 mi_M_wantSign ml_M_197 mv_M_wantSign se_M_wantSign rfl rfl rfl rfl (ks_M_0 hx) rfl rfl (kl_M_0 hx) rfl rfl (z_Omono h (fun r11 g11 _ h hro => ?_))
          have h := h (z_b01 hro)
          have hzr11 := z_b01 hro
          show z_U X 11 m_M_studyPart 40 [(1, (0, r0)), (0, (2, 0))] [(0, r11)] N σ g11 Q
          refine z_if_eq (tgt := 47) d_M_studyPart_40 (by decide) (fun c14 => ?_) (fun c14 => ?_)
          · have h := h.1 c14
            refine z_iconst (n := 0) d_M_studyPart_47 (by decide) ?_
            exact z_zret d_M_studyPart_48 rfl (by decide) (by decide) (by decide) ⟨rfl, rfl, h⟩
          · have h := h.2 c14
            refine z_iconst (n := 1) d_M_studyPart_43 (by decide) ?_
            refine z_goto (tgt := 48) d_M_studyPart_44 (by decide) ?_
            exact z_zret d_M_studyPart_48 rfl (by decide) (by decide) (by decide) ⟨rfl, rfl, h⟩
    · have h := h.2 c2
      refine z_aload_n (i := 0) (c := 0) 1 d_M_studyPart_16 rfl rfl rfl ?_
      refine z_iconst (n := 2) d_M_studyPart_17 (by decide) ?_
      refine z_cV (c := 0) (as := [(0, 2)]) (d' := 1) (st := []) d_M_studyPart_18 mi_M_fails ml_M_166 mv_M_fails se_M_fails rfl rfl rfl rfl (ks_M_0 hx) rfl rfl (kl_M_0 hx) rfl rfl (z_Omono h (fun r12 g12 _ h hro => ?_))
      have h := h (z_b01 hro)
      have hzr12 := z_b01 hro
      show z_U X 11 m_M_studyPart 21 [(1, (0, r0)), (0, (2, 0))] [(0, r12)] N σ g12 Q
      exact z_zret d_M_studyPart_21 rfl (by decide) (by decide) hzr12 ⟨rfl, rfl, h⟩
theorem d_M_tourOrder_0 : decode (z_c m_M_tourOrder) 0 = .ok (.iload_n 1, 1) := by decide +kernel
theorem d_M_tourOrder_1 : decode (z_c m_M_tourOrder) 1 = .ok (.lookupswitch 83 #[(1, 54), (3, 43), (12, 77), (13, 66)], 43) := by decide +kernel
theorem d_M_tourOrder_44 : decode (z_c m_M_tourOrder) 44 = .ok (.aload_n 0, 1) := by decide +kernel
theorem d_M_tourOrder_45 : decode (z_c m_M_tourOrder) 45 = .ok (.iload_n 2, 1) := by decide +kernel
theorem d_M_tourOrder_46 : decode (z_c m_M_tourOrder) 46 = .ok (.iconst 1, 1) := by decide +kernel
theorem d_M_tourOrder_47 : decode (z_c m_M_tourOrder) 47 = .ok (.iadd, 1) := by decide +kernel
theorem d_M_tourOrder_48 : decode (z_c m_M_tourOrder) 48 = .ok (.iconst 1, 1) := by decide +kernel
theorem d_M_tourOrder_49 : decode (z_c m_M_tourOrder) 49 = .ok (.bipush 99, 2) := by decide +kernel
theorem d_M_tourOrder_51 : decode (z_c m_M_tourOrder) 51 = .ok (.invokevirtual 175, 3) := by decide +kernel
theorem d_M_tourOrder_54 : decode (z_c m_M_tourOrder) 54 = .ok (.ireturn, 1) := by decide +kernel
theorem d_M_tourOrder_55 : decode (z_c m_M_tourOrder) 55 = .ok (.aload_n 0, 1) := by decide +kernel
theorem d_M_tourOrder_56 : decode (z_c m_M_tourOrder) 56 = .ok (.iload_n 2, 1) := by decide +kernel
theorem d_M_tourOrder_57 : decode (z_c m_M_tourOrder) 57 = .ok (.iconst 1, 1) := by decide +kernel
theorem d_M_tourOrder_58 : decode (z_c m_M_tourOrder) 58 = .ok (.iadd, 1) := by decide +kernel
theorem d_M_tourOrder_59 : decode (z_c m_M_tourOrder) 59 = .ok (.iconst 1, 1) := by decide +kernel
theorem d_M_tourOrder_60 : decode (z_c m_M_tourOrder) 60 = .ok (.sipush 200, 3) := by decide +kernel
theorem d_M_tourOrder_63 : decode (z_c m_M_tourOrder) 63 = .ok (.invokevirtual 175, 3) := by decide +kernel
theorem d_M_tourOrder_66 : decode (z_c m_M_tourOrder) 66 = .ok (.ireturn, 1) := by decide +kernel
theorem d_M_tourOrder_67 : decode (z_c m_M_tourOrder) 67 = .ok (.aload_n 0, 1) := by decide +kernel
theorem d_M_tourOrder_68 : decode (z_c m_M_tourOrder) 68 = .ok (.iload_n 2, 1) := by decide +kernel
theorem d_M_tourOrder_69 : decode (z_c m_M_tourOrder) 69 = .ok (.iconst 1, 1) := by decide +kernel
theorem d_M_tourOrder_70 : decode (z_c m_M_tourOrder) 70 = .ok (.iadd, 1) := by decide +kernel
theorem d_M_tourOrder_71 : decode (z_c m_M_tourOrder) 71 = .ok (.iconst 1, 1) := by decide +kernel
theorem d_M_tourOrder_72 : decode (z_c m_M_tourOrder) 72 = .ok (.bipush 99, 2) := by decide +kernel
theorem d_M_tourOrder_74 : decode (z_c m_M_tourOrder) 74 = .ok (.invokevirtual 175, 3) := by decide +kernel
theorem d_M_tourOrder_77 : decode (z_c m_M_tourOrder) 77 = .ok (.ireturn, 1) := by decide +kernel
theorem d_M_tourOrder_78 : decode (z_c m_M_tourOrder) 78 = .ok (.aload_n 0, 1) := by decide +kernel
theorem d_M_tourOrder_79 : decode (z_c m_M_tourOrder) 79 = .ok (.iload_n 2, 1) := by decide +kernel
theorem d_M_tourOrder_80 : decode (z_c m_M_tourOrder) 80 = .ok (.invokevirtual 219, 3) := by decide +kernel
theorem d_M_tourOrder_83 : decode (z_c m_M_tourOrder) 83 = .ok (.ireturn, 1) := by decide +kernel
theorem d_M_tourOrder_84 : decode (z_c m_M_tourOrder) 84 = .ok (.iconst 1, 1) := by decide +kernel
theorem d_M_tourOrder_85 : decode (z_c m_M_tourOrder) 85 = .ok (.ireturn, 1) := by decide +kernel
set_option maxRecDepth 8000 in
theorem b_M_tourOrder_0 {X : z_X} {N : Nat} {σ g : z_G} {Q : z_P} {a1 a2 : Int} (hx : z_lay X N σ 0 z_SM z_RM) (h : ((a1 = 1) → ((-2147483648 ≤ (a2 + 1) ∧ (a2 + 1) ≤ 2147483647) ∧ (z_O X 3 m_M_number [(2, 0), (0, a2 + 1), (0, 1), (0, 200)] N σ g (fun r0 g0 => (r0 = 0 ∨ r0 = 1) → Q r0 g0)))) ∧ ((a1 = 3) → ((-2147483648 ≤ (a2 + 1) ∧ (a2 + 1) ≤ 2147483647) ∧ (z_O X 3 m_M_number [(2, 0), (0, a2 + 1), (0, 1), (0, 99)] N σ g (fun r1 g1 => (r1 = 0 ∨ r1 = 1) → Q r1 g1)))) ∧ ((a1 = 12) → (z_O X 10 m_M_test [(2, 0), (0, a2)] N σ g (fun r2 g2 => (r2 = 0 ∨ r2 = 1) → Q r2 g2))) ∧ ((a1 = 13) → ((-2147483648 ≤ (a2 + 1) ∧ (a2 + 1) ≤ 2147483647) ∧ (z_O X 3 m_M_number [(2, 0), (0, a2 + 1), (0, 1), (0, 99)] N σ g (fun r3 g3 => (r3 = 0 ∨ r3 = 1) → Q r3 g3)))) ∧ ((¬ (a1 = 1) ∧ ¬ (a1 = 3) ∧ ¬ (a1 = 12) ∧ ¬ (a1 = 13)) → Q 1 g)) : z_O X 11 m_M_tourOrder [(2, 0), (0, a1), (0, a2)] N σ g Q := by
  refine z_Oenter mi_M_tourOrder rfl (fun _ => ?_)
  show z_U X 11 m_M_tourOrder 0 [(0, (2, 0)), (1, (0, a1)), (2, (0, a2))] [] N σ g Q
  refine z_iload_n (i := 1) 1 d_M_tourOrder_0 rfl rfl ?_
  by_cases c2 : a1 = 1
  · have h := h.1 c2
    refine z_ti c2 ?_
    refine z_look (off := 54) (tgt := 55) d_M_tourOrder_1 (by decide) (by decide) (by decide) ?_
    refine z_aload_n (i := 0) (c := 0) 0 d_M_tourOrder_55 rfl rfl rfl ?_
    refine z_iload_n (i := 2) 2 d_M_tourOrder_56 rfl rfl ?_
    refine z_iconst (n := 1) d_M_tourOrder_57 (by decide) ?_
    obtain ⟨c3, h⟩ := h
    refine z_iadd d_M_tourOrder_58 c3 ?_
    refine z_iconst (n := 1) d_M_tourOrder_59 (by decide) ?_
    refine z_sipush (n := 200) d_M_tourOrder_60 (by decide) (by decide) ?_
    refine z_cV (c := 0) (as := [(0, a2 + 1), (0, 1), (0, 200)]) (d' := 3) (st := []) d_M_tourOrder_63 mi_M_number ml_M_175 mv_M_number se_M_number rfl rfl rfl rfl (ks_M_0 hx) rfl rfl (kl_M_0 hx) rfl rfl (z_Omono h (fun r0 g0 _ h hro => ?_))
    have h := h (z_b01 hro)
    have hzr0 := z_b01 hro
    show z_U X 11 m_M_tourOrder 66 [(0, (2, 0)), (1, (0, a1)), (2, (0, a2))] [(0, r0)] N σ g0 Q
    exact z_zret d_M_tourOrder_66 rfl (by decide) (by decide) hzr0 ⟨rfl, rfl, h⟩
  have h := h.2
  by_cases c4 : a1 = 3
  · have h := h.1 c4
    refine z_ti c4 ?_
    refine z_look (off := 43) (tgt := 44) d_M_tourOrder_1 (by decide) (by decide) (by decide) ?_
    refine z_aload_n (i := 0) (c := 0) 0 d_M_tourOrder_44 rfl rfl rfl ?_
    refine z_iload_n (i := 2) 2 d_M_tourOrder_45 rfl rfl ?_
    refine z_iconst (n := 1) d_M_tourOrder_46 (by decide) ?_
    obtain ⟨c5, h⟩ := h
    refine z_iadd d_M_tourOrder_47 c5 ?_
    refine z_iconst (n := 1) d_M_tourOrder_48 (by decide) ?_
    refine z_bipush (n := 99) d_M_tourOrder_49 (by decide) (by decide) ?_
    refine z_cV (c := 0) (as := [(0, a2 + 1), (0, 1), (0, 99)]) (d' := 3) (st := []) d_M_tourOrder_51 mi_M_number ml_M_175 mv_M_number se_M_number rfl rfl rfl rfl (ks_M_0 hx) rfl rfl (kl_M_0 hx) rfl rfl (z_Omono h (fun r1 g1 _ h hro => ?_))
    have h := h (z_b01 hro)
    have hzr1 := z_b01 hro
    show z_U X 11 m_M_tourOrder 54 [(0, (2, 0)), (1, (0, a1)), (2, (0, a2))] [(0, r1)] N σ g1 Q
    exact z_zret d_M_tourOrder_54 rfl (by decide) (by decide) hzr1 ⟨rfl, rfl, h⟩
  have h := h.2
  by_cases c6 : a1 = 12
  · have h := h.1 c6
    refine z_ti c6 ?_
    refine z_look (off := 77) (tgt := 78) d_M_tourOrder_1 (by decide) (by decide) (by decide) ?_
    refine z_aload_n (i := 0) (c := 0) 0 d_M_tourOrder_78 rfl rfl rfl ?_
    refine z_iload_n (i := 2) 2 d_M_tourOrder_79 rfl rfl ?_
    refine z_cV (c := 0) (as := [(0, a2)]) (d' := 10) (st := []) d_M_tourOrder_80 mi_M_test ml_M_219 mv_M_test se_M_test rfl rfl rfl rfl (ks_M_0 hx) rfl rfl (kl_M_0 hx) rfl rfl (z_Omono h (fun r2 g2 _ h hro => ?_))
    have h := h (z_b01 hro)
    have hzr2 := z_b01 hro
    show z_U X 11 m_M_tourOrder 83 [(0, (2, 0)), (1, (0, a1)), (2, (0, a2))] [(0, r2)] N σ g2 Q
    exact z_zret d_M_tourOrder_83 rfl (by decide) (by decide) hzr2 ⟨rfl, rfl, h⟩
  have h := h.2
  by_cases c7 : a1 = 13
  · have h := h.1 c7
    refine z_ti c7 ?_
    refine z_look (off := 66) (tgt := 67) d_M_tourOrder_1 (by decide) (by decide) (by decide) ?_
    refine z_aload_n (i := 0) (c := 0) 0 d_M_tourOrder_67 rfl rfl rfl ?_
    refine z_iload_n (i := 2) 2 d_M_tourOrder_68 rfl rfl ?_
    refine z_iconst (n := 1) d_M_tourOrder_69 (by decide) ?_
    obtain ⟨c8, h⟩ := h
    refine z_iadd d_M_tourOrder_70 c8 ?_
    refine z_iconst (n := 1) d_M_tourOrder_71 (by decide) ?_
    refine z_bipush (n := 99) d_M_tourOrder_72 (by decide) (by decide) ?_
    refine z_cV (c := 0) (as := [(0, a2 + 1), (0, 1), (0, 99)]) (d' := 3) (st := []) d_M_tourOrder_74 mi_M_number ml_M_175 mv_M_number se_M_number rfl rfl rfl rfl (ks_M_0 hx) rfl rfl (kl_M_0 hx) rfl rfl (z_Omono h (fun r3 g3 _ h hro => ?_))
    have h := h (z_b01 hro)
    have hzr3 := z_b01 hro
    show z_U X 11 m_M_tourOrder 77 [(0, (2, 0)), (1, (0, a1)), (2, (0, a2))] [(0, r3)] N σ g3 Q
    exact z_zret d_M_tourOrder_77 rfl (by decide) (by decide) hzr3 ⟨rfl, rfl, h⟩
  have h := h.2
  have h := h ⟨c2, c4, c6, c7⟩
  refine z_look (off := 83) (tgt := 84) d_M_tourOrder_1 (by decide) (by simp [Op.lookupswitch.offset, Ne.symm c2, Ne.symm c4, Ne.symm c6, Ne.symm c7]) (by decide) ?_
  refine z_iconst (n := 1) d_M_tourOrder_84 (by decide) ?_
  exact z_zret d_M_tourOrder_85 rfl (by decide) (by decide) (by decide) ⟨rfl, rfl, h⟩
theorem d_M_study_0 : decode (z_c m_M_study) 0 = .ok (.aload_n 0, 1) := by decide +kernel
theorem d_M_study_1 : decode (z_c m_M_study) 1 = .ok (.iload_n 1, 1) := by decide +kernel
theorem d_M_study_2 : decode (z_c m_M_study) 2 = .ok (.sipush 900, 3) := by decide +kernel
theorem d_M_study_5 : decode (z_c m_M_study) 5 = .ok (.invokevirtual 210, 3) := by decide +kernel
theorem d_M_study_8 : decode (z_c m_M_study) 8 = .ok (.ifCond .ne 9, 3) := by decide +kernel
theorem d_M_study_11 : decode (z_c m_M_study) 11 = .ok (.aload_n 0, 1) := by decide +kernel
theorem d_M_study_12 : decode (z_c m_M_study) 12 = .ok (.iconst 1, 1) := by decide +kernel
theorem d_M_study_13 : decode (z_c m_M_study) 13 = .ok (.invokevirtual 87, 3) := by decide +kernel
theorem d_M_study_16 : decode (z_c m_M_study) 16 = .ok (.ireturn, 1) := by decide +kernel
theorem d_M_study_17 : decode (z_c m_M_study) 17 = .ok (.aload_n 0, 1) := by decide +kernel
theorem d_M_study_18 : decode (z_c m_M_study) 18 = .ok (.sipush 2440, 3) := by decide +kernel
theorem d_M_study_21 : decode (z_c m_M_study) 21 = .ok (.invokevirtual 74, 3) := by decide +kernel
theorem d_M_study_24 : decode (z_c m_M_study) 24 = .ok (.aload_n 0, 1) := by decide +kernel
theorem d_M_study_25 : decode (z_c m_M_study) 25 = .ok (.iconst 0, 1) := by decide +kernel
theorem d_M_study_26 : decode (z_c m_M_study) 26 = .ok (.putfield 200, 3) := by decide +kernel
theorem d_M_study_29 : decode (z_c m_M_study) 29 = .ok (.iconst 1, 1) := by decide +kernel
theorem d_M_study_30 : decode (z_c m_M_study) 30 = .ok (.istore_n 2, 1) := by decide +kernel
theorem d_M_study_31 : decode (z_c m_M_study) 31 = .ok (.iload_n 2, 1) := by decide +kernel
theorem d_M_study_32 : decode (z_c m_M_study) 32 = .ok (.ifCond .eq 18, 3) := by decide +kernel
theorem d_M_study_35 : decode (z_c m_M_study) 35 = .ok (.aload_n 0, 1) := by decide +kernel
theorem d_M_study_36 : decode (z_c m_M_study) 36 = .ok (.getfield 132, 3) := by decide +kernel
theorem d_M_study_39 : decode (z_c m_M_study) 39 = .ok (.ifCond .eq 11, 3) := by decide +kernel
theorem d_M_study_42 : decode (z_c m_M_study) 42 = .ok (.aload_n 0, 1) := by decide +kernel
theorem d_M_study_43 : decode (z_c m_M_study) 43 = .ok (.invokevirtual 213, 3) := by decide +kernel
theorem d_M_study_46 : decode (z_c m_M_study) 46 = .ok (.istore_n 2, 1) := by decide +kernel
theorem d_M_study_47 : decode (z_c m_M_study) 47 = .ok (.goto (-16), 3) := by decide +kernel
theorem d_M_study_50 : decode (z_c m_M_study) 50 = .ok (.aload_n 0, 1) := by decide +kernel
theorem d_M_study_51 : decode (z_c m_M_study) 51 = .ok (.sipush 2440, 3) := by decide +kernel
theorem d_M_study_54 : decode (z_c m_M_study) 54 = .ok (.invokevirtual 78, 3) := by decide +kernel
theorem d_M_study_57 : decode (z_c m_M_study) 57 = .ok (.aload_n 0, 1) := by decide +kernel
theorem d_M_study_58 : decode (z_c m_M_study) 58 = .ok (.getfield 157, 3) := by decide +kernel
theorem d_M_study_61 : decode (z_c m_M_study) 61 = .ok (.ifCond .ne 34, 3) := by decide +kernel
theorem d_M_study_64 : decode (z_c m_M_study) 64 = .ok (.iconst 0, 1) := by decide +kernel
theorem d_M_study_65 : decode (z_c m_M_study) 65 = .ok (.istore_n 3, 1) := by decide +kernel
theorem d_M_study_66 : decode (z_c m_M_study) 66 = .ok (.iload_n 3, 1) := by decide +kernel
theorem d_M_study_67 : decode (z_c m_M_study) 67 = .ok (.sipush 610, 3) := by decide +kernel
theorem d_M_study_70 : decode (z_c m_M_study) 70 = .ok (.if_icmp .ge 25, 3) := by decide +kernel
theorem d_M_study_73 : decode (z_c m_M_study) 73 = .ok (.aload_n 0, 1) := by decide +kernel
theorem d_M_study_74 : decode (z_c m_M_study) 74 = .ok (.getfield 7, 3) := by decide +kernel
theorem d_M_study_77 : decode (z_c m_M_study) 77 = .ok (.iload_n 3, 1) := by decide +kernel
theorem d_M_study_78 : decode (z_c m_M_study) 78 = .ok (.aload_n 0, 1) := by decide +kernel
theorem d_M_study_79 : decode (z_c m_M_study) 79 = .ok (.getfield 7, 3) := by decide +kernel
theorem d_M_study_82 : decode (z_c m_M_study) 82 = .ok (.sipush 2440, 3) := by decide +kernel
theorem d_M_study_85 : decode (z_c m_M_study) 85 = .ok (.iload_n 3, 1) := by decide +kernel
theorem d_M_study_86 : decode (z_c m_M_study) 86 = .ok (.iadd, 1) := by decide +kernel
theorem d_M_study_87 : decode (z_c m_M_study) 87 = .ok (.iaload, 1) := by decide +kernel
theorem d_M_study_88 : decode (z_c m_M_study) 88 = .ok (.iastore, 1) := by decide +kernel
theorem d_M_study_89 : decode (z_c m_M_study) 89 = .ok (.iinc 3 1, 3) := by decide +kernel
theorem d_M_study_92 : decode (z_c m_M_study) 92 = .ok (.goto (-26), 3) := by decide +kernel
theorem d_M_study_95 : decode (z_c m_M_study) 95 = .ok (.aload_n 0, 1) := by decide +kernel
theorem d_M_study_96 : decode (z_c m_M_study) 96 = .ok (.aload_n 0, 1) := by decide +kernel
theorem d_M_study_97 : decode (z_c m_M_study) 97 = .ok (.getfield 7, 3) := by decide +kernel
theorem d_M_study_100 : decode (z_c m_M_study) 100 = .ok (.iconst 4, 1) := by decide +kernel
theorem d_M_study_101 : decode (z_c m_M_study) 101 = .ok (.iaload, 1) := by decide +kernel
theorem d_M_study_102 : decode (z_c m_M_study) 102 = .ok (.invokevirtual 216, 3) := by decide +kernel
theorem d_M_study_105 : decode (z_c m_M_study) 105 = .ok (.ireturn, 1) := by decide +kernel
abbrev L_M_study_31 (X : z_X) (N : Nat) (σ : z_G) (x2 : Int) (g : z_G) (Q : z_P) : Prop := z_U X 12 m_M_study 31 [(0, (2, 0)), (2, (0, x2))] [] N σ g Q
abbrev L_M_study_66 (X : z_X) (N : Nat) (σ : z_G) (x3 : Int) (g : z_G) (Q : z_P) : Prop := z_U X 12 m_M_study 66 [(0, (2, 0)), (3, (0, x3))] [] N σ g Q
set_option maxRecDepth 8000 in
theorem b_M_study_0 {X : z_X} {N : Nat} {σ g : z_G} {Q : z_P} {a1 : Int} (hx : z_lay X N σ 0 z_SM z_RM) (h : z_O X 3 m_M_begins [(2, 0), (0, a1), (0, 900)] N σ g (fun r0 g0 => (r0 = 0 ∨ r0 = 1) → (((r0 = 0) → Q (-1) (z_up g0 0 1 1)) ∧ (¬ (r0 = 0) → (z_O X 1 m_M_plain [(2, 0), (0, 2440)] N σ g0 (fun r1 g1 => L_M_study_31 X N σ 1 (z_up g1 0 18 0) Q)))))) : z_O X 12 m_M_study [(2, 0), (0, a1)] N σ g Q := by
  refine z_Oenter mi_M_study rfl (fun _ => ?_)
  show z_U X 12 m_M_study 0 [(0, (2, 0)), (1, (0, a1))] [] N σ g Q
  refine z_aload_n (i := 0) (c := 0) 0 d_M_study_0 rfl rfl rfl ?_
  refine z_iload_n (i := 1) 1 d_M_study_1 rfl rfl ?_
  refine z_sipush (n := 900) d_M_study_2 (by decide) (by decide) ?_
  refine z_cV (c := 0) (as := [(0, a1), (0, 900)]) (d' := 3) (st := []) d_M_study_5 mi_M_begins ml_M_210 mv_M_begins se_M_begins rfl rfl rfl rfl (ks_M_0 hx) rfl rfl (kl_M_0 hx) rfl rfl (z_Omono h (fun r0 g0 _ h hro => ?_))
  have h := h (z_b01 hro)
  have hzr0 := z_b01 hro
  show z_U X 12 m_M_study 8 [(0, (2, 0)), (1, (0, a1))] [(0, r0)] N σ g0 Q
  refine z_if_ne (tgt := 17) d_M_study_8 (by decide) (fun c1 => ?_) (fun c1 => ?_)
  · have h := h.2 c1
    refine z_aload_n (i := 0) (c := 0) 0 d_M_study_17 rfl rfl rfl ?_
    refine z_sipush (n := 2440) d_M_study_18 (by decide) (by decide) ?_
    refine z_cV (c := 0) (as := [(0, 2440)]) (d' := 1) (st := []) d_M_study_21 mi_M_plain ml_M_74 mv_M_plain se_M_plain rfl rfl rfl rfl (ks_M_0 hx) rfl rfl (kl_M_0 hx) rfl rfl (z_Omono h (fun r1 g1 _ h hro => ?_))
    show z_U X 12 m_M_study 24 [(0, (2, 0)), (1, (0, a1))] [] N σ g1 Q
    refine z_aload_n (i := 0) (c := 0) 0 d_M_study_24 rfl rfl rfl ?_
    refine z_iconst (n := 0) d_M_study_25 (by decide) ?_
    refine z_puti (c := 0) (kI := 18) d_M_study_26 fd_M_toldParts fl_M_200 pf_M_toldParts rfl rfl rfl rfl (ks_M_0 hx) (kl_M_0 hx) ?_
    refine z_iconst (n := 1) d_M_study_29 (by decide) ?_
    refine z_istore_n (i := 2) (ls' := [(2, (0, 1)), (0, (2, 0)), (1, (0, a1))]) d_M_study_30 rfl rfl rfl ?_
    refine z_sub (ls' := [(0, (2, 0)), (2, (0, 1))]) [1, 0] rfl ?_
    exact h
  · have h := h.1 c1
    refine z_aload_n (i := 0) (c := 0) 0 d_M_study_11 rfl rfl rfl ?_
    refine z_iconst (n := 1) d_M_study_12 (by decide) ?_
    refine z_cV (c := 0) (as := [(0, 1)]) (d' := 1) (st := []) d_M_study_13 mi_M_refuse ml_M_87 mv_M_refuse se_M_refuse rfl rfl rfl rfl (ks_M_0 hx) rfl rfl (kl_M_0 hx) rfl rfl (b_M_refuse_0 hx ?_)
    intro _
    show z_U X 12 m_M_study 16 [(0, (2, 0)), (1, (0, a1))] [(0, (-1))] N σ (z_up g0 0 1 1) Q
    exact z_iret d_M_study_16 rfl (by decide) (by decide) ⟨rfl, rfl, h⟩
set_option maxRecDepth 8000 in
theorem b_M_study_31 {X : z_X} {N : Nat} {σ g : z_G} {Q : z_P} {x2 : Int} (hx : z_lay X N σ 0 z_SM z_RM) (h : ((x2 = 0) → (z_O X 1 m_M_sees [(2, 0), (0, 2440)] N σ g (fun r0 g0 => ((((g0 0 17) = 0) → L_M_study_66 X N σ 0 g0 Q) ∧ (¬ ((g0 0 17) = 0) → (z_O X 2 m_M_taken [(2, 0), (0, g0 1 4)] N σ g0 (fun r1 g1 => Q r1 g1))))))) ∧ (¬ (x2 = 0) → ((((g 0 11) = 0) → (z_O X 1 m_M_sees [(2, 0), (0, 2440)] N σ g (fun r2 g2 => ((((g2 0 17) = 0) → L_M_study_66 X N σ 0 g2 Q) ∧ (¬ ((g2 0 17) = 0) → (z_O X 2 m_M_taken [(2, 0), (0, g2 1 4)] N σ g2 (fun r3 g3 => Q r3 g3))))))) ∧ (¬ ((g 0 11) = 0) → (z_O X 11 m_M_studyPart [(2, 0)] N σ g (fun r4 g4 => (r4 = 0 ∨ r4 = 1) → L_M_study_31 X N σ r4 g4 Q)))))) : L_M_study_31 X N σ x2 g Q := by
  refine z_iload_n (i := 2) 1 d_M_study_31 rfl rfl ?_
  refine z_if_eq (tgt := 50) d_M_study_32 (by decide) (fun c1 => ?_) (fun c1 => ?_)
  · have h := h.1 c1
    refine z_aload_n (i := 0) (c := 0) 0 d_M_study_50 rfl rfl rfl ?_
    refine z_sipush (n := 2440) d_M_study_51 (by decide) (by decide) ?_
    refine z_cV (c := 0) (as := [(0, 2440)]) (d' := 1) (st := []) d_M_study_54 mi_M_sees ml_M_78 mv_M_sees se_M_sees rfl rfl rfl rfl (ks_M_0 hx) rfl rfl (kl_M_0 hx) rfl rfl (z_Omono h (fun r0 g0 _ h hro => ?_))
    show z_U X 12 m_M_study 57 [(0, (2, 0)), (2, (0, x2))] [] N σ g0 Q
    refine z_aload_n (i := 0) (c := 0) 0 d_M_study_57 rfl rfl rfl ?_
    refine z_geti (c := 0) (kI := 17) d_M_study_58 fd_M_faults fl_M_157 (Or.inl rfl) rfl rfl (ks_M_0 hx) (kl_M_0 hx) ?_
    refine z_if_ne (tgt := 95) d_M_study_61 (by decide) (fun c2 => ?_) (fun c2 => ?_)
    · have h := h.2 c2
      refine z_aload_n (i := 0) (c := 0) 0 d_M_study_95 rfl rfl rfl ?_
      refine z_aload_n (i := 0) (c := 0) 0 d_M_study_96 rfl rfl rfl ?_
      refine z_getr (c := 0) (kI := 0) (r2 := 1) d_M_study_97 fd_M_at fl_M_7 rfl rfl rfl (ks_M_0 hx) (kl_M_0 hx) (kr_M_0_0 hx) ?_
      refine z_iconst (n := 4) d_M_study_100 (by decide) ?_
      refine z_iald (c := 1) (m := 3296) d_M_study_101 rfl (ks_M_1 hx) (kl_M_1 hx) rfl (by decide) (by decide) ?_
      refine z_cV (c := 0) (as := [(0, g0 1 4)]) (d' := 2) (st := []) d_M_study_102 mi_M_taken ml_M_216 mv_M_taken se_M_taken rfl rfl rfl rfl (ks_M_0 hx) rfl rfl (kl_M_0 hx) rfl rfl (z_Omono h (fun r1 g1 _ h hro => ?_))
      show z_U X 12 m_M_study 105 [(0, (2, 0)), (2, (0, x2))] [(0, r1)] N σ g1 Q
      exact z_iret d_M_study_105 rfl (by decide) (by decide) ⟨rfl, rfl, h⟩
    · have h := h.1 c2
      refine z_iconst (n := 0) d_M_study_64 (by decide) ?_
      refine z_istore_n (i := 3) (ls' := [(3, (0, 0)), (0, (2, 0)), (2, (0, x2))]) d_M_study_65 rfl rfl rfl ?_
      refine z_sub (ls' := [(0, (2, 0)), (3, (0, 0))]) [1, 0] rfl ?_
      exact h
  · have h := h.2 c1
    refine z_aload_n (i := 0) (c := 0) 0 d_M_study_35 rfl rfl rfl ?_
    refine z_geti (c := 0) (kI := 11) d_M_study_36 fd_M_token fl_M_132 (Or.inl rfl) rfl rfl (ks_M_0 hx) (kl_M_0 hx) ?_
    refine z_if_eq (tgt := 50) d_M_study_39 (by decide) (fun c3 => ?_) (fun c3 => ?_)
    · have h := h.1 c3
      refine z_aload_n (i := 0) (c := 0) 0 d_M_study_50 rfl rfl rfl ?_
      refine z_sipush (n := 2440) d_M_study_51 (by decide) (by decide) ?_
      refine z_cV (c := 0) (as := [(0, 2440)]) (d' := 1) (st := []) d_M_study_54 mi_M_sees ml_M_78 mv_M_sees se_M_sees rfl rfl rfl rfl (ks_M_0 hx) rfl rfl (kl_M_0 hx) rfl rfl (z_Omono h (fun r2 g2 _ h hro => ?_))
      show z_U X 12 m_M_study 57 [(0, (2, 0)), (2, (0, x2))] [] N σ g2 Q
      refine z_aload_n (i := 0) (c := 0) 0 d_M_study_57 rfl rfl rfl ?_
      refine z_geti (c := 0) (kI := 17) d_M_study_58 fd_M_faults fl_M_157 (Or.inl rfl) rfl rfl (ks_M_0 hx) (kl_M_0 hx) ?_
      refine z_if_ne (tgt := 95) d_M_study_61 (by decide) (fun c4 => ?_) (fun c4 => ?_)
      · have h := h.2 c4
        refine z_aload_n (i := 0) (c := 0) 0 d_M_study_95 rfl rfl rfl ?_
        refine z_aload_n (i := 0) (c := 0) 0 d_M_study_96 rfl rfl rfl ?_
        refine z_getr (c := 0) (kI := 0) (r2 := 1) d_M_study_97 fd_M_at fl_M_7 rfl rfl rfl (ks_M_0 hx) (kl_M_0 hx) (kr_M_0_0 hx) ?_
        refine z_iconst (n := 4) d_M_study_100 (by decide) ?_
        refine z_iald (c := 1) (m := 3296) d_M_study_101 rfl (ks_M_1 hx) (kl_M_1 hx) rfl (by decide) (by decide) ?_
        refine z_cV (c := 0) (as := [(0, g2 1 4)]) (d' := 2) (st := []) d_M_study_102 mi_M_taken ml_M_216 mv_M_taken se_M_taken rfl rfl rfl rfl (ks_M_0 hx) rfl rfl (kl_M_0 hx) rfl rfl (z_Omono h (fun r3 g3 _ h hro => ?_))
        show z_U X 12 m_M_study 105 [(0, (2, 0)), (2, (0, x2))] [(0, r3)] N σ g3 Q
        exact z_iret d_M_study_105 rfl (by decide) (by decide) ⟨rfl, rfl, h⟩
      · have h := h.1 c4
        refine z_iconst (n := 0) d_M_study_64 (by decide) ?_
        refine z_istore_n (i := 3) (ls' := [(3, (0, 0)), (0, (2, 0)), (2, (0, x2))]) d_M_study_65 rfl rfl rfl ?_
        refine z_sub (ls' := [(0, (2, 0)), (3, (0, 0))]) [1, 0] rfl ?_
        exact h
    · have h := h.2 c3
      refine z_aload_n (i := 0) (c := 0) 0 d_M_study_42 rfl rfl rfl ?_
      refine z_cV (c := 0) (as := []) (d' := 11) (st := []) d_M_study_43 mi_M_studyPart ml_M_213 mv_M_studyPart se_M_studyPart rfl rfl rfl rfl (ks_M_0 hx) rfl rfl (kl_M_0 hx) rfl rfl (z_Omono h (fun r4 g4 _ h hro => ?_))
      have h := h (z_b01 hro)
      have hzr4 := z_b01 hro
      show z_U X 12 m_M_study 46 [(0, (2, 0)), (2, (0, x2))] [(0, r4)] N σ g4 Q
      refine z_istore_n (i := 2) (ls' := [(2, (0, r4)), (0, (2, 0))]) d_M_study_46 rfl rfl rfl ?_
      refine z_goto (tgt := 31) d_M_study_47 (by decide) ?_
      refine z_sub (ls' := [(0, (2, 0)), (2, (0, r4))]) [1, 0] rfl ?_
      exact h
set_option maxRecDepth 8000 in
theorem b_M_study_66 {X : z_X} {N : Nat} {σ g : z_G} {Q : z_P} {x3 : Int} (hx : z_lay X N σ 0 z_SM z_RM) (h : ((610 ≤ x3) → (z_O X 2 m_M_taken [(2, 0), (0, g 1 4)] N σ g (fun r0 g0 => Q r0 g0))) ∧ (¬ (610 ≤ x3) → ((-2147483648 ≤ (2440 + x3) ∧ (2440 + x3) ≤ 2147483647) ∧ ((0 ≤ (2440 + x3) ∧ (2440 + x3) < 3296) ∧ ((0 ≤ x3 ∧ x3 < 3296) ∧ ((-2147483648 ≤ (x3 + 1) ∧ (x3 + 1) ≤ 2147483647) ∧ L_M_study_66 X N σ (x3 + 1) (z_up g 1 x3 (g 1 (2440 + x3))) Q)))))) : L_M_study_66 X N σ x3 g Q := by
  refine z_iload_n (i := 3) 1 d_M_study_66 rfl rfl ?_
  refine z_sipush (n := 610) d_M_study_67 (by decide) (by decide) ?_
  refine z_icmp_ge (tgt := 95) d_M_study_70 (by decide) (fun c1 => ?_) (fun c1 => ?_)
  · have h := h.1 c1
    refine z_aload_n (i := 0) (c := 0) 0 d_M_study_95 rfl rfl rfl ?_
    refine z_aload_n (i := 0) (c := 0) 0 d_M_study_96 rfl rfl rfl ?_
    refine z_getr (c := 0) (kI := 0) (r2 := 1) d_M_study_97 fd_M_at fl_M_7 rfl rfl rfl (ks_M_0 hx) (kl_M_0 hx) (kr_M_0_0 hx) ?_
    refine z_iconst (n := 4) d_M_study_100 (by decide) ?_
    refine z_iald (c := 1) (m := 3296) d_M_study_101 rfl (ks_M_1 hx) (kl_M_1 hx) rfl (by decide) (by decide) ?_
    refine z_cV (c := 0) (as := [(0, g 1 4)]) (d' := 2) (st := []) d_M_study_102 mi_M_taken ml_M_216 mv_M_taken se_M_taken rfl rfl rfl rfl (ks_M_0 hx) rfl rfl (kl_M_0 hx) rfl rfl (z_Omono h (fun r0 g0 _ h hro => ?_))
    show z_U X 12 m_M_study 105 [(0, (2, 0)), (3, (0, x3))] [(0, r0)] N σ g0 Q
    exact z_iret d_M_study_105 rfl (by decide) (by decide) ⟨rfl, rfl, h⟩
  · have h := h.2 c1
    refine z_aload_n (i := 0) (c := 0) 0 d_M_study_73 rfl rfl rfl ?_
    refine z_getr (c := 0) (kI := 0) (r2 := 1) d_M_study_74 fd_M_at fl_M_7 rfl rfl rfl (ks_M_0 hx) (kl_M_0 hx) (kr_M_0_0 hx) ?_
    refine z_iload_n (i := 3) 1 d_M_study_77 rfl rfl ?_
    refine z_aload_n (i := 0) (c := 0) 0 d_M_study_78 rfl rfl rfl ?_
    refine z_getr (c := 0) (kI := 0) (r2 := 1) d_M_study_79 fd_M_at fl_M_7 rfl rfl rfl (ks_M_0 hx) (kl_M_0 hx) (kr_M_0_0 hx) ?_
    refine z_sipush (n := 2440) d_M_study_82 (by decide) (by decide) ?_
    refine z_iload_n (i := 3) 1 d_M_study_85 rfl rfl ?_
    obtain ⟨c2, h⟩ := h
    refine z_iadd d_M_study_86 c2 ?_
    obtain ⟨c3, h⟩ := h
    refine z_iald (c := 1) (m := 3296) d_M_study_87 rfl (ks_M_1 hx) (kl_M_1 hx) rfl (by decide) c3 ?_
    obtain ⟨c4, h⟩ := h
    refine z_iast (c := 1) (m := 3296) d_M_study_88 rfl (ks_M_1 hx) (kl_M_1 hx) rfl (by decide) c4 ?_
    obtain ⟨c5, h⟩ := h
    refine z_iinc (n := 1) (ls' := [(3, (0, x3 + 1)), (0, (2, 0))]) 1 d_M_study_89 rfl c5 rfl rfl ?_
    refine z_goto (tgt := 66) d_M_study_92 (by decide) ?_
    refine z_sub (ls' := [(0, (2, 0)), (3, (0, x3 + 1))]) [1, 0] rfl ?_
    exact h
theorem d_M_tourStep_0 : decode (z_c m_M_tourStep) 0 = .ok (.aload_n 0, 1) := by decide +kernel
theorem d_M_tourStep_1 : decode (z_c m_M_tourStep) 1 = .ok (.ldc 169, 2) := by decide +kernel
theorem d_M_tourStep_3 : decode (z_c m_M_tourStep) 3 = .ok (.invokevirtual 171, 3) := by decide +kernel
theorem d_M_tourStep_6 : decode (z_c m_M_tourStep) 6 = .ok (.istore_n 1, 1) := by decide +kernel
theorem d_M_tourStep_7 : decode (z_c m_M_tourStep) 7 = .ok (.aload_n 0, 1) := by decide +kernel
theorem d_M_tourStep_8 : decode (z_c m_M_tourStep) 8 = .ok (.getfield 7, 3) := by decide +kernel
theorem d_M_tourStep_11 : decode (z_c m_M_tourStep) 11 = .ok (.sipush 2446, 3) := by decide +kernel
theorem d_M_tourStep_14 : decode (z_c m_M_tourStep) 14 = .ok (.iaload, 1) := by decide +kernel
theorem d_M_tourStep_15 : decode (z_c m_M_tourStep) 15 = .ok (.istore_n 2, 1) := by decide +kernel
theorem d_M_tourStep_16 : decode (z_c m_M_tourStep) 16 = .ok (.sipush 2686, 3) := by decide +kernel
theorem d_M_tourStep_19 : decode (z_c m_M_tourStep) 19 = .ok (.bipush 6, 2) := by decide +kernel
theorem d_M_tourStep_21 : decode (z_c m_M_tourStep) 21 = .ok (.iload_n 2, 1) := by decide +kernel
theorem d_M_tourStep_22 : decode (z_c m_M_tourStep) 22 = .ok (.imul, 1) := by decide +kernel
theorem d_M_tourStep_23 : decode (z_c m_M_tourStep) 23 = .ok (.iadd, 1) := by decide +kernel
theorem d_M_tourStep_24 : decode (z_c m_M_tourStep) 24 = .ok (.istore_n 3, 1) := by decide +kernel
theorem d_M_tourStep_25 : decode (z_c m_M_tourStep) 25 = .ok (.iload_n 1, 1) := by decide +kernel
theorem d_M_tourStep_26 : decode (z_c m_M_tourStep) 26 = .ok (.bipush 12, 2) := by decide +kernel
theorem d_M_tourStep_28 : decode (z_c m_M_tourStep) 28 = .ok (.if_icmp .eq 9, 3) := by decide +kernel
theorem d_M_tourStep_31 : decode (z_c m_M_tourStep) 31 = .ok (.iload_n 1, 1) := by decide +kernel
theorem d_M_tourStep_32 : decode (z_c m_M_tourStep) 32 = .ok (.bipush 13, 2) := by decide +kernel
theorem d_M_tourStep_34 : decode (z_c m_M_tourStep) 34 = .ok (.if_icmp .ne 7, 3) := by decide +kernel
theorem d_M_tourStep_37 : decode (z_c m_M_tourStep) 37 = .ok (.iconst 1, 1) := by decide +kernel
theorem d_M_tourStep_38 : decode (z_c m_M_tourStep) 38 = .ok (.goto 4, 3) := by decide +kernel
theorem d_M_tourStep_41 : decode (z_c m_M_tourStep) 41 = .ok (.iconst 0, 1) := by decide +kernel
theorem d_M_tourStep_42 : decode (z_c m_M_tourStep) 42 = .ok (.istore 4, 2) := by decide +kernel
theorem d_M_tourStep_44 : decode (z_c m_M_tourStep) 44 = .ok (.iload_n 1, 1) := by decide +kernel
theorem d_M_tourStep_45 : decode (z_c m_M_tourStep) 45 = .ok (.invokestatic 222, 3) := by decide +kernel
theorem d_M_tourStep_48 : decode (z_c m_M_tourStep) 48 = .ok (.ifCond .eq 16, 3) := by decide +kernel
theorem d_M_tourStep_51 : decode (z_c m_M_tourStep) 51 = .ok (.iload_n 1, 1) := by decide +kernel
theorem d_M_tourStep_52 : decode (z_c m_M_tourStep) 52 = .ok (.bipush 14, 2) := by decide +kernel
theorem d_M_tourStep_54 : decode (z_c m_M_tourStep) 54 = .ok (.if_icmp .ne 16, 3) := by decide +kernel
theorem d_M_tourStep_57 : decode (z_c m_M_tourStep) 57 = .ok (.aload_n 0, 1) := by decide +kernel
theorem d_M_tourStep_58 : decode (z_c m_M_tourStep) 58 = .ok (.getfield 225, 3) := by decide +kernel
theorem d_M_tourStep_61 : decode (z_c m_M_tourStep) 61 = .ok (.ifCond .ne 9, 3) := by decide +kernel
theorem d_M_tourStep_64 : decode (z_c m_M_tourStep) 64 = .ok (.aload_n 0, 1) := by decide +kernel
theorem d_M_tourStep_65 : decode (z_c m_M_tourStep) 65 = .ok (.iconst 2, 1) := by decide +kernel
theorem d_M_tourStep_66 : decode (z_c m_M_tourStep) 66 = .ok (.invokevirtual 166, 3) := by decide +kernel
theorem d_M_tourStep_69 : decode (z_c m_M_tourStep) 69 = .ok (.ireturn, 1) := by decide +kernel
theorem d_M_tourStep_70 : decode (z_c m_M_tourStep) 70 = .ok (.iload_n 1, 1) := by decide +kernel
theorem d_M_tourStep_71 : decode (z_c m_M_tourStep) 71 = .ok (.bipush 14, 2) := by decide +kernel
theorem d_M_tourStep_73 : decode (z_c m_M_tourStep) 73 = .ok (.if_icmp .eq 19, 3) := by decide +kernel
theorem d_M_tourStep_76 : decode (z_c m_M_tourStep) 76 = .ok (.aload_n 0, 1) := by decide +kernel
theorem d_M_tourStep_77 : decode (z_c m_M_tourStep) 77 = .ok (.getfield 228, 3) := by decide +kernel
theorem d_M_tourStep_80 : decode (z_c m_M_tourStep) 80 = .ok (.bipush 30, 2) := by decide +kernel
theorem d_M_tourStep_82 : decode (z_c m_M_tourStep) 82 = .ok (.if_icmp .ne 10, 3) := by decide +kernel
theorem d_M_tourStep_85 : decode (z_c m_M_tourStep) 85 = .ok (.aload_n 0, 1) := by decide +kernel
theorem d_M_tourStep_86 : decode (z_c m_M_tourStep) 86 = .ok (.bipush 6, 2) := by decide +kernel
theorem d_M_tourStep_88 : decode (z_c m_M_tourStep) 88 = .ok (.invokevirtual 166, 3) := by decide +kernel
theorem d_M_tourStep_91 : decode (z_c m_M_tourStep) 91 = .ok (.ireturn, 1) := by decide +kernel
theorem d_M_tourStep_92 : decode (z_c m_M_tourStep) 92 = .ok (.iload 4, 2) := by decide +kernel
theorem d_M_tourStep_94 : decode (z_c m_M_tourStep) 94 = .ok (.ifCond .eq 18, 3) := by decide +kernel
theorem d_M_tourStep_97 : decode (z_c m_M_tourStep) 97 = .ok (.aload_n 0, 1) := by decide +kernel
theorem d_M_tourStep_98 : decode (z_c m_M_tourStep) 98 = .ok (.getfield 225, 3) := by decide +kernel
theorem d_M_tourStep_101 : decode (z_c m_M_tourStep) 101 = .ok (.iconst 3, 1) := by decide +kernel
theorem d_M_tourStep_102 : decode (z_c m_M_tourStep) 102 = .ok (.if_icmp .ne 10, 3) := by decide +kernel
theorem d_M_tourStep_105 : decode (z_c m_M_tourStep) 105 = .ok (.aload_n 0, 1) := by decide +kernel
theorem d_M_tourStep_106 : decode (z_c m_M_tourStep) 106 = .ok (.bipush 7, 2) := by decide +kernel
theorem d_M_tourStep_108 : decode (z_c m_M_tourStep) 108 = .ok (.invokevirtual 166, 3) := by decide +kernel
theorem d_M_tourStep_111 : decode (z_c m_M_tourStep) 111 = .ok (.ireturn, 1) := by decide +kernel
theorem d_M_tourStep_112 : decode (z_c m_M_tourStep) 112 = .ok (.aload_n 0, 1) := by decide +kernel
theorem d_M_tourStep_113 : decode (z_c m_M_tourStep) 113 = .ok (.dup, 1) := by decide +kernel
theorem d_M_tourStep_114 : decode (z_c m_M_tourStep) 114 = .ok (.getfield 228, 3) := by decide +kernel
theorem d_M_tourStep_117 : decode (z_c m_M_tourStep) 117 = .ok (.iload_n 1, 1) := by decide +kernel
theorem d_M_tourStep_118 : decode (z_c m_M_tourStep) 118 = .ok (.bipush 14, 2) := by decide +kernel
theorem d_M_tourStep_120 : decode (z_c m_M_tourStep) 120 = .ok (.if_icmp .ne 7, 3) := by decide +kernel
theorem d_M_tourStep_123 : decode (z_c m_M_tourStep) 123 = .ok (.iconst 0, 1) := by decide +kernel
theorem d_M_tourStep_124 : decode (z_c m_M_tourStep) 124 = .ok (.goto 4, 3) := by decide +kernel
theorem d_M_tourStep_127 : decode (z_c m_M_tourStep) 127 = .ok (.iconst 1, 1) := by decide +kernel
theorem d_M_tourStep_128 : decode (z_c m_M_tourStep) 128 = .ok (.iadd, 1) := by decide +kernel
theorem d_M_tourStep_129 : decode (z_c m_M_tourStep) 129 = .ok (.putfield 228, 3) := by decide +kernel
theorem d_M_tourStep_132 : decode (z_c m_M_tourStep) 132 = .ok (.aload_n 0, 1) := by decide +kernel
theorem d_M_tourStep_133 : decode (z_c m_M_tourStep) 133 = .ok (.getfield 7, 3) := by decide +kernel
theorem d_M_tourStep_136 : decode (z_c m_M_tourStep) 136 = .ok (.iload_n 3, 1) := by decide +kernel
theorem d_M_tourStep_137 : decode (z_c m_M_tourStep) 137 = .ok (.iload_n 1, 1) := by decide +kernel
theorem d_M_tourStep_138 : decode (z_c m_M_tourStep) 138 = .ok (.iastore, 1) := by decide +kernel
theorem d_M_tourStep_139 : decode (z_c m_M_tourStep) 139 = .ok (.iconst 1, 1) := by decide +kernel
theorem d_M_tourStep_140 : decode (z_c m_M_tourStep) 140 = .ok (.istore 5, 2) := by decide +kernel
theorem d_M_tourStep_142 : decode (z_c m_M_tourStep) 142 = .ok (.iload 5, 2) := by decide +kernel
theorem d_M_tourStep_144 : decode (z_c m_M_tourStep) 144 = .ok (.bipush 6, 2) := by decide +kernel
theorem d_M_tourStep_146 : decode (z_c m_M_tourStep) 146 = .ok (.if_icmp .ge 19, 3) := by decide +kernel
theorem d_M_tourStep_149 : decode (z_c m_M_tourStep) 149 = .ok (.aload_n 0, 1) := by decide +kernel
theorem d_M_tourStep_150 : decode (z_c m_M_tourStep) 150 = .ok (.getfield 7, 3) := by decide +kernel
theorem d_M_tourStep_153 : decode (z_c m_M_tourStep) 153 = .ok (.iload_n 3, 1) := by decide +kernel
theorem d_M_tourStep_154 : decode (z_c m_M_tourStep) 154 = .ok (.iload 5, 2) := by decide +kernel
theorem d_M_tourStep_156 : decode (z_c m_M_tourStep) 156 = .ok (.iadd, 1) := by decide +kernel
theorem d_M_tourStep_157 : decode (z_c m_M_tourStep) 157 = .ok (.iconst 0, 1) := by decide +kernel
theorem d_M_tourStep_158 : decode (z_c m_M_tourStep) 158 = .ok (.iastore, 1) := by decide +kernel
theorem d_M_tourStep_159 : decode (z_c m_M_tourStep) 159 = .ok (.iinc 5 1, 3) := by decide +kernel
theorem d_M_tourStep_162 : decode (z_c m_M_tourStep) 162 = .ok (.goto (-20), 3) := by decide +kernel
theorem d_M_tourStep_165 : decode (z_c m_M_tourStep) 165 = .ok (.aload_n 0, 1) := by decide +kernel
theorem d_M_tourStep_166 : decode (z_c m_M_tourStep) 166 = .ok (.getfield 7, 3) := by decide +kernel
theorem d_M_tourStep_169 : decode (z_c m_M_tourStep) 169 = .ok (.sipush 2446, 3) := by decide +kernel
theorem d_M_tourStep_172 : decode (z_c m_M_tourStep) 172 = .ok (.dup2, 1) := by decide +kernel
theorem d_M_tourStep_173 : decode (z_c m_M_tourStep) 173 = .ok (.iaload, 1) := by decide +kernel
theorem d_M_tourStep_174 : decode (z_c m_M_tourStep) 174 = .ok (.iconst 1, 1) := by decide +kernel
theorem d_M_tourStep_175 : decode (z_c m_M_tourStep) 175 = .ok (.iadd, 1) := by decide +kernel
theorem d_M_tourStep_176 : decode (z_c m_M_tourStep) 176 = .ok (.iastore, 1) := by decide +kernel
theorem d_M_tourStep_177 : decode (z_c m_M_tourStep) 177 = .ok (.aload_n 0, 1) := by decide +kernel
theorem d_M_tourStep_178 : decode (z_c m_M_tourStep) 178 = .ok (.invokevirtual 160, 3) := by decide +kernel
theorem d_M_tourStep_181 : decode (z_c m_M_tourStep) 181 = .ok (.aload_n 0, 1) := by decide +kernel
theorem d_M_tourStep_182 : decode (z_c m_M_tourStep) 182 = .ok (.iload_n 1, 1) := by decide +kernel
theorem d_M_tourStep_183 : decode (z_c m_M_tourStep) 183 = .ok (.iload_n 3, 1) := by decide +kernel
theorem d_M_tourStep_184 : decode (z_c m_M_tourStep) 184 = .ok (.invokevirtual 231, 3) := by decide +kernel
theorem d_M_tourStep_187 : decode (z_c m_M_tourStep) 187 = .ok (.ifCond .ne 5, 3) := by decide +kernel
theorem d_M_tourStep_190 : decode (z_c m_M_tourStep) 190 = .ok (.iconst 0, 1) := by decide +kernel
theorem d_M_tourStep_191 : decode (z_c m_M_tourStep) 191 = .ok (.ireturn, 1) := by decide +kernel
theorem d_M_tourStep_192 : decode (z_c m_M_tourStep) 192 = .ok (.iload 4, 2) := by decide +kernel
theorem d_M_tourStep_194 : decode (z_c m_M_tourStep) 194 = .ok (.ifCond .eq 23, 3) := by decide +kernel
theorem d_M_tourStep_197 : decode (z_c m_M_tourStep) 197 = .ok (.aload_n 0, 1) := by decide +kernel
theorem d_M_tourStep_198 : decode (z_c m_M_tourStep) 198 = .ok (.getfield 41, 3) := by decide +kernel
theorem d_M_tourStep_201 : decode (z_c m_M_tourStep) 201 = .ok (.aload_n 0, 1) := by decide +kernel
theorem d_M_tourStep_202 : decode (z_c m_M_tourStep) 202 = .ok (.getfield 225, 3) := by decide +kernel
theorem d_M_tourStep_205 : decode (z_c m_M_tourStep) 205 = .ok (.iload_n 2, 1) := by decide +kernel
theorem d_M_tourStep_206 : decode (z_c m_M_tourStep) 206 = .ok (.iastore, 1) := by decide +kernel
theorem d_M_tourStep_207 : decode (z_c m_M_tourStep) 207 = .ok (.aload_n 0, 1) := by decide +kernel
theorem d_M_tourStep_208 : decode (z_c m_M_tourStep) 208 = .ok (.dup, 1) := by decide +kernel
theorem d_M_tourStep_209 : decode (z_c m_M_tourStep) 209 = .ok (.getfield 225, 3) := by decide +kernel
theorem d_M_tourStep_212 : decode (z_c m_M_tourStep) 212 = .ok (.iconst 1, 1) := by decide +kernel
theorem d_M_tourStep_213 : decode (z_c m_M_tourStep) 213 = .ok (.iadd, 1) := by decide +kernel
theorem d_M_tourStep_214 : decode (z_c m_M_tourStep) 214 = .ok (.putfield 225, 3) := by decide +kernel
theorem d_M_tourStep_217 : decode (z_c m_M_tourStep) 217 = .ok (.iload_n 1, 1) := by decide +kernel
theorem d_M_tourStep_218 : decode (z_c m_M_tourStep) 218 = .ok (.bipush 14, 2) := by decide +kernel
theorem d_M_tourStep_220 : decode (z_c m_M_tourStep) 220 = .ok (.if_icmp .ne 54, 3) := by decide +kernel
theorem d_M_tourStep_223 : decode (z_c m_M_tourStep) 223 = .ok (.aload_n 0, 1) := by decide +kernel
theorem d_M_tourStep_224 : decode (z_c m_M_tourStep) 224 = .ok (.dup, 1) := by decide +kernel
theorem d_M_tourStep_225 : decode (z_c m_M_tourStep) 225 = .ok (.getfield 225, 3) := by decide +kernel
theorem d_M_tourStep_228 : decode (z_c m_M_tourStep) 228 = .ok (.iconst 1, 1) := by decide +kernel
theorem d_M_tourStep_229 : decode (z_c m_M_tourStep) 229 = .ok (.isub, 1) := by decide +kernel
theorem d_M_tourStep_230 : decode (z_c m_M_tourStep) 230 = .ok (.putfield 225, 3) := by decide +kernel
theorem d_M_tourStep_233 : decode (z_c m_M_tourStep) 233 = .ok (.aload_n 0, 1) := by decide +kernel
theorem d_M_tourStep_234 : decode (z_c m_M_tourStep) 234 = .ok (.getfield 7, 3) := by decide +kernel
theorem d_M_tourStep_237 : decode (z_c m_M_tourStep) 237 = .ok (.iload_n 3, 1) := by decide +kernel
theorem d_M_tourStep_238 : decode (z_c m_M_tourStep) 238 = .ok (.iconst 4, 1) := by decide +kernel
theorem d_M_tourStep_239 : decode (z_c m_M_tourStep) 239 = .ok (.iadd, 1) := by decide +kernel
theorem d_M_tourStep_240 : decode (z_c m_M_tourStep) 240 = .ok (.aload_n 0, 1) := by decide +kernel
theorem d_M_tourStep_241 : decode (z_c m_M_tourStep) 241 = .ok (.getfield 41, 3) := by decide +kernel
theorem d_M_tourStep_244 : decode (z_c m_M_tourStep) 244 = .ok (.aload_n 0, 1) := by decide +kernel
theorem d_M_tourStep_245 : decode (z_c m_M_tourStep) 245 = .ok (.getfield 225, 3) := by decide +kernel
theorem d_M_tourStep_248 : decode (z_c m_M_tourStep) 248 = .ok (.iaload, 1) := by decide +kernel
theorem d_M_tourStep_249 : decode (z_c m_M_tourStep) 249 = .ok (.iastore, 1) := by decide +kernel
theorem d_M_tourStep_250 : decode (z_c m_M_tourStep) 250 = .ok (.aload_n 0, 1) := by decide +kernel
theorem d_M_tourStep_251 : decode (z_c m_M_tourStep) 251 = .ok (.getfield 7, 3) := by decide +kernel
theorem d_M_tourStep_254 : decode (z_c m_M_tourStep) 254 = .ok (.sipush 2686, 3) := by decide +kernel
theorem d_M_tourStep_257 : decode (z_c m_M_tourStep) 257 = .ok (.bipush 6, 2) := by decide +kernel
theorem d_M_tourStep_259 : decode (z_c m_M_tourStep) 259 = .ok (.aload_n 0, 1) := by decide +kernel
theorem d_M_tourStep_260 : decode (z_c m_M_tourStep) 260 = .ok (.getfield 41, 3) := by decide +kernel
theorem d_M_tourStep_263 : decode (z_c m_M_tourStep) 263 = .ok (.aload_n 0, 1) := by decide +kernel
theorem d_M_tourStep_264 : decode (z_c m_M_tourStep) 264 = .ok (.getfield 225, 3) := by decide +kernel
theorem d_M_tourStep_267 : decode (z_c m_M_tourStep) 267 = .ok (.iaload, 1) := by decide +kernel
theorem d_M_tourStep_268 : decode (z_c m_M_tourStep) 268 = .ok (.imul, 1) := by decide +kernel
theorem d_M_tourStep_269 : decode (z_c m_M_tourStep) 269 = .ok (.iadd, 1) := by decide +kernel
theorem d_M_tourStep_270 : decode (z_c m_M_tourStep) 270 = .ok (.iconst 4, 1) := by decide +kernel
theorem d_M_tourStep_271 : decode (z_c m_M_tourStep) 271 = .ok (.iadd, 1) := by decide +kernel
theorem d_M_tourStep_272 : decode (z_c m_M_tourStep) 272 = .ok (.iload_n 2, 1) := by decide +kernel
theorem d_M_tourStep_273 : decode (z_c m_M_tourStep) 273 = .ok (.iastore, 1) := by decide +kernel
theorem d_M_tourStep_274 : decode (z_c m_M_tourStep) 274 = .ok (.aload_n 0, 1) := by decide +kernel
theorem d_M_tourStep_275 : decode (z_c m_M_tourStep) 275 = .ok (.bipush 59, 2) := by decide +kernel
theorem d_M_tourStep_277 : decode (z_c m_M_tourStep) 277 = .ok (.invokevirtual 197, 3) := by decide +kernel
theorem d_M_tourStep_280 : decode (z_c m_M_tourStep) 280 = .ok (.ireturn, 1) := by decide +kernel
abbrev L_M_tourStep_142 (X : z_X) (N : Nat) (σ : z_G) (x1 x2 x3 x4 x5 : Int) (g : z_G) (Q : z_P) : Prop := z_U X 12 m_M_tourStep 142 [(0, (2, 0)), (1, (0, x1)), (2, (0, x2)), (3, (0, x3)), (4, (0, x4)), (5, (0, x5))] [] N σ g Q
set_option maxRecDepth 8000 in
theorem b_M_tourStep_0 {X : z_X} {N : Nat} {σ g : z_G} {Q : z_P} (hx : z_lay X N σ 0 z_SM z_RM) (h : z_O X 7 m_M_inWords [(2, 0), (4, 20)] N σ g (fun r0 g0 => ((-2147483648 ≤ (6 * (g0 1 2446)) ∧ (6 * (g0 1 2446)) ≤ 2147483647) ∧ ((-2147483648 ≤ (2686 + (6 * (g0 1 2446))) ∧ (2686 + (6 * (g0 1 2446))) ≤ 2147483647) ∧ (((r0 = 12) → (((r0 = 1) → (((r0 = 14) → ((((g0 0 20) = 0) → (z_O X 1 m_M_fails [(2, 0), (0, 2)] N σ g0 (fun r4 g4 => (r4 = 0 ∨ r4 = 1) → Q r4 g4))) ∧ (¬ ((g0 0 20) = 0) → ((((g0 0 20) = 3) → (z_O X 1 m_M_fails [(2, 0), (0, 7)] N σ g0 (fun r3 g3 => (r3 = 0 ∨ r3 = 1) → Q r3 g3))) ∧ (¬ ((g0 0 20) = 3) → ((-2147483648 ≤ ((g0 0 21) + 0) ∧ ((g0 0 21) + 0) ≤ 2147483647) ∧ ((0 ≤ (2686 + (6 * (g0 1 2446))) ∧ (2686 + (6 * (g0 1 2446))) < 3296) ∧ L_M_tourStep_142 X N σ r0 (g0 1 2446) (2686 + (6 * (g0 1 2446))) 1 1 (z_up (z_up g0 0 21 ((g0 0 21) + 0)) 1 (2686 + (6 * (g0 1 2446))) r0) Q))))))) ∧ (¬ (r0 = 14) → ((((g0 0 21) = 30) → (z_O X 1 m_M_fails [(2, 0), (0, 6)] N σ g0 (fun r2 g2 => (r2 = 0 ∨ r2 = 1) → Q r2 g2))) ∧ (¬ ((g0 0 21) = 30) → ((((g0 0 20) = 3) → (z_O X 1 m_M_fails [(2, 0), (0, 7)] N σ g0 (fun r1 g1 => (r1 = 0 ∨ r1 = 1) → Q r1 g1))) ∧ (¬ ((g0 0 20) = 3) → ((-2147483648 ≤ ((g0 0 21) + 1) ∧ ((g0 0 21) + 1) ≤ 2147483647) ∧ ((0 ≤ (2686 + (6 * (g0 1 2446))) ∧ (2686 + (6 * (g0 1 2446))) < 3296) ∧ L_M_tourStep_142 X N σ r0 (g0 1 2446) (2686 + (6 * (g0 1 2446))) 1 1 (z_up (z_up g0 0 21 ((g0 0 21) + 1)) 1 (2686 + (6 * (g0 1 2446))) r0) Q))))))))) ∧ (¬ (r0 = 1) → (((r0 = 3) → (((r0 = 14) → ((((g0 0 20) = 0) → (z_O X 1 m_M_fails [(2, 0), (0, 2)] N σ g0 (fun r8 g8 => (r8 = 0 ∨ r8 = 1) → Q r8 g8))) ∧ (¬ ((g0 0 20) = 0) → ((((g0 0 20) = 3) → (z_O X 1 m_M_fails [(2, 0), (0, 7)] N σ g0 (fun r7 g7 => (r7 = 0 ∨ r7 = 1) → Q r7 g7))) ∧ (¬ ((g0 0 20) = 3) → ((-2147483648 ≤ ((g0 0 21) + 0) ∧ ((g0 0 21) + 0) ≤ 2147483647) ∧ ((0 ≤ (2686 + (6 * (g0 1 2446))) ∧ (2686 + (6 * (g0 1 2446))) < 3296) ∧ L_M_tourStep_142 X N σ r0 (g0 1 2446) (2686 + (6 * (g0 1 2446))) 1 1 (z_up (z_up g0 0 21 ((g0 0 21) + 0)) 1 (2686 + (6 * (g0 1 2446))) r0) Q))))))) ∧ (¬ (r0 = 14) → ((((g0 0 21) = 30) → (z_O X 1 m_M_fails [(2, 0), (0, 6)] N σ g0 (fun r6 g6 => (r6 = 0 ∨ r6 = 1) → Q r6 g6))) ∧ (¬ ((g0 0 21) = 30) → ((((g0 0 20) = 3) → (z_O X 1 m_M_fails [(2, 0), (0, 7)] N σ g0 (fun r5 g5 => (r5 = 0 ∨ r5 = 1) → Q r5 g5))) ∧ (¬ ((g0 0 20) = 3) → ((-2147483648 ≤ ((g0 0 21) + 1) ∧ ((g0 0 21) + 1) ≤ 2147483647) ∧ ((0 ≤ (2686 + (6 * (g0 1 2446))) ∧ (2686 + (6 * (g0 1 2446))) < 3296) ∧ L_M_tourStep_142 X N σ r0 (g0 1 2446) (2686 + (6 * (g0 1 2446))) 1 1 (z_up (z_up g0 0 21 ((g0 0 21) + 1)) 1 (2686 + (6 * (g0 1 2446))) r0) Q))))))))) ∧ (¬ (r0 = 3) → (((r0 < 6) → (z_O X 1 m_M_fails [(2, 0), (0, 2)] N σ g0 (fun r9 g9 => (r9 = 0 ∨ r9 = 1) → Q r9 g9))) ∧ (¬ (r0 < 6) → (((15 < r0) → (z_O X 1 m_M_fails [(2, 0), (0, 2)] N σ g0 (fun r10 g10 => (r10 = 0 ∨ r10 = 1) → Q r10 g10))) ∧ (¬ (15 < r0) → (((r0 = 14) → ((((g0 0 20) = 0) → (z_O X 1 m_M_fails [(2, 0), (0, 2)] N σ g0 (fun r14 g14 => (r14 = 0 ∨ r14 = 1) → Q r14 g14))) ∧ (¬ ((g0 0 20) = 0) → ((((g0 0 20) = 3) → (z_O X 1 m_M_fails [(2, 0), (0, 7)] N σ g0 (fun r13 g13 => (r13 = 0 ∨ r13 = 1) → Q r13 g13))) ∧ (¬ ((g0 0 20) = 3) → ((-2147483648 ≤ ((g0 0 21) + 0) ∧ ((g0 0 21) + 0) ≤ 2147483647) ∧ ((0 ≤ (2686 + (6 * (g0 1 2446))) ∧ (2686 + (6 * (g0 1 2446))) < 3296) ∧ L_M_tourStep_142 X N σ r0 (g0 1 2446) (2686 + (6 * (g0 1 2446))) 1 1 (z_up (z_up g0 0 21 ((g0 0 21) + 0)) 1 (2686 + (6 * (g0 1 2446))) r0) Q))))))) ∧ (¬ (r0 = 14) → ((((g0 0 21) = 30) → (z_O X 1 m_M_fails [(2, 0), (0, 6)] N σ g0 (fun r12 g12 => (r12 = 0 ∨ r12 = 1) → Q r12 g12))) ∧ (¬ ((g0 0 21) = 30) → ((((g0 0 20) = 3) → (z_O X 1 m_M_fails [(2, 0), (0, 7)] N σ g0 (fun r11 g11 => (r11 = 0 ∨ r11 = 1) → Q r11 g11))) ∧ (¬ ((g0 0 20) = 3) → ((-2147483648 ≤ ((g0 0 21) + 1) ∧ ((g0 0 21) + 1) ≤ 2147483647) ∧ ((0 ≤ (2686 + (6 * (g0 1 2446))) ∧ (2686 + (6 * (g0 1 2446))) < 3296) ∧ L_M_tourStep_142 X N σ r0 (g0 1 2446) (2686 + (6 * (g0 1 2446))) 1 1 (z_up (z_up g0 0 21 ((g0 0 21) + 1)) 1 (2686 + (6 * (g0 1 2446))) r0) Q))))))))))))))))) ∧ (¬ (r0 = 12) → (((r0 = 13) → (((r0 = 1) → (((r0 = 14) → ((((g0 0 20) = 0) → (z_O X 1 m_M_fails [(2, 0), (0, 2)] N σ g0 (fun r26 g26 => (r26 = 0 ∨ r26 = 1) → Q r26 g26))) ∧ (¬ ((g0 0 20) = 0) → ((((g0 0 20) = 3) → (z_O X 1 m_M_fails [(2, 0), (0, 7)] N σ g0 (fun r25 g25 => (r25 = 0 ∨ r25 = 1) → Q r25 g25))) ∧ (¬ ((g0 0 20) = 3) → ((-2147483648 ≤ ((g0 0 21) + 0) ∧ ((g0 0 21) + 0) ≤ 2147483647) ∧ ((0 ≤ (2686 + (6 * (g0 1 2446))) ∧ (2686 + (6 * (g0 1 2446))) < 3296) ∧ L_M_tourStep_142 X N σ r0 (g0 1 2446) (2686 + (6 * (g0 1 2446))) 1 1 (z_up (z_up g0 0 21 ((g0 0 21) + 0)) 1 (2686 + (6 * (g0 1 2446))) r0) Q))))))) ∧ (¬ (r0 = 14) → ((((g0 0 21) = 30) → (z_O X 1 m_M_fails [(2, 0), (0, 6)] N σ g0 (fun r24 g24 => (r24 = 0 ∨ r24 = 1) → Q r24 g24))) ∧ (¬ ((g0 0 21) = 30) → ((((g0 0 20) = 3) → (z_O X 1 m_M_fails [(2, 0), (0, 7)] N σ g0 (fun r23 g23 => (r23 = 0 ∨ r23 = 1) → Q r23 g23))) ∧ (¬ ((g0 0 20) = 3) → ((-2147483648 ≤ ((g0 0 21) + 1) ∧ ((g0 0 21) + 1) ≤ 2147483647) ∧ ((0 ≤ (2686 + (6 * (g0 1 2446))) ∧ (2686 + (6 * (g0 1 2446))) < 3296) ∧ L_M_tourStep_142 X N σ r0 (g0 1 2446) (2686 + (6 * (g0 1 2446))) 1 1 (z_up (z_up g0 0 21 ((g0 0 21) + 1)) 1 (2686 + (6 * (g0 1 2446))) r0) Q))))))))) ∧ (¬ (r0 = 1) → (((r0 = 3) → (((r0 = 14) → ((((g0 0 20) = 0) → (z_O X 1 m_M_fails [(2, 0), (0, 2)] N σ g0 (fun r30 g30 => (r30 = 0 ∨ r30 = 1) → Q r30 g30))) ∧ (¬ ((g0 0 20) = 0) → ((((g0 0 20) = 3) → (z_O X 1 m_M_fails [(2, 0), (0, 7)] N σ g0 (fun r29 g29 => (r29 = 0 ∨ r29 = 1) → Q r29 g29))) ∧ (¬ ((g0 0 20) = 3) → ((-2147483648 ≤ ((g0 0 21) + 0) ∧ ((g0 0 21) + 0) ≤ 2147483647) ∧ ((0 ≤ (2686 + (6 * (g0 1 2446))) ∧ (2686 + (6 * (g0 1 2446))) < 3296) ∧ L_M_tourStep_142 X N σ r0 (g0 1 2446) (2686 + (6 * (g0 1 2446))) 1 1 (z_up (z_up g0 0 21 ((g0 0 21) + 0)) 1 (2686 + (6 * (g0 1 2446))) r0) Q))))))) ∧ (¬ (r0 = 14) → ((((g0 0 21) = 30) → (z_O X 1 m_M_fails [(2, 0), (0, 6)] N σ g0 (fun r28 g28 => (r28 = 0 ∨ r28 = 1) → Q r28 g28))) ∧ (¬ ((g0 0 21) = 30) → ((((g0 0 20) = 3) → (z_O X 1 m_M_fails [(2, 0), (0, 7)] N σ g0 (fun r27 g27 => (r27 = 0 ∨ r27 = 1) → Q r27 g27))) ∧ (¬ ((g0 0 20) = 3) → ((-2147483648 ≤ ((g0 0 21) + 1) ∧ ((g0 0 21) + 1) ≤ 2147483647) ∧ ((0 ≤ (2686 + (6 * (g0 1 2446))) ∧ (2686 + (6 * (g0 1 2446))) < 3296) ∧ L_M_tourStep_142 X N σ r0 (g0 1 2446) (2686 + (6 * (g0 1 2446))) 1 1 (z_up (z_up g0 0 21 ((g0 0 21) + 1)) 1 (2686 + (6 * (g0 1 2446))) r0) Q))))))))) ∧ (¬ (r0 = 3) → (((r0 < 6) → (z_O X 1 m_M_fails [(2, 0), (0, 2)] N σ g0 (fun r31 g31 => (r31 = 0 ∨ r31 = 1) → Q r31 g31))) ∧ (¬ (r0 < 6) → (((15 < r0) → (z_O X 1 m_M_fails [(2, 0), (0, 2)] N σ g0 (fun r32 g32 => (r32 = 0 ∨ r32 = 1) → Q r32 g32))) ∧ (¬ (15 < r0) → (((r0 = 14) → ((((g0 0 20) = 0) → (z_O X 1 m_M_fails [(2, 0), (0, 2)] N σ g0 (fun r36 g36 => (r36 = 0 ∨ r36 = 1) → Q r36 g36))) ∧ (¬ ((g0 0 20) = 0) → ((((g0 0 20) = 3) → (z_O X 1 m_M_fails [(2, 0), (0, 7)] N σ g0 (fun r35 g35 => (r35 = 0 ∨ r35 = 1) → Q r35 g35))) ∧ (¬ ((g0 0 20) = 3) → ((-2147483648 ≤ ((g0 0 21) + 0) ∧ ((g0 0 21) + 0) ≤ 2147483647) ∧ ((0 ≤ (2686 + (6 * (g0 1 2446))) ∧ (2686 + (6 * (g0 1 2446))) < 3296) ∧ L_M_tourStep_142 X N σ r0 (g0 1 2446) (2686 + (6 * (g0 1 2446))) 1 1 (z_up (z_up g0 0 21 ((g0 0 21) + 0)) 1 (2686 + (6 * (g0 1 2446))) r0) Q))))))) ∧ (¬ (r0 = 14) → ((((g0 0 21) = 30) → (z_O X 1 m_M_fails [(2, 0), (0, 6)] N σ g0 (fun r34 g34 => (r34 = 0 ∨ r34 = 1) → Q r34 g34))) ∧ (¬ ((g0 0 21) = 30) → ((((g0 0 20) = 3) → (z_O X 1 m_M_fails [(2, 0), (0, 7)] N σ g0 (fun r33 g33 => (r33 = 0 ∨ r33 = 1) → Q r33 g33))) ∧ (¬ ((g0 0 20) = 3) → ((-2147483648 ≤ ((g0 0 21) + 1) ∧ ((g0 0 21) + 1) ≤ 2147483647) ∧ ((0 ≤ (2686 + (6 * (g0 1 2446))) ∧ (2686 + (6 * (g0 1 2446))) < 3296) ∧ L_M_tourStep_142 X N σ r0 (g0 1 2446) (2686 + (6 * (g0 1 2446))) 1 1 (z_up (z_up g0 0 21 ((g0 0 21) + 1)) 1 (2686 + (6 * (g0 1 2446))) r0) Q))))))))))))))))) ∧ (¬ (r0 = 13) → (((r0 = 1) → (((r0 = 14) → ((((g0 0 20) = 0) → (z_O X 1 m_M_fails [(2, 0), (0, 2)] N σ g0 (fun r16 g16 => (r16 = 0 ∨ r16 = 1) → Q r16 g16))) ∧ (¬ ((g0 0 20) = 0) → ((-2147483648 ≤ ((g0 0 21) + 0) ∧ ((g0 0 21) + 0) ≤ 2147483647) ∧ ((0 ≤ (2686 + (6 * (g0 1 2446))) ∧ (2686 + (6 * (g0 1 2446))) < 3296) ∧ L_M_tourStep_142 X N σ r0 (g0 1 2446) (2686 + (6 * (g0 1 2446))) 0 1 (z_up (z_up g0 0 21 ((g0 0 21) + 0)) 1 (2686 + (6 * (g0 1 2446))) r0) Q))))) ∧ (¬ (r0 = 14) → ((((g0 0 21) = 30) → (z_O X 1 m_M_fails [(2, 0), (0, 6)] N σ g0 (fun r15 g15 => (r15 = 0 ∨ r15 = 1) → Q r15 g15))) ∧ (¬ ((g0 0 21) = 30) → ((-2147483648 ≤ ((g0 0 21) + 1) ∧ ((g0 0 21) + 1) ≤ 2147483647) ∧ ((0 ≤ (2686 + (6 * (g0 1 2446))) ∧ (2686 + (6 * (g0 1 2446))) < 3296) ∧ L_M_tourStep_142 X N σ r0 (g0 1 2446) (2686 + (6 * (g0 1 2446))) 0 1 (z_up (z_up g0 0 21 ((g0 0 21) + 1)) 1 (2686 + (6 * (g0 1 2446))) r0) Q))))))) ∧ (¬ (r0 = 1) → (((r0 = 3) → (((r0 = 14) → ((((g0 0 20) = 0) → (z_O X 1 m_M_fails [(2, 0), (0, 2)] N σ g0 (fun r18 g18 => (r18 = 0 ∨ r18 = 1) → Q r18 g18))) ∧ (¬ ((g0 0 20) = 0) → ((-2147483648 ≤ ((g0 0 21) + 0) ∧ ((g0 0 21) + 0) ≤ 2147483647) ∧ ((0 ≤ (2686 + (6 * (g0 1 2446))) ∧ (2686 + (6 * (g0 1 2446))) < 3296) ∧ L_M_tourStep_142 X N σ r0 (g0 1 2446) (2686 + (6 * (g0 1 2446))) 0 1 (z_up (z_up g0 0 21 ((g0 0 21) + 0)) 1 (2686 + (6 * (g0 1 2446))) r0) Q))))) ∧ (¬ (r0 = 14) → ((((g0 0 21) = 30) → (z_O X 1 m_M_fails [(2, 0), (0, 6)] N σ g0 (fun r17 g17 => (r17 = 0 ∨ r17 = 1) → Q r17 g17))) ∧ (¬ ((g0 0 21) = 30) → ((-2147483648 ≤ ((g0 0 21) + 1) ∧ ((g0 0 21) + 1) ≤ 2147483647) ∧ ((0 ≤ (2686 + (6 * (g0 1 2446))) ∧ (2686 + (6 * (g0 1 2446))) < 3296) ∧ L_M_tourStep_142 X N σ r0 (g0 1 2446) (2686 + (6 * (g0 1 2446))) 0 1 (z_up (z_up g0 0 21 ((g0 0 21) + 1)) 1 (2686 + (6 * (g0 1 2446))) r0) Q))))))) ∧ (¬ (r0 = 3) → (((r0 < 6) → (z_O X 1 m_M_fails [(2, 0), (0, 2)] N σ g0 (fun r19 g19 => (r19 = 0 ∨ r19 = 1) → Q r19 g19))) ∧ (¬ (r0 < 6) → (((15 < r0) → (z_O X 1 m_M_fails [(2, 0), (0, 2)] N σ g0 (fun r20 g20 => (r20 = 0 ∨ r20 = 1) → Q r20 g20))) ∧ (¬ (15 < r0) → (((r0 = 14) → ((((g0 0 20) = 0) → (z_O X 1 m_M_fails [(2, 0), (0, 2)] N σ g0 (fun r22 g22 => (r22 = 0 ∨ r22 = 1) → Q r22 g22))) ∧ (¬ ((g0 0 20) = 0) → ((-2147483648 ≤ ((g0 0 21) + 0) ∧ ((g0 0 21) + 0) ≤ 2147483647) ∧ ((0 ≤ (2686 + (6 * (g0 1 2446))) ∧ (2686 + (6 * (g0 1 2446))) < 3296) ∧ L_M_tourStep_142 X N σ r0 (g0 1 2446) (2686 + (6 * (g0 1 2446))) 0 1 (z_up (z_up g0 0 21 ((g0 0 21) + 0)) 1 (2686 + (6 * (g0 1 2446))) r0) Q))))) ∧ (¬ (r0 = 14) → ((((g0 0 21) = 30) → (z_O X 1 m_M_fails [(2, 0), (0, 6)] N σ g0 (fun r21 g21 => (r21 = 0 ∨ r21 = 1) → Q r21 g21))) ∧ (¬ ((g0 0 21) = 30) → ((-2147483648 ≤ ((g0 0 21) + 1) ∧ ((g0 0 21) + 1) ≤ 2147483647) ∧ ((0 ≤ (2686 + (6 * (g0 1 2446))) ∧ (2686 + (6 * (g0 1 2446))) < 3296) ∧ L_M_tourStep_142 X N σ r0 (g0 1 2446) (2686 + (6 * (g0 1 2446))) 0 1 (z_up (z_up g0 0 21 ((g0 0 21) + 1)) 1 (2686 + (6 * (g0 1 2446))) r0) Q)))))))))))))))))))))) : z_O X 12 m_M_tourStep [(2, 0)] N σ g Q := by
  refine z_Oenter mi_M_tourStep rfl (fun _ => ?_)
  show z_U X 12 m_M_tourStep 0 [(0, (2, 0))] [] N σ g Q
  refine z_aload_n (i := 0) (c := 0) 0 d_M_tourStep_0 rfl rfl rfl ?_
  refine z_ldcs (q := ("FareyRankModel", 169, 20)) d_M_tourStep_1 (List.mem_of_getElem? (i := 23) rfl) rfl rfl rfl ?_
  refine z_cV (c := 0) (as := [(4, 20)]) (d' := 7) (st := []) d_M_tourStep_3 mi_M_inWords ml_M_171 mv_M_inWords se_M_inWords rfl rfl rfl rfl (ks_M_0 hx) rfl rfl (kl_M_0 hx) rfl rfl (z_Omono h (fun r0 g0 _ h hro => ?_))
  show z_U X 12 m_M_tourStep 6 [(0, (2, 0))] [(0, r0)] N σ g0 Q
  refine z_istore_n (i := 1) (ls' := [(1, (0, r0)), (0, (2, 0))]) d_M_tourStep_6 rfl rfl rfl ?_
  refine z_aload_n (i := 0) (c := 0) 1 d_M_tourStep_7 rfl rfl rfl ?_
  refine z_getr (c := 0) (kI := 0) (r2 := 1) d_M_tourStep_8 fd_M_at fl_M_7 rfl rfl rfl (ks_M_0 hx) (kl_M_0 hx) (kr_M_0_0 hx) ?_
  refine z_sipush (n := 2446) d_M_tourStep_11 (by decide) (by decide) ?_
  refine z_iald (c := 1) (m := 3296) d_M_tourStep_14 rfl (ks_M_1 hx) (kl_M_1 hx) rfl (by decide) (by decide) ?_
  refine z_istore_n (i := 2) (ls' := [(2, (0, g0 1 2446)), (1, (0, r0)), (0, (2, 0))]) d_M_tourStep_15 rfl rfl rfl ?_
  refine z_sipush (n := 2686) d_M_tourStep_16 (by decide) (by decide) ?_
  refine z_bipush (n := 6) d_M_tourStep_19 (by decide) (by decide) ?_
  refine z_iload_n (i := 2) 0 d_M_tourStep_21 rfl rfl ?_
  obtain ⟨c1, h⟩ := h
  refine z_imul d_M_tourStep_22 c1 ?_
  obtain ⟨c2, h⟩ := h
  refine z_iadd d_M_tourStep_23 c2 ?_
  refine z_istore_n (i := 3) (ls' := [(3, (0, 2686 + (6 * (g0 1 2446)))), (2, (0, g0 1 2446)), (1, (0, r0)), (0, (2, 0))]) d_M_tourStep_24 rfl rfl rfl ?_
  refine z_iload_n (i := 1) 2 d_M_tourStep_25 rfl rfl ?_
  refine z_bipush (n := 12) d_M_tourStep_26 (by decide) (by decide) ?_
  refine z_icmp_eq (tgt := 37) d_M_tourStep_28 (by decide) (fun c3 => ?_) (fun c3 => ?_)
  · have h := h.1 c3
    refine z_iconst (n := 1) d_M_tourStep_37 (by decide) ?_
    refine z_goto (tgt := 42) d_M_tourStep_38 (by decide) ?_
    refine z_istore (ls' := [(4, (0, 1)), (3, (0, 2686 + (6 * (g0 1 2446)))), (2, (0, g0 1 2446)), (1, (0, r0)), (0, (2, 0))]) d_M_tourStep_42 rfl rfl ?_
    refine z_iload_n (i := 1) 3 d_M_tourStep_44 rfl rfl ?_
    refine z_cS (as := [(0, r0)]) (d' := 1) (st := []) d_M_tourStep_45 mi_M_isOrder ml_M_222 ms_M_isOrder rfl rfl rfl rfl rfl (b_M_isOrder_0  ?_)
    refine ⟨fun c4 => ?_, fun c4 => ?_⟩
    · have h := h.1 c4
      intro _
      show z_U X 12 m_M_tourStep 48 [(4, (0, 1)), (3, (0, 2686 + (6 * (g0 1 2446)))), (2, (0, g0 1 2446)), (1, (0, r0)), (0, (2, 0))] [(0, 1)] N σ g0 Q
      refine z_if_eq (tgt := 64) d_M_tourStep_48 (by decide) (fun c => absurd c (by decide)) (fun _ => ?_)
      refine z_iload_n (i := 1) 3 d_M_tourStep_51 rfl rfl ?_
      refine z_bipush (n := 14) d_M_tourStep_52 (by decide) (by decide) ?_
      refine z_icmp_ne (tgt := 70) d_M_tourStep_54 (by decide) (fun c5 => ?_) (fun c5 => ?_)
      · have h := h.2 c5
        refine z_iload_n (i := 1) 3 d_M_tourStep_70 rfl rfl ?_
        refine z_bipush (n := 14) d_M_tourStep_71 (by decide) (by decide) ?_
        refine z_icmp_eq (tgt := 92) d_M_tourStep_73 (by decide) (fun c => absurd c c5) (fun _ => ?_)
        refine z_aload_n (i := 0) (c := 0) 4 d_M_tourStep_76 rfl rfl rfl ?_
        refine z_geti (c := 0) (kI := 21) d_M_tourStep_77 fd_M_counted fl_M_228 (Or.inl rfl) rfl rfl (ks_M_0 hx) (kl_M_0 hx) ?_
        refine z_bipush (n := 30) d_M_tourStep_80 (by decide) (by decide) ?_
        refine z_icmp_ne (tgt := 92) d_M_tourStep_82 (by decide) (fun c6 => ?_) (fun c6 => ?_)
        · have h := h.2 c6
          refine z_iload 0 d_M_tourStep_92 rfl ?_
          refine z_if_eq (tgt := 112) d_M_tourStep_94 (by decide) (fun c => absurd c (by decide)) (fun _ => ?_)
          refine z_aload_n (i := 0) (c := 0) 4 d_M_tourStep_97 rfl rfl rfl ?_
          refine z_geti (c := 0) (kI := 20) d_M_tourStep_98 fd_M_depth fl_M_225 (Or.inl rfl) rfl rfl (ks_M_0 hx) (kl_M_0 hx) ?_
          refine z_iconst (n := 3) d_M_tourStep_101 (by decide) ?_
          refine z_icmp_ne (tgt := 112) d_M_tourStep_102 (by decide) (fun c7 => ?_) (fun c7 => ?_)
          · have h := h.2 c7
            refine z_aload_n (i := 0) (c := 0) 4 d_M_tourStep_112 rfl rfl rfl ?_
            refine z_dup d_M_tourStep_113 rfl ?_
            refine z_geti (c := 0) (kI := 21) d_M_tourStep_114 fd_M_counted fl_M_228 (Or.inl rfl) rfl rfl (ks_M_0 hx) (kl_M_0 hx) ?_
            refine z_iload_n (i := 1) 3 d_M_tourStep_117 rfl rfl ?_
            refine z_bipush (n := 14) d_M_tourStep_118 (by decide) (by decide) ?_
            refine z_icmp_ne (tgt := 127) d_M_tourStep_120 (by decide) (fun _ => ?_) (fun c => absurd c c5)
            refine z_iconst (n := 1) d_M_tourStep_127 (by decide) ?_
            obtain ⟨c8, h⟩ := h
            refine z_iadd d_M_tourStep_128 c8 ?_
            refine z_puti (c := 0) (kI := 21) d_M_tourStep_129 fd_M_counted fl_M_228 pf_M_counted rfl rfl rfl rfl (ks_M_0 hx) (kl_M_0 hx) ?_
            refine z_aload_n (i := 0) (c := 0) 4 d_M_tourStep_132 rfl rfl rfl ?_
            refine z_getr (c := 0) (kI := 0) (r2 := 1) d_M_tourStep_133 fd_M_at fl_M_7 rfl rfl rfl (ks_M_0 hx) (kl_M_0 hx) (kr_M_0_0 hx) ?_
            refine z_iload_n (i := 3) 1 d_M_tourStep_136 rfl rfl ?_
            refine z_iload_n (i := 1) 3 d_M_tourStep_137 rfl rfl ?_
            obtain ⟨c9, h⟩ := h
            refine z_iast (c := 1) (m := 3296) d_M_tourStep_138 rfl (ks_M_1 hx) (kl_M_1 hx) rfl (by decide) c9 ?_
            refine z_iconst (n := 1) d_M_tourStep_139 (by decide) ?_
            refine z_istore (ls' := [(5, (0, 1)), (4, (0, 1)), (3, (0, 2686 + (6 * (g0 1 2446)))), (2, (0, g0 1 2446)), (1, (0, r0)), (0, (2, 0))]) d_M_tourStep_140 rfl rfl ?_
            refine z_sub (ls' := [(0, (2, 0)), (1, (0, r0)), (2, (0, g0 1 2446)), (3, (0, 2686 + (6 * (g0 1 2446)))), (4, (0, 1)), (5, (0, 1))]) [5, 4, 3, 2, 1, 0] rfl ?_
            exact h
          · have h := h.1 c7
            refine z_aload_n (i := 0) (c := 0) 4 d_M_tourStep_105 rfl rfl rfl ?_
            refine z_bipush (n := 7) d_M_tourStep_106 (by decide) (by decide) ?_
            refine z_cV (c := 0) (as := [(0, 7)]) (d' := 1) (st := []) d_M_tourStep_108 mi_M_fails ml_M_166 mv_M_fails se_M_fails rfl rfl rfl rfl (ks_M_0 hx) rfl rfl (kl_M_0 hx) rfl rfl (z_Omono h (fun r1 g1 _ h hro => ?_))
            have h := h (z_b01 hro)
            have hzr1 := z_b01 hro
            show z_U X 12 m_M_tourStep 111 [(4, (0, 1)), (3, (0, 2686 + (6 * (g0 1 2446)))), (2, (0, g0 1 2446)), (1, (0, r0)), (0, (2, 0))] [(0, r1)] N σ g1 Q
            exact z_zret d_M_tourStep_111 rfl (by decide) (by decide) hzr1 ⟨rfl, rfl, h⟩
        · have h := h.1 c6
          refine z_aload_n (i := 0) (c := 0) 4 d_M_tourStep_85 rfl rfl rfl ?_
          refine z_bipush (n := 6) d_M_tourStep_86 (by decide) (by decide) ?_
          refine z_cV (c := 0) (as := [(0, 6)]) (d' := 1) (st := []) d_M_tourStep_88 mi_M_fails ml_M_166 mv_M_fails se_M_fails rfl rfl rfl rfl (ks_M_0 hx) rfl rfl (kl_M_0 hx) rfl rfl (z_Omono h (fun r2 g2 _ h hro => ?_))
          have h := h (z_b01 hro)
          have hzr2 := z_b01 hro
          show z_U X 12 m_M_tourStep 91 [(4, (0, 1)), (3, (0, 2686 + (6 * (g0 1 2446)))), (2, (0, g0 1 2446)), (1, (0, r0)), (0, (2, 0))] [(0, r2)] N σ g2 Q
          exact z_zret d_M_tourStep_91 rfl (by decide) (by decide) hzr2 ⟨rfl, rfl, h⟩
      · have h := h.1 c5
        refine z_aload_n (i := 0) (c := 0) 4 d_M_tourStep_57 rfl rfl rfl ?_
        refine z_geti (c := 0) (kI := 20) d_M_tourStep_58 fd_M_depth fl_M_225 (Or.inl rfl) rfl rfl (ks_M_0 hx) (kl_M_0 hx) ?_
        refine z_if_ne (tgt := 70) d_M_tourStep_61 (by decide) (fun c10 => ?_) (fun c10 => ?_)
        · have h := h.2 c10
          refine z_iload_n (i := 1) 3 d_M_tourStep_70 rfl rfl ?_
          refine z_bipush (n := 14) d_M_tourStep_71 (by decide) (by decide) ?_
          refine z_icmp_eq (tgt := 92) d_M_tourStep_73 (by decide) (fun _ => ?_) (fun c => absurd c5 c)
          refine z_iload 0 d_M_tourStep_92 rfl ?_
          refine z_if_eq (tgt := 112) d_M_tourStep_94 (by decide) (fun c => absurd c (by decide)) (fun _ => ?_)
          refine z_aload_n (i := 0) (c := 0) 4 d_M_tourStep_97 rfl rfl rfl ?_
          refine z_geti (c := 0) (kI := 20) d_M_tourStep_98 fd_M_depth fl_M_225 (Or.inl rfl) rfl rfl (ks_M_0 hx) (kl_M_0 hx) ?_
          refine z_iconst (n := 3) d_M_tourStep_101 (by decide) ?_
          refine z_icmp_ne (tgt := 112) d_M_tourStep_102 (by decide) (fun c11 => ?_) (fun c11 => ?_)
          · have h := h.2 c11
            refine z_aload_n (i := 0) (c := 0) 4 d_M_tourStep_112 rfl rfl rfl ?_
            refine z_dup d_M_tourStep_113 rfl ?_
            refine z_geti (c := 0) (kI := 21) d_M_tourStep_114 fd_M_counted fl_M_228 (Or.inl rfl) rfl rfl (ks_M_0 hx) (kl_M_0 hx) ?_
            refine z_iload_n (i := 1) 3 d_M_tourStep_117 rfl rfl ?_
            refine z_bipush (n := 14) d_M_tourStep_118 (by decide) (by decide) ?_
            refine z_icmp_ne (tgt := 127) d_M_tourStep_120 (by decide) (fun c => absurd c5 c) (fun _ => ?_)
            refine z_iconst (n := 0) d_M_tourStep_123 (by decide) ?_
            refine z_goto (tgt := 128) d_M_tourStep_124 (by decide) ?_
            obtain ⟨c12, h⟩ := h
            refine z_iadd d_M_tourStep_128 c12 ?_
            refine z_puti (c := 0) (kI := 21) d_M_tourStep_129 fd_M_counted fl_M_228 pf_M_counted rfl rfl rfl rfl (ks_M_0 hx) (kl_M_0 hx) ?_
            refine z_aload_n (i := 0) (c := 0) 4 d_M_tourStep_132 rfl rfl rfl ?_
            refine z_getr (c := 0) (kI := 0) (r2 := 1) d_M_tourStep_133 fd_M_at fl_M_7 rfl rfl rfl (ks_M_0 hx) (kl_M_0 hx) (kr_M_0_0 hx) ?_
            refine z_iload_n (i := 3) 1 d_M_tourStep_136 rfl rfl ?_
            refine z_iload_n (i := 1) 3 d_M_tourStep_137 rfl rfl ?_
            obtain ⟨c13, h⟩ := h
            refine z_iast (c := 1) (m := 3296) d_M_tourStep_138 rfl (ks_M_1 hx) (kl_M_1 hx) rfl (by decide) c13 ?_
            refine z_iconst (n := 1) d_M_tourStep_139 (by decide) ?_
            refine z_istore (ls' := [(5, (0, 1)), (4, (0, 1)), (3, (0, 2686 + (6 * (g0 1 2446)))), (2, (0, g0 1 2446)), (1, (0, r0)), (0, (2, 0))]) d_M_tourStep_140 rfl rfl ?_
            refine z_sub (ls' := [(0, (2, 0)), (1, (0, r0)), (2, (0, g0 1 2446)), (3, (0, 2686 + (6 * (g0 1 2446)))), (4, (0, 1)), (5, (0, 1))]) [5, 4, 3, 2, 1, 0] rfl ?_
            exact h
          · have h := h.1 c11
            refine z_aload_n (i := 0) (c := 0) 4 d_M_tourStep_105 rfl rfl rfl ?_
            refine z_bipush (n := 7) d_M_tourStep_106 (by decide) (by decide) ?_
            refine z_cV (c := 0) (as := [(0, 7)]) (d' := 1) (st := []) d_M_tourStep_108 mi_M_fails ml_M_166 mv_M_fails se_M_fails rfl rfl rfl rfl (ks_M_0 hx) rfl rfl (kl_M_0 hx) rfl rfl (z_Omono h (fun r3 g3 _ h hro => ?_))
            have h := h (z_b01 hro)
            have hzr3 := z_b01 hro
            show z_U X 12 m_M_tourStep 111 [(4, (0, 1)), (3, (0, 2686 + (6 * (g0 1 2446)))), (2, (0, g0 1 2446)), (1, (0, r0)), (0, (2, 0))] [(0, r3)] N σ g3 Q
            exact z_zret d_M_tourStep_111 rfl (by decide) (by decide) hzr3 ⟨rfl, rfl, h⟩
        · have h := h.1 c10
          refine z_aload_n (i := 0) (c := 0) 4 d_M_tourStep_64 rfl rfl rfl ?_
          refine z_iconst (n := 2) d_M_tourStep_65 (by decide) ?_
          refine z_cV (c := 0) (as := [(0, 2)]) (d' := 1) (st := []) d_M_tourStep_66 mi_M_fails ml_M_166 mv_M_fails se_M_fails rfl rfl rfl rfl (ks_M_0 hx) rfl rfl (kl_M_0 hx) rfl rfl (z_Omono h (fun r4 g4 _ h hro => ?_))
          have h := h (z_b01 hro)
          have hzr4 := z_b01 hro
          show z_U X 12 m_M_tourStep 69 [(4, (0, 1)), (3, (0, 2686 + (6 * (g0 1 2446)))), (2, (0, g0 1 2446)), (1, (0, r0)), (0, (2, 0))] [(0, r4)] N σ g4 Q
          exact z_zret d_M_tourStep_69 rfl (by decide) (by decide) hzr4 ⟨rfl, rfl, h⟩
    · have h := h.2 c4
      refine ⟨fun c14 => ?_, fun c14 => ?_⟩
      · have h := h.1 c14
        intro _
        show z_U X 12 m_M_tourStep 48 [(4, (0, 1)), (3, (0, 2686 + (6 * (g0 1 2446)))), (2, (0, g0 1 2446)), (1, (0, r0)), (0, (2, 0))] [(0, 1)] N σ g0 Q
        refine z_if_eq (tgt := 64) d_M_tourStep_48 (by decide) (fun c => absurd c (by decide)) (fun _ => ?_)
        refine z_iload_n (i := 1) 3 d_M_tourStep_51 rfl rfl ?_
        refine z_bipush (n := 14) d_M_tourStep_52 (by decide) (by decide) ?_
        refine z_icmp_ne (tgt := 70) d_M_tourStep_54 (by decide) (fun c15 => ?_) (fun c15 => ?_)
        · have h := h.2 c15
          refine z_iload_n (i := 1) 3 d_M_tourStep_70 rfl rfl ?_
          refine z_bipush (n := 14) d_M_tourStep_71 (by decide) (by decide) ?_
          refine z_icmp_eq (tgt := 92) d_M_tourStep_73 (by decide) (fun c => absurd c c15) (fun _ => ?_)
          refine z_aload_n (i := 0) (c := 0) 4 d_M_tourStep_76 rfl rfl rfl ?_
          refine z_geti (c := 0) (kI := 21) d_M_tourStep_77 fd_M_counted fl_M_228 (Or.inl rfl) rfl rfl (ks_M_0 hx) (kl_M_0 hx) ?_
          refine z_bipush (n := 30) d_M_tourStep_80 (by decide) (by decide) ?_
          refine z_icmp_ne (tgt := 92) d_M_tourStep_82 (by decide) (fun c16 => ?_) (fun c16 => ?_)
          · have h := h.2 c16
            refine z_iload 0 d_M_tourStep_92 rfl ?_
            refine z_if_eq (tgt := 112) d_M_tourStep_94 (by decide) (fun c => absurd c (by decide)) (fun _ => ?_)
            refine z_aload_n (i := 0) (c := 0) 4 d_M_tourStep_97 rfl rfl rfl ?_
            refine z_geti (c := 0) (kI := 20) d_M_tourStep_98 fd_M_depth fl_M_225 (Or.inl rfl) rfl rfl (ks_M_0 hx) (kl_M_0 hx) ?_
            refine z_iconst (n := 3) d_M_tourStep_101 (by decide) ?_
            refine z_icmp_ne (tgt := 112) d_M_tourStep_102 (by decide) (fun c17 => ?_) (fun c17 => ?_)
            · have h := h.2 c17
              refine z_aload_n (i := 0) (c := 0) 4 d_M_tourStep_112 rfl rfl rfl ?_
              refine z_dup d_M_tourStep_113 rfl ?_
              refine z_geti (c := 0) (kI := 21) d_M_tourStep_114 fd_M_counted fl_M_228 (Or.inl rfl) rfl rfl (ks_M_0 hx) (kl_M_0 hx) ?_
              refine z_iload_n (i := 1) 3 d_M_tourStep_117 rfl rfl ?_
              refine z_bipush (n := 14) d_M_tourStep_118 (by decide) (by decide) ?_
              refine z_icmp_ne (tgt := 127) d_M_tourStep_120 (by decide) (fun _ => ?_) (fun c => absurd c c15)
              refine z_iconst (n := 1) d_M_tourStep_127 (by decide) ?_
              obtain ⟨c18, h⟩ := h
              refine z_iadd d_M_tourStep_128 c18 ?_
              refine z_puti (c := 0) (kI := 21) d_M_tourStep_129 fd_M_counted fl_M_228 pf_M_counted rfl rfl rfl rfl (ks_M_0 hx) (kl_M_0 hx) ?_
              refine z_aload_n (i := 0) (c := 0) 4 d_M_tourStep_132 rfl rfl rfl ?_
              refine z_getr (c := 0) (kI := 0) (r2 := 1) d_M_tourStep_133 fd_M_at fl_M_7 rfl rfl rfl (ks_M_0 hx) (kl_M_0 hx) (kr_M_0_0 hx) ?_
              refine z_iload_n (i := 3) 1 d_M_tourStep_136 rfl rfl ?_
              refine z_iload_n (i := 1) 3 d_M_tourStep_137 rfl rfl ?_
              obtain ⟨c19, h⟩ := h
              refine z_iast (c := 1) (m := 3296) d_M_tourStep_138 rfl (ks_M_1 hx) (kl_M_1 hx) rfl (by decide) c19 ?_
              refine z_iconst (n := 1) d_M_tourStep_139 (by decide) ?_
              refine z_istore (ls' := [(5, (0, 1)), (4, (0, 1)), (3, (0, 2686 + (6 * (g0 1 2446)))), (2, (0, g0 1 2446)), (1, (0, r0)), (0, (2, 0))]) d_M_tourStep_140 rfl rfl ?_
              refine z_sub (ls' := [(0, (2, 0)), (1, (0, r0)), (2, (0, g0 1 2446)), (3, (0, 2686 + (6 * (g0 1 2446)))), (4, (0, 1)), (5, (0, 1))]) [5, 4, 3, 2, 1, 0] rfl ?_
              exact h
            · have h := h.1 c17
              refine z_aload_n (i := 0) (c := 0) 4 d_M_tourStep_105 rfl rfl rfl ?_
              refine z_bipush (n := 7) d_M_tourStep_106 (by decide) (by decide) ?_
              refine z_cV (c := 0) (as := [(0, 7)]) (d' := 1) (st := []) d_M_tourStep_108 mi_M_fails ml_M_166 mv_M_fails se_M_fails rfl rfl rfl rfl (ks_M_0 hx) rfl rfl (kl_M_0 hx) rfl rfl (z_Omono h (fun r5 g5 _ h hro => ?_))
              have h := h (z_b01 hro)
              have hzr5 := z_b01 hro
              show z_U X 12 m_M_tourStep 111 [(4, (0, 1)), (3, (0, 2686 + (6 * (g0 1 2446)))), (2, (0, g0 1 2446)), (1, (0, r0)), (0, (2, 0))] [(0, r5)] N σ g5 Q
              exact z_zret d_M_tourStep_111 rfl (by decide) (by decide) hzr5 ⟨rfl, rfl, h⟩
          · have h := h.1 c16
            refine z_aload_n (i := 0) (c := 0) 4 d_M_tourStep_85 rfl rfl rfl ?_
            refine z_bipush (n := 6) d_M_tourStep_86 (by decide) (by decide) ?_
            refine z_cV (c := 0) (as := [(0, 6)]) (d' := 1) (st := []) d_M_tourStep_88 mi_M_fails ml_M_166 mv_M_fails se_M_fails rfl rfl rfl rfl (ks_M_0 hx) rfl rfl (kl_M_0 hx) rfl rfl (z_Omono h (fun r6 g6 _ h hro => ?_))
            have h := h (z_b01 hro)
            have hzr6 := z_b01 hro
            show z_U X 12 m_M_tourStep 91 [(4, (0, 1)), (3, (0, 2686 + (6 * (g0 1 2446)))), (2, (0, g0 1 2446)), (1, (0, r0)), (0, (2, 0))] [(0, r6)] N σ g6 Q
            exact z_zret d_M_tourStep_91 rfl (by decide) (by decide) hzr6 ⟨rfl, rfl, h⟩
        · have h := h.1 c15
          refine z_aload_n (i := 0) (c := 0) 4 d_M_tourStep_57 rfl rfl rfl ?_
          refine z_geti (c := 0) (kI := 20) d_M_tourStep_58 fd_M_depth fl_M_225 (Or.inl rfl) rfl rfl (ks_M_0 hx) (kl_M_0 hx) ?_
          refine z_if_ne (tgt := 70) d_M_tourStep_61 (by decide) (fun c20 => ?_) (fun c20 => ?_)
          · have h := h.2 c20
            refine z_iload_n (i := 1) 3 d_M_tourStep_70 rfl rfl ?_
            refine z_bipush (n := 14) d_M_tourStep_71 (by decide) (by decide) ?_
            refine z_icmp_eq (tgt := 92) d_M_tourStep_73 (by decide) (fun _ => ?_) (fun c => absurd c15 c)
            refine z_iload 0 d_M_tourStep_92 rfl ?_
            refine z_if_eq (tgt := 112) d_M_tourStep_94 (by decide) (fun c => absurd c (by decide)) (fun _ => ?_)
            refine z_aload_n (i := 0) (c := 0) 4 d_M_tourStep_97 rfl rfl rfl ?_
            refine z_geti (c := 0) (kI := 20) d_M_tourStep_98 fd_M_depth fl_M_225 (Or.inl rfl) rfl rfl (ks_M_0 hx) (kl_M_0 hx) ?_
            refine z_iconst (n := 3) d_M_tourStep_101 (by decide) ?_
            refine z_icmp_ne (tgt := 112) d_M_tourStep_102 (by decide) (fun c21 => ?_) (fun c21 => ?_)
            · have h := h.2 c21
              refine z_aload_n (i := 0) (c := 0) 4 d_M_tourStep_112 rfl rfl rfl ?_
              refine z_dup d_M_tourStep_113 rfl ?_
              refine z_geti (c := 0) (kI := 21) d_M_tourStep_114 fd_M_counted fl_M_228 (Or.inl rfl) rfl rfl (ks_M_0 hx) (kl_M_0 hx) ?_
              refine z_iload_n (i := 1) 3 d_M_tourStep_117 rfl rfl ?_
              refine z_bipush (n := 14) d_M_tourStep_118 (by decide) (by decide) ?_
              refine z_icmp_ne (tgt := 127) d_M_tourStep_120 (by decide) (fun c => absurd c15 c) (fun _ => ?_)
              refine z_iconst (n := 0) d_M_tourStep_123 (by decide) ?_
              refine z_goto (tgt := 128) d_M_tourStep_124 (by decide) ?_
              obtain ⟨c22, h⟩ := h
              refine z_iadd d_M_tourStep_128 c22 ?_
              refine z_puti (c := 0) (kI := 21) d_M_tourStep_129 fd_M_counted fl_M_228 pf_M_counted rfl rfl rfl rfl (ks_M_0 hx) (kl_M_0 hx) ?_
              refine z_aload_n (i := 0) (c := 0) 4 d_M_tourStep_132 rfl rfl rfl ?_
              refine z_getr (c := 0) (kI := 0) (r2 := 1) d_M_tourStep_133 fd_M_at fl_M_7 rfl rfl rfl (ks_M_0 hx) (kl_M_0 hx) (kr_M_0_0 hx) ?_
              refine z_iload_n (i := 3) 1 d_M_tourStep_136 rfl rfl ?_
              refine z_iload_n (i := 1) 3 d_M_tourStep_137 rfl rfl ?_
              obtain ⟨c23, h⟩ := h
              refine z_iast (c := 1) (m := 3296) d_M_tourStep_138 rfl (ks_M_1 hx) (kl_M_1 hx) rfl (by decide) c23 ?_
              refine z_iconst (n := 1) d_M_tourStep_139 (by decide) ?_
              refine z_istore (ls' := [(5, (0, 1)), (4, (0, 1)), (3, (0, 2686 + (6 * (g0 1 2446)))), (2, (0, g0 1 2446)), (1, (0, r0)), (0, (2, 0))]) d_M_tourStep_140 rfl rfl ?_
              refine z_sub (ls' := [(0, (2, 0)), (1, (0, r0)), (2, (0, g0 1 2446)), (3, (0, 2686 + (6 * (g0 1 2446)))), (4, (0, 1)), (5, (0, 1))]) [5, 4, 3, 2, 1, 0] rfl ?_
              exact h
            · have h := h.1 c21
              refine z_aload_n (i := 0) (c := 0) 4 d_M_tourStep_105 rfl rfl rfl ?_
              refine z_bipush (n := 7) d_M_tourStep_106 (by decide) (by decide) ?_
              refine z_cV (c := 0) (as := [(0, 7)]) (d' := 1) (st := []) d_M_tourStep_108 mi_M_fails ml_M_166 mv_M_fails se_M_fails rfl rfl rfl rfl (ks_M_0 hx) rfl rfl (kl_M_0 hx) rfl rfl (z_Omono h (fun r7 g7 _ h hro => ?_))
              have h := h (z_b01 hro)
              have hzr7 := z_b01 hro
              show z_U X 12 m_M_tourStep 111 [(4, (0, 1)), (3, (0, 2686 + (6 * (g0 1 2446)))), (2, (0, g0 1 2446)), (1, (0, r0)), (0, (2, 0))] [(0, r7)] N σ g7 Q
              exact z_zret d_M_tourStep_111 rfl (by decide) (by decide) hzr7 ⟨rfl, rfl, h⟩
          · have h := h.1 c20
            refine z_aload_n (i := 0) (c := 0) 4 d_M_tourStep_64 rfl rfl rfl ?_
            refine z_iconst (n := 2) d_M_tourStep_65 (by decide) ?_
            refine z_cV (c := 0) (as := [(0, 2)]) (d' := 1) (st := []) d_M_tourStep_66 mi_M_fails ml_M_166 mv_M_fails se_M_fails rfl rfl rfl rfl (ks_M_0 hx) rfl rfl (kl_M_0 hx) rfl rfl (z_Omono h (fun r8 g8 _ h hro => ?_))
            have h := h (z_b01 hro)
            have hzr8 := z_b01 hro
            show z_U X 12 m_M_tourStep 69 [(4, (0, 1)), (3, (0, 2686 + (6 * (g0 1 2446)))), (2, (0, g0 1 2446)), (1, (0, r0)), (0, (2, 0))] [(0, r8)] N σ g8 Q
            exact z_zret d_M_tourStep_69 rfl (by decide) (by decide) hzr8 ⟨rfl, rfl, h⟩
      · have h := h.2 c14
        refine ⟨fun c24 => ?_, fun c24 => ?_⟩
        · have h := h.1 c24
          intro _
          show z_U X 12 m_M_tourStep 48 [(4, (0, 1)), (3, (0, 2686 + (6 * (g0 1 2446)))), (2, (0, g0 1 2446)), (1, (0, r0)), (0, (2, 0))] [(0, 0)] N σ g0 Q
          refine z_if_eq (tgt := 64) d_M_tourStep_48 (by decide) (fun _ => ?_) (fun c => absurd (by decide) c)
          refine z_aload_n (i := 0) (c := 0) 4 d_M_tourStep_64 rfl rfl rfl ?_
          refine z_iconst (n := 2) d_M_tourStep_65 (by decide) ?_
          refine z_cV (c := 0) (as := [(0, 2)]) (d' := 1) (st := []) d_M_tourStep_66 mi_M_fails ml_M_166 mv_M_fails se_M_fails rfl rfl rfl rfl (ks_M_0 hx) rfl rfl (kl_M_0 hx) rfl rfl (z_Omono h (fun r9 g9 _ h hro => ?_))
          have h := h (z_b01 hro)
          have hzr9 := z_b01 hro
          show z_U X 12 m_M_tourStep 69 [(4, (0, 1)), (3, (0, 2686 + (6 * (g0 1 2446)))), (2, (0, g0 1 2446)), (1, (0, r0)), (0, (2, 0))] [(0, r9)] N σ g9 Q
          exact z_zret d_M_tourStep_69 rfl (by decide) (by decide) hzr9 ⟨rfl, rfl, h⟩
        · have h := h.2 c24
          refine ⟨fun c25 => ?_, fun c25 => ?_⟩
          · have h := h.1 c25
            intro _
            show z_U X 12 m_M_tourStep 48 [(4, (0, 1)), (3, (0, 2686 + (6 * (g0 1 2446)))), (2, (0, g0 1 2446)), (1, (0, r0)), (0, (2, 0))] [(0, 0)] N σ g0 Q
            refine z_if_eq (tgt := 64) d_M_tourStep_48 (by decide) (fun _ => ?_) (fun c => absurd (by decide) c)
            refine z_aload_n (i := 0) (c := 0) 4 d_M_tourStep_64 rfl rfl rfl ?_
            refine z_iconst (n := 2) d_M_tourStep_65 (by decide) ?_
            refine z_cV (c := 0) (as := [(0, 2)]) (d' := 1) (st := []) d_M_tourStep_66 mi_M_fails ml_M_166 mv_M_fails se_M_fails rfl rfl rfl rfl (ks_M_0 hx) rfl rfl (kl_M_0 hx) rfl rfl (z_Omono h (fun r10 g10 _ h hro => ?_))
            have h := h (z_b01 hro)
            have hzr10 := z_b01 hro
            show z_U X 12 m_M_tourStep 69 [(4, (0, 1)), (3, (0, 2686 + (6 * (g0 1 2446)))), (2, (0, g0 1 2446)), (1, (0, r0)), (0, (2, 0))] [(0, r10)] N σ g10 Q
            exact z_zret d_M_tourStep_69 rfl (by decide) (by decide) hzr10 ⟨rfl, rfl, h⟩
          · have h := h.2 c25
            intro _
            show z_U X 12 m_M_tourStep 48 [(4, (0, 1)), (3, (0, 2686 + (6 * (g0 1 2446)))), (2, (0, g0 1 2446)), (1, (0, r0)), (0, (2, 0))] [(0, 1)] N σ g0 Q
            refine z_if_eq (tgt := 64) d_M_tourStep_48 (by decide) (fun c => absurd c (by decide)) (fun _ => ?_)
            refine z_iload_n (i := 1) 3 d_M_tourStep_51 rfl rfl ?_
            refine z_bipush (n := 14) d_M_tourStep_52 (by decide) (by decide) ?_
            refine z_icmp_ne (tgt := 70) d_M_tourStep_54 (by decide) (fun c26 => ?_) (fun c26 => ?_)
            · have h := h.2 c26
              refine z_iload_n (i := 1) 3 d_M_tourStep_70 rfl rfl ?_
              refine z_bipush (n := 14) d_M_tourStep_71 (by decide) (by decide) ?_
              refine z_icmp_eq (tgt := 92) d_M_tourStep_73 (by decide) (fun c => absurd c c26) (fun _ => ?_)
              refine z_aload_n (i := 0) (c := 0) 4 d_M_tourStep_76 rfl rfl rfl ?_
              refine z_geti (c := 0) (kI := 21) d_M_tourStep_77 fd_M_counted fl_M_228 (Or.inl rfl) rfl rfl (ks_M_0 hx) (kl_M_0 hx) ?_
              refine z_bipush (n := 30) d_M_tourStep_80 (by decide) (by decide) ?_
              refine z_icmp_ne (tgt := 92) d_M_tourStep_82 (by decide) (fun c27 => ?_) (fun c27 => ?_)
              · have h := h.2 c27
                refine z_iload 0 d_M_tourStep_92 rfl ?_
                refine z_if_eq (tgt := 112) d_M_tourStep_94 (by decide) (fun c => absurd c (by decide)) (fun _ => ?_)
                refine z_aload_n (i := 0) (c := 0) 4 d_M_tourStep_97 rfl rfl rfl ?_
                refine z_geti (c := 0) (kI := 20) d_M_tourStep_98 fd_M_depth fl_M_225 (Or.inl rfl) rfl rfl (ks_M_0 hx) (kl_M_0 hx) ?_
                refine z_iconst (n := 3) d_M_tourStep_101 (by decide) ?_
                refine z_icmp_ne (tgt := 112) d_M_tourStep_102 (by decide) (fun c28 => ?_) (fun c28 => ?_)
                · have h := h.2 c28
                  refine z_aload_n (i := 0) (c := 0) 4 d_M_tourStep_112 rfl rfl rfl ?_
                  refine z_dup d_M_tourStep_113 rfl ?_
                  refine z_geti (c := 0) (kI := 21) d_M_tourStep_114 fd_M_counted fl_M_228 (Or.inl rfl) rfl rfl (ks_M_0 hx) (kl_M_0 hx) ?_
                  refine z_iload_n (i := 1) 3 d_M_tourStep_117 rfl rfl ?_
                  refine z_bipush (n := 14) d_M_tourStep_118 (by decide) (by decide) ?_
                  refine z_icmp_ne (tgt := 127) d_M_tourStep_120 (by decide) (fun _ => ?_) (fun c => absurd c c26)
                  refine z_iconst (n := 1) d_M_tourStep_127 (by decide) ?_
                  obtain ⟨c29, h⟩ := h
                  refine z_iadd d_M_tourStep_128 c29 ?_
                  refine z_puti (c := 0) (kI := 21) d_M_tourStep_129 fd_M_counted fl_M_228 pf_M_counted rfl rfl rfl rfl (ks_M_0 hx) (kl_M_0 hx) ?_
                  refine z_aload_n (i := 0) (c := 0) 4 d_M_tourStep_132 rfl rfl rfl ?_
                  refine z_getr (c := 0) (kI := 0) (r2 := 1) d_M_tourStep_133 fd_M_at fl_M_7 rfl rfl rfl (ks_M_0 hx) (kl_M_0 hx) (kr_M_0_0 hx) ?_
                  refine z_iload_n (i := 3) 1 d_M_tourStep_136 rfl rfl ?_
                  refine z_iload_n (i := 1) 3 d_M_tourStep_137 rfl rfl ?_
                  obtain ⟨c30, h⟩ := h
                  refine z_iast (c := 1) (m := 3296) d_M_tourStep_138 rfl (ks_M_1 hx) (kl_M_1 hx) rfl (by decide) c30 ?_
                  refine z_iconst (n := 1) d_M_tourStep_139 (by decide) ?_
                  refine z_istore (ls' := [(5, (0, 1)), (4, (0, 1)), (3, (0, 2686 + (6 * (g0 1 2446)))), (2, (0, g0 1 2446)), (1, (0, r0)), (0, (2, 0))]) d_M_tourStep_140 rfl rfl ?_
                  refine z_sub (ls' := [(0, (2, 0)), (1, (0, r0)), (2, (0, g0 1 2446)), (3, (0, 2686 + (6 * (g0 1 2446)))), (4, (0, 1)), (5, (0, 1))]) [5, 4, 3, 2, 1, 0] rfl ?_
                  exact h
                · have h := h.1 c28
                  refine z_aload_n (i := 0) (c := 0) 4 d_M_tourStep_105 rfl rfl rfl ?_
                  refine z_bipush (n := 7) d_M_tourStep_106 (by decide) (by decide) ?_
                  refine z_cV (c := 0) (as := [(0, 7)]) (d' := 1) (st := []) d_M_tourStep_108 mi_M_fails ml_M_166 mv_M_fails se_M_fails rfl rfl rfl rfl (ks_M_0 hx) rfl rfl (kl_M_0 hx) rfl rfl (z_Omono h (fun r11 g11 _ h hro => ?_))
                  have h := h (z_b01 hro)
                  have hzr11 := z_b01 hro
                  show z_U X 12 m_M_tourStep 111 [(4, (0, 1)), (3, (0, 2686 + (6 * (g0 1 2446)))), (2, (0, g0 1 2446)), (1, (0, r0)), (0, (2, 0))] [(0, r11)] N σ g11 Q
                  exact z_zret d_M_tourStep_111 rfl (by decide) (by decide) hzr11 ⟨rfl, rfl, h⟩
              · have h := h.1 c27
                refine z_aload_n (i := 0) (c := 0) 4 d_M_tourStep_85 rfl rfl rfl ?_
                refine z_bipush (n := 6) d_M_tourStep_86 (by decide) (by decide) ?_
                refine z_cV (c := 0) (as := [(0, 6)]) (d' := 1) (st := []) d_M_tourStep_88 mi_M_fails ml_M_166 mv_M_fails se_M_fails rfl rfl rfl rfl (ks_M_0 hx) rfl rfl (kl_M_0 hx) rfl rfl (z_Omono h (fun r12 g12 _ h hro => ?_))
                have h := h (z_b01 hro)
                have hzr12 := z_b01 hro
                show z_U X 12 m_M_tourStep 91 [(4, (0, 1)), (3, (0, 2686 + (6 * (g0 1 2446)))), (2, (0, g0 1 2446)), (1, (0, r0)), (0, (2, 0))] [(0, r12)] N σ g12 Q
                exact z_zret d_M_tourStep_91 rfl (by decide) (by decide) hzr12 ⟨rfl, rfl, h⟩
            · have h := h.1 c26
              refine z_aload_n (i := 0) (c := 0) 4 d_M_tourStep_57 rfl rfl rfl ?_
              refine z_geti (c := 0) (kI := 20) d_M_tourStep_58 fd_M_depth fl_M_225 (Or.inl rfl) rfl rfl (ks_M_0 hx) (kl_M_0 hx) ?_
              refine z_if_ne (tgt := 70) d_M_tourStep_61 (by decide) (fun c31 => ?_) (fun c31 => ?_)
              · have h := h.2 c31
                refine z_iload_n (i := 1) 3 d_M_tourStep_70 rfl rfl ?_
                refine z_bipush (n := 14) d_M_tourStep_71 (by decide) (by decide) ?_
                refine z_icmp_eq (tgt := 92) d_M_tourStep_73 (by decide) (fun _ => ?_) (fun c => absurd c26 c)
                refine z_iload 0 d_M_tourStep_92 rfl ?_
                refine z_if_eq (tgt := 112) d_M_tourStep_94 (by decide) (fun c => absurd c (by decide)) (fun _ => ?_)
                refine z_aload_n (i := 0) (c := 0) 4 d_M_tourStep_97 rfl rfl rfl ?_
                refine z_geti (c := 0) (kI := 20) d_M_tourStep_98 fd_M_depth fl_M_225 (Or.inl rfl) rfl rfl (ks_M_0 hx) (kl_M_0 hx) ?_
                refine z_iconst (n := 3) d_M_tourStep_101 (by decide) ?_
                refine z_icmp_ne (tgt := 112) d_M_tourStep_102 (by decide) (fun c32 => ?_) (fun c32 => ?_)
                · have h := h.2 c32
                  refine z_aload_n (i := 0) (c := 0) 4 d_M_tourStep_112 rfl rfl rfl ?_
                  refine z_dup d_M_tourStep_113 rfl ?_
                  refine z_geti (c := 0) (kI := 21) d_M_tourStep_114 fd_M_counted fl_M_228 (Or.inl rfl) rfl rfl (ks_M_0 hx) (kl_M_0 hx) ?_
                  refine z_iload_n (i := 1) 3 d_M_tourStep_117 rfl rfl ?_
                  refine z_bipush (n := 14) d_M_tourStep_118 (by decide) (by decide) ?_
                  refine z_icmp_ne (tgt := 127) d_M_tourStep_120 (by decide) (fun c => absurd c26 c) (fun _ => ?_)
                  refine z_iconst (n := 0) d_M_tourStep_123 (by decide) ?_
                  refine z_goto (tgt := 128) d_M_tourStep_124 (by decide) ?_
                  obtain ⟨c33, h⟩ := h
                  refine z_iadd d_M_tourStep_128 c33 ?_
                  refine z_puti (c := 0) (kI := 21) d_M_tourStep_129 fd_M_counted fl_M_228 pf_M_counted rfl rfl rfl rfl (ks_M_0 hx) (kl_M_0 hx) ?_
                  refine z_aload_n (i := 0) (c := 0) 4 d_M_tourStep_132 rfl rfl rfl ?_
                  refine z_getr (c := 0) (kI := 0) (r2 := 1) d_M_tourStep_133 fd_M_at fl_M_7 rfl rfl rfl (ks_M_0 hx) (kl_M_0 hx) (kr_M_0_0 hx) ?_
                  refine z_iload_n (i := 3) 1 d_M_tourStep_136 rfl rfl ?_
                  refine z_iload_n (i := 1) 3 d_M_tourStep_137 rfl rfl ?_
                  obtain ⟨c34, h⟩ := h
                  refine z_iast (c := 1) (m := 3296) d_M_tourStep_138 rfl (ks_M_1 hx) (kl_M_1 hx) rfl (by decide) c34 ?_
                  refine z_iconst (n := 1) d_M_tourStep_139 (by decide) ?_
                  refine z_istore (ls' := [(5, (0, 1)), (4, (0, 1)), (3, (0, 2686 + (6 * (g0 1 2446)))), (2, (0, g0 1 2446)), (1, (0, r0)), (0, (2, 0))]) d_M_tourStep_140 rfl rfl ?_
                  refine z_sub (ls' := [(0, (2, 0)), (1, (0, r0)), (2, (0, g0 1 2446)), (3, (0, 2686 + (6 * (g0 1 2446)))), (4, (0, 1)), (5, (0, 1))]) [5, 4, 3, 2, 1, 0] rfl ?_
                  exact h
                · have h := h.1 c32
                  refine z_aload_n (i := 0) (c := 0) 4 d_M_tourStep_105 rfl rfl rfl ?_
                  refine z_bipush (n := 7) d_M_tourStep_106 (by decide) (by decide) ?_
                  refine z_cV (c := 0) (as := [(0, 7)]) (d' := 1) (st := []) d_M_tourStep_108 mi_M_fails ml_M_166 mv_M_fails se_M_fails rfl rfl rfl rfl (ks_M_0 hx) rfl rfl (kl_M_0 hx) rfl rfl (z_Omono h (fun r13 g13 _ h hro => ?_))
                  have h := h (z_b01 hro)
                  have hzr13 := z_b01 hro
                  show z_U X 12 m_M_tourStep 111 [(4, (0, 1)), (3, (0, 2686 + (6 * (g0 1 2446)))), (2, (0, g0 1 2446)), (1, (0, r0)), (0, (2, 0))] [(0, r13)] N σ g13 Q
                  exact z_zret d_M_tourStep_111 rfl (by decide) (by decide) hzr13 ⟨rfl, rfl, h⟩
              · have h := h.1 c31
                refine z_aload_n (i := 0) (c := 0) 4 d_M_tourStep_64 rfl rfl rfl ?_
                refine z_iconst (n := 2) d_M_tourStep_65 (by decide) ?_
                refine z_cV (c := 0) (as := [(0, 2)]) (d' := 1) (st := []) d_M_tourStep_66 mi_M_fails ml_M_166 mv_M_fails se_M_fails rfl rfl rfl rfl (ks_M_0 hx) rfl rfl (kl_M_0 hx) rfl rfl (z_Omono h (fun r14 g14 _ h hro => ?_))
                have h := h (z_b01 hro)
                have hzr14 := z_b01 hro
                show z_U X 12 m_M_tourStep 69 [(4, (0, 1)), (3, (0, 2686 + (6 * (g0 1 2446)))), (2, (0, g0 1 2446)), (1, (0, r0)), (0, (2, 0))] [(0, r14)] N σ g14 Q
                exact z_zret d_M_tourStep_69 rfl (by decide) (by decide) hzr14 ⟨rfl, rfl, h⟩
  · have h := h.2 c3
    refine z_iload_n (i := 1) 2 d_M_tourStep_31 rfl rfl ?_
    refine z_bipush (n := 13) d_M_tourStep_32 (by decide) (by decide) ?_
    refine z_icmp_ne (tgt := 41) d_M_tourStep_34 (by decide) (fun c35 => ?_) (fun c35 => ?_)
    · have h := h.2 c35
      refine z_iconst (n := 0) d_M_tourStep_41 (by decide) ?_
      refine z_istore (ls' := [(4, (0, 0)), (3, (0, 2686 + (6 * (g0 1 2446)))), (2, (0, g0 1 2446)), (1, (0, r0)), (0, (2, 0))]) d_M_tourStep_42 rfl rfl ?_
      refine z_iload_n (i := 1) 3 d_M_tourStep_44 rfl rfl ?_
      refine z_cS (as := [(0, r0)]) (d' := 1) (st := []) d_M_tourStep_45 mi_M_isOrder ml_M_222 ms_M_isOrder rfl rfl rfl rfl rfl (b_M_isOrder_0  ?_)
      refine ⟨fun c36 => ?_, fun c36 => ?_⟩
      · have h := h.1 c36
        intro _
        show z_U X 12 m_M_tourStep 48 [(4, (0, 0)), (3, (0, 2686 + (6 * (g0 1 2446)))), (2, (0, g0 1 2446)), (1, (0, r0)), (0, (2, 0))] [(0, 1)] N σ g0 Q
        refine z_if_eq (tgt := 64) d_M_tourStep_48 (by decide) (fun c => absurd c (by decide)) (fun _ => ?_)
        refine z_iload_n (i := 1) 3 d_M_tourStep_51 rfl rfl ?_
        refine z_bipush (n := 14) d_M_tourStep_52 (by decide) (by decide) ?_
        refine z_icmp_ne (tgt := 70) d_M_tourStep_54 (by decide) (fun c37 => ?_) (fun c37 => ?_)
        · have h := h.2 c37
          refine z_iload_n (i := 1) 3 d_M_tourStep_70 rfl rfl ?_
          refine z_bipush (n := 14) d_M_tourStep_71 (by decide) (by decide) ?_
          refine z_icmp_eq (tgt := 92) d_M_tourStep_73 (by decide) (fun c => absurd c c37) (fun _ => ?_)
          refine z_aload_n (i := 0) (c := 0) 4 d_M_tourStep_76 rfl rfl rfl ?_
          refine z_geti (c := 0) (kI := 21) d_M_tourStep_77 fd_M_counted fl_M_228 (Or.inl rfl) rfl rfl (ks_M_0 hx) (kl_M_0 hx) ?_
          refine z_bipush (n := 30) d_M_tourStep_80 (by decide) (by decide) ?_
          refine z_icmp_ne (tgt := 92) d_M_tourStep_82 (by decide) (fun c38 => ?_) (fun c38 => ?_)
          · have h := h.2 c38
            refine z_iload 0 d_M_tourStep_92 rfl ?_
            refine z_if_eq (tgt := 112) d_M_tourStep_94 (by decide) (fun _ => ?_) (fun c => absurd (by decide) c)
            refine z_aload_n (i := 0) (c := 0) 4 d_M_tourStep_112 rfl rfl rfl ?_
            refine z_dup d_M_tourStep_113 rfl ?_
            refine z_geti (c := 0) (kI := 21) d_M_tourStep_114 fd_M_counted fl_M_228 (Or.inl rfl) rfl rfl (ks_M_0 hx) (kl_M_0 hx) ?_
            refine z_iload_n (i := 1) 3 d_M_tourStep_117 rfl rfl ?_
            refine z_bipush (n := 14) d_M_tourStep_118 (by decide) (by decide) ?_
            refine z_icmp_ne (tgt := 127) d_M_tourStep_120 (by decide) (fun _ => ?_) (fun c => absurd c c37)
            refine z_iconst (n := 1) d_M_tourStep_127 (by decide) ?_
            obtain ⟨c39, h⟩ := h
            refine z_iadd d_M_tourStep_128 c39 ?_
            refine z_puti (c := 0) (kI := 21) d_M_tourStep_129 fd_M_counted fl_M_228 pf_M_counted rfl rfl rfl rfl (ks_M_0 hx) (kl_M_0 hx) ?_
            refine z_aload_n (i := 0) (c := 0) 4 d_M_tourStep_132 rfl rfl rfl ?_
            refine z_getr (c := 0) (kI := 0) (r2 := 1) d_M_tourStep_133 fd_M_at fl_M_7 rfl rfl rfl (ks_M_0 hx) (kl_M_0 hx) (kr_M_0_0 hx) ?_
            refine z_iload_n (i := 3) 1 d_M_tourStep_136 rfl rfl ?_
            refine z_iload_n (i := 1) 3 d_M_tourStep_137 rfl rfl ?_
            obtain ⟨c40, h⟩ := h
            refine z_iast (c := 1) (m := 3296) d_M_tourStep_138 rfl (ks_M_1 hx) (kl_M_1 hx) rfl (by decide) c40 ?_
            refine z_iconst (n := 1) d_M_tourStep_139 (by decide) ?_
            refine z_istore (ls' := [(5, (0, 1)), (4, (0, 0)), (3, (0, 2686 + (6 * (g0 1 2446)))), (2, (0, g0 1 2446)), (1, (0, r0)), (0, (2, 0))]) d_M_tourStep_140 rfl rfl ?_
            refine z_sub (ls' := [(0, (2, 0)), (1, (0, r0)), (2, (0, g0 1 2446)), (3, (0, 2686 + (6 * (g0 1 2446)))), (4, (0, 0)), (5, (0, 1))]) [5, 4, 3, 2, 1, 0] rfl ?_
            exact h
          · have h := h.1 c38
            refine z_aload_n (i := 0) (c := 0) 4 d_M_tourStep_85 rfl rfl rfl ?_
            refine z_bipush (n := 6) d_M_tourStep_86 (by decide) (by decide) ?_
            refine z_cV (c := 0) (as := [(0, 6)]) (d' := 1) (st := []) d_M_tourStep_88 mi_M_fails ml_M_166 mv_M_fails se_M_fails rfl rfl rfl rfl (ks_M_0 hx) rfl rfl (kl_M_0 hx) rfl rfl (z_Omono h (fun r15 g15 _ h hro => ?_))
            have h := h (z_b01 hro)
            have hzr15 := z_b01 hro
            show z_U X 12 m_M_tourStep 91 [(4, (0, 0)), (3, (0, 2686 + (6 * (g0 1 2446)))), (2, (0, g0 1 2446)), (1, (0, r0)), (0, (2, 0))] [(0, r15)] N σ g15 Q
            exact z_zret d_M_tourStep_91 rfl (by decide) (by decide) hzr15 ⟨rfl, rfl, h⟩
        · have h := h.1 c37
          refine z_aload_n (i := 0) (c := 0) 4 d_M_tourStep_57 rfl rfl rfl ?_
          refine z_geti (c := 0) (kI := 20) d_M_tourStep_58 fd_M_depth fl_M_225 (Or.inl rfl) rfl rfl (ks_M_0 hx) (kl_M_0 hx) ?_
          refine z_if_ne (tgt := 70) d_M_tourStep_61 (by decide) (fun c41 => ?_) (fun c41 => ?_)
          · have h := h.2 c41
            refine z_iload_n (i := 1) 3 d_M_tourStep_70 rfl rfl ?_
            refine z_bipush (n := 14) d_M_tourStep_71 (by decide) (by decide) ?_
            refine z_icmp_eq (tgt := 92) d_M_tourStep_73 (by decide) (fun _ => ?_) (fun c => absurd c37 c)
            refine z_iload 0 d_M_tourStep_92 rfl ?_
            refine z_if_eq (tgt := 112) d_M_tourStep_94 (by decide) (fun _ => ?_) (fun c => absurd (by decide) c)
            refine z_aload_n (i := 0) (c := 0) 4 d_M_tourStep_112 rfl rfl rfl ?_
            refine z_dup d_M_tourStep_113 rfl ?_
            refine z_geti (c := 0) (kI := 21) d_M_tourStep_114 fd_M_counted fl_M_228 (Or.inl rfl) rfl rfl (ks_M_0 hx) (kl_M_0 hx) ?_
            refine z_iload_n (i := 1) 3 d_M_tourStep_117 rfl rfl ?_
            refine z_bipush (n := 14) d_M_tourStep_118 (by decide) (by decide) ?_
            refine z_icmp_ne (tgt := 127) d_M_tourStep_120 (by decide) (fun c => absurd c37 c) (fun _ => ?_)
            refine z_iconst (n := 0) d_M_tourStep_123 (by decide) ?_
            refine z_goto (tgt := 128) d_M_tourStep_124 (by decide) ?_
            obtain ⟨c42, h⟩ := h
            refine z_iadd d_M_tourStep_128 c42 ?_
            refine z_puti (c := 0) (kI := 21) d_M_tourStep_129 fd_M_counted fl_M_228 pf_M_counted rfl rfl rfl rfl (ks_M_0 hx) (kl_M_0 hx) ?_
            refine z_aload_n (i := 0) (c := 0) 4 d_M_tourStep_132 rfl rfl rfl ?_
            refine z_getr (c := 0) (kI := 0) (r2 := 1) d_M_tourStep_133 fd_M_at fl_M_7 rfl rfl rfl (ks_M_0 hx) (kl_M_0 hx) (kr_M_0_0 hx) ?_
            refine z_iload_n (i := 3) 1 d_M_tourStep_136 rfl rfl ?_
            refine z_iload_n (i := 1) 3 d_M_tourStep_137 rfl rfl ?_
            obtain ⟨c43, h⟩ := h
            refine z_iast (c := 1) (m := 3296) d_M_tourStep_138 rfl (ks_M_1 hx) (kl_M_1 hx) rfl (by decide) c43 ?_
            refine z_iconst (n := 1) d_M_tourStep_139 (by decide) ?_
            refine z_istore (ls' := [(5, (0, 1)), (4, (0, 0)), (3, (0, 2686 + (6 * (g0 1 2446)))), (2, (0, g0 1 2446)), (1, (0, r0)), (0, (2, 0))]) d_M_tourStep_140 rfl rfl ?_
            refine z_sub (ls' := [(0, (2, 0)), (1, (0, r0)), (2, (0, g0 1 2446)), (3, (0, 2686 + (6 * (g0 1 2446)))), (4, (0, 0)), (5, (0, 1))]) [5, 4, 3, 2, 1, 0] rfl ?_
            exact h
          · have h := h.1 c41
            refine z_aload_n (i := 0) (c := 0) 4 d_M_tourStep_64 rfl rfl rfl ?_
            refine z_iconst (n := 2) d_M_tourStep_65 (by decide) ?_
            refine z_cV (c := 0) (as := [(0, 2)]) (d' := 1) (st := []) d_M_tourStep_66 mi_M_fails ml_M_166 mv_M_fails se_M_fails rfl rfl rfl rfl (ks_M_0 hx) rfl rfl (kl_M_0 hx) rfl rfl (z_Omono h (fun r16 g16 _ h hro => ?_))
            have h := h (z_b01 hro)
            have hzr16 := z_b01 hro
            show z_U X 12 m_M_tourStep 69 [(4, (0, 0)), (3, (0, 2686 + (6 * (g0 1 2446)))), (2, (0, g0 1 2446)), (1, (0, r0)), (0, (2, 0))] [(0, r16)] N σ g16 Q
            exact z_zret d_M_tourStep_69 rfl (by decide) (by decide) hzr16 ⟨rfl, rfl, h⟩
      · have h := h.2 c36
        refine ⟨fun c44 => ?_, fun c44 => ?_⟩
        · have h := h.1 c44
          intro _
          show z_U X 12 m_M_tourStep 48 [(4, (0, 0)), (3, (0, 2686 + (6 * (g0 1 2446)))), (2, (0, g0 1 2446)), (1, (0, r0)), (0, (2, 0))] [(0, 1)] N σ g0 Q
          refine z_if_eq (tgt := 64) d_M_tourStep_48 (by decide) (fun c => absurd c (by decide)) (fun _ => ?_)
          refine z_iload_n (i := 1) 3 d_M_tourStep_51 rfl rfl ?_
          refine z_bipush (n := 14) d_M_tourStep_52 (by decide) (by decide) ?_
          refine z_icmp_ne (tgt := 70) d_M_tourStep_54 (by decide) (fun c45 => ?_) (fun c45 => ?_)
          · have h := h.2 c45
            refine z_iload_n (i := 1) 3 d_M_tourStep_70 rfl rfl ?_
            refine z_bipush (n := 14) d_M_tourStep_71 (by decide) (by decide) ?_
            refine z_icmp_eq (tgt := 92) d_M_tourStep_73 (by decide) (fun c => absurd c c45) (fun _ => ?_)
            refine z_aload_n (i := 0) (c := 0) 4 d_M_tourStep_76 rfl rfl rfl ?_
            refine z_geti (c := 0) (kI := 21) d_M_tourStep_77 fd_M_counted fl_M_228 (Or.inl rfl) rfl rfl (ks_M_0 hx) (kl_M_0 hx) ?_
            refine z_bipush (n := 30) d_M_tourStep_80 (by decide) (by decide) ?_
            refine z_icmp_ne (tgt := 92) d_M_tourStep_82 (by decide) (fun c46 => ?_) (fun c46 => ?_)
            · have h := h.2 c46
              refine z_iload 0 d_M_tourStep_92 rfl ?_
              refine z_if_eq (tgt := 112) d_M_tourStep_94 (by decide) (fun _ => ?_) (fun c => absurd (by decide) c)
              refine z_aload_n (i := 0) (c := 0) 4 d_M_tourStep_112 rfl rfl rfl ?_
              refine z_dup d_M_tourStep_113 rfl ?_
              refine z_geti (c := 0) (kI := 21) d_M_tourStep_114 fd_M_counted fl_M_228 (Or.inl rfl) rfl rfl (ks_M_0 hx) (kl_M_0 hx) ?_
              refine z_iload_n (i := 1) 3 d_M_tourStep_117 rfl rfl ?_
              refine z_bipush (n := 14) d_M_tourStep_118 (by decide) (by decide) ?_
              refine z_icmp_ne (tgt := 127) d_M_tourStep_120 (by decide) (fun _ => ?_) (fun c => absurd c c45)
              refine z_iconst (n := 1) d_M_tourStep_127 (by decide) ?_
              obtain ⟨c47, h⟩ := h
              refine z_iadd d_M_tourStep_128 c47 ?_
              refine z_puti (c := 0) (kI := 21) d_M_tourStep_129 fd_M_counted fl_M_228 pf_M_counted rfl rfl rfl rfl (ks_M_0 hx) (kl_M_0 hx) ?_
              refine z_aload_n (i := 0) (c := 0) 4 d_M_tourStep_132 rfl rfl rfl ?_
              refine z_getr (c := 0) (kI := 0) (r2 := 1) d_M_tourStep_133 fd_M_at fl_M_7 rfl rfl rfl (ks_M_0 hx) (kl_M_0 hx) (kr_M_0_0 hx) ?_
              refine z_iload_n (i := 3) 1 d_M_tourStep_136 rfl rfl ?_
              refine z_iload_n (i := 1) 3 d_M_tourStep_137 rfl rfl ?_
              obtain ⟨c48, h⟩ := h
              refine z_iast (c := 1) (m := 3296) d_M_tourStep_138 rfl (ks_M_1 hx) (kl_M_1 hx) rfl (by decide) c48 ?_
              refine z_iconst (n := 1) d_M_tourStep_139 (by decide) ?_
              refine z_istore (ls' := [(5, (0, 1)), (4, (0, 0)), (3, (0, 2686 + (6 * (g0 1 2446)))), (2, (0, g0 1 2446)), (1, (0, r0)), (0, (2, 0))]) d_M_tourStep_140 rfl rfl ?_
              refine z_sub (ls' := [(0, (2, 0)), (1, (0, r0)), (2, (0, g0 1 2446)), (3, (0, 2686 + (6 * (g0 1 2446)))), (4, (0, 0)), (5, (0, 1))]) [5, 4, 3, 2, 1, 0] rfl ?_
              exact h
            · have h := h.1 c46
              refine z_aload_n (i := 0) (c := 0) 4 d_M_tourStep_85 rfl rfl rfl ?_
              refine z_bipush (n := 6) d_M_tourStep_86 (by decide) (by decide) ?_
              refine z_cV (c := 0) (as := [(0, 6)]) (d' := 1) (st := []) d_M_tourStep_88 mi_M_fails ml_M_166 mv_M_fails se_M_fails rfl rfl rfl rfl (ks_M_0 hx) rfl rfl (kl_M_0 hx) rfl rfl (z_Omono h (fun r17 g17 _ h hro => ?_))
              have h := h (z_b01 hro)
              have hzr17 := z_b01 hro
              show z_U X 12 m_M_tourStep 91 [(4, (0, 0)), (3, (0, 2686 + (6 * (g0 1 2446)))), (2, (0, g0 1 2446)), (1, (0, r0)), (0, (2, 0))] [(0, r17)] N σ g17 Q
              exact z_zret d_M_tourStep_91 rfl (by decide) (by decide) hzr17 ⟨rfl, rfl, h⟩
          · have h := h.1 c45
            refine z_aload_n (i := 0) (c := 0) 4 d_M_tourStep_57 rfl rfl rfl ?_
            refine z_geti (c := 0) (kI := 20) d_M_tourStep_58 fd_M_depth fl_M_225 (Or.inl rfl) rfl rfl (ks_M_0 hx) (kl_M_0 hx) ?_
            refine z_if_ne (tgt := 70) d_M_tourStep_61 (by decide) (fun c49 => ?_) (fun c49 => ?_)
            · have h := h.2 c49
              refine z_iload_n (i := 1) 3 d_M_tourStep_70 rfl rfl ?_
              refine z_bipush (n := 14) d_M_tourStep_71 (by decide) (by decide) ?_
              refine z_icmp_eq (tgt := 92) d_M_tourStep_73 (by decide) (fun _ => ?_) (fun c => absurd c45 c)
              refine z_iload 0 d_M_tourStep_92 rfl ?_
              refine z_if_eq (tgt := 112) d_M_tourStep_94 (by decide) (fun _ => ?_) (fun c => absurd (by decide) c)
              refine z_aload_n (i := 0) (c := 0) 4 d_M_tourStep_112 rfl rfl rfl ?_
              refine z_dup d_M_tourStep_113 rfl ?_
              refine z_geti (c := 0) (kI := 21) d_M_tourStep_114 fd_M_counted fl_M_228 (Or.inl rfl) rfl rfl (ks_M_0 hx) (kl_M_0 hx) ?_
              refine z_iload_n (i := 1) 3 d_M_tourStep_117 rfl rfl ?_
              refine z_bipush (n := 14) d_M_tourStep_118 (by decide) (by decide) ?_
              refine z_icmp_ne (tgt := 127) d_M_tourStep_120 (by decide) (fun c => absurd c45 c) (fun _ => ?_)
              refine z_iconst (n := 0) d_M_tourStep_123 (by decide) ?_
              refine z_goto (tgt := 128) d_M_tourStep_124 (by decide) ?_
              obtain ⟨c50, h⟩ := h
              refine z_iadd d_M_tourStep_128 c50 ?_
              refine z_puti (c := 0) (kI := 21) d_M_tourStep_129 fd_M_counted fl_M_228 pf_M_counted rfl rfl rfl rfl (ks_M_0 hx) (kl_M_0 hx) ?_
              refine z_aload_n (i := 0) (c := 0) 4 d_M_tourStep_132 rfl rfl rfl ?_
              refine z_getr (c := 0) (kI := 0) (r2 := 1) d_M_tourStep_133 fd_M_at fl_M_7 rfl rfl rfl (ks_M_0 hx) (kl_M_0 hx) (kr_M_0_0 hx) ?_
              refine z_iload_n (i := 3) 1 d_M_tourStep_136 rfl rfl ?_
              refine z_iload_n (i := 1) 3 d_M_tourStep_137 rfl rfl ?_
              obtain ⟨c51, h⟩ := h
              refine z_iast (c := 1) (m := 3296) d_M_tourStep_138 rfl (ks_M_1 hx) (kl_M_1 hx) rfl (by decide) c51 ?_
              refine z_iconst (n := 1) d_M_tourStep_139 (by decide) ?_
              refine z_istore (ls' := [(5, (0, 1)), (4, (0, 0)), (3, (0, 2686 + (6 * (g0 1 2446)))), (2, (0, g0 1 2446)), (1, (0, r0)), (0, (2, 0))]) d_M_tourStep_140 rfl rfl ?_
              refine z_sub (ls' := [(0, (2, 0)), (1, (0, r0)), (2, (0, g0 1 2446)), (3, (0, 2686 + (6 * (g0 1 2446)))), (4, (0, 0)), (5, (0, 1))]) [5, 4, 3, 2, 1, 0] rfl ?_
              exact h
            · have h := h.1 c49
              refine z_aload_n (i := 0) (c := 0) 4 d_M_tourStep_64 rfl rfl rfl ?_
              refine z_iconst (n := 2) d_M_tourStep_65 (by decide) ?_
              refine z_cV (c := 0) (as := [(0, 2)]) (d' := 1) (st := []) d_M_tourStep_66 mi_M_fails ml_M_166 mv_M_fails se_M_fails rfl rfl rfl rfl (ks_M_0 hx) rfl rfl (kl_M_0 hx) rfl rfl (z_Omono h (fun r18 g18 _ h hro => ?_))
              have h := h (z_b01 hro)
              have hzr18 := z_b01 hro
              show z_U X 12 m_M_tourStep 69 [(4, (0, 0)), (3, (0, 2686 + (6 * (g0 1 2446)))), (2, (0, g0 1 2446)), (1, (0, r0)), (0, (2, 0))] [(0, r18)] N σ g18 Q
              exact z_zret d_M_tourStep_69 rfl (by decide) (by decide) hzr18 ⟨rfl, rfl, h⟩
        · have h := h.2 c44
          refine ⟨fun c52 => ?_, fun c52 => ?_⟩
          · have h := h.1 c52
            intro _
            show z_U X 12 m_M_tourStep 48 [(4, (0, 0)), (3, (0, 2686 + (6 * (g0 1 2446)))), (2, (0, g0 1 2446)), (1, (0, r0)), (0, (2, 0))] [(0, 0)] N σ g0 Q
            refine z_if_eq (tgt := 64) d_M_tourStep_48 (by decide) (fun _ => ?_) (fun c => absurd (by decide) c)
            refine z_aload_n (i := 0) (c := 0) 4 d_M_tourStep_64 rfl rfl rfl ?_
            refine z_iconst (n := 2) d_M_tourStep_65 (by decide) ?_
            refine z_cV (c := 0) (as := [(0, 2)]) (d' := 1) (st := []) d_M_tourStep_66 mi_M_fails ml_M_166 mv_M_fails se_M_fails rfl rfl rfl rfl (ks_M_0 hx) rfl rfl (kl_M_0 hx) rfl rfl (z_Omono h (fun r19 g19 _ h hro => ?_))
            have h := h (z_b01 hro)
            have hzr19 := z_b01 hro
            show z_U X 12 m_M_tourStep 69 [(4, (0, 0)), (3, (0, 2686 + (6 * (g0 1 2446)))), (2, (0, g0 1 2446)), (1, (0, r0)), (0, (2, 0))] [(0, r19)] N σ g19 Q
            exact z_zret d_M_tourStep_69 rfl (by decide) (by decide) hzr19 ⟨rfl, rfl, h⟩
          · have h := h.2 c52
            refine ⟨fun c53 => ?_, fun c53 => ?_⟩
            · have h := h.1 c53
              intro _
              show z_U X 12 m_M_tourStep 48 [(4, (0, 0)), (3, (0, 2686 + (6 * (g0 1 2446)))), (2, (0, g0 1 2446)), (1, (0, r0)), (0, (2, 0))] [(0, 0)] N σ g0 Q
              refine z_if_eq (tgt := 64) d_M_tourStep_48 (by decide) (fun _ => ?_) (fun c => absurd (by decide) c)
              refine z_aload_n (i := 0) (c := 0) 4 d_M_tourStep_64 rfl rfl rfl ?_
              refine z_iconst (n := 2) d_M_tourStep_65 (by decide) ?_
              refine z_cV (c := 0) (as := [(0, 2)]) (d' := 1) (st := []) d_M_tourStep_66 mi_M_fails ml_M_166 mv_M_fails se_M_fails rfl rfl rfl rfl (ks_M_0 hx) rfl rfl (kl_M_0 hx) rfl rfl (z_Omono h (fun r20 g20 _ h hro => ?_))
              have h := h (z_b01 hro)
              have hzr20 := z_b01 hro
              show z_U X 12 m_M_tourStep 69 [(4, (0, 0)), (3, (0, 2686 + (6 * (g0 1 2446)))), (2, (0, g0 1 2446)), (1, (0, r0)), (0, (2, 0))] [(0, r20)] N σ g20 Q
              exact z_zret d_M_tourStep_69 rfl (by decide) (by decide) hzr20 ⟨rfl, rfl, h⟩
            · have h := h.2 c53
              intro _
              show z_U X 12 m_M_tourStep 48 [(4, (0, 0)), (3, (0, 2686 + (6 * (g0 1 2446)))), (2, (0, g0 1 2446)), (1, (0, r0)), (0, (2, 0))] [(0, 1)] N σ g0 Q
              refine z_if_eq (tgt := 64) d_M_tourStep_48 (by decide) (fun c => absurd c (by decide)) (fun _ => ?_)
              refine z_iload_n (i := 1) 3 d_M_tourStep_51 rfl rfl ?_
              refine z_bipush (n := 14) d_M_tourStep_52 (by decide) (by decide) ?_
              refine z_icmp_ne (tgt := 70) d_M_tourStep_54 (by decide) (fun c54 => ?_) (fun c54 => ?_)
              · have h := h.2 c54
                refine z_iload_n (i := 1) 3 d_M_tourStep_70 rfl rfl ?_
                refine z_bipush (n := 14) d_M_tourStep_71 (by decide) (by decide) ?_
                refine z_icmp_eq (tgt := 92) d_M_tourStep_73 (by decide) (fun c => absurd c c54) (fun _ => ?_)
                refine z_aload_n (i := 0) (c := 0) 4 d_M_tourStep_76 rfl rfl rfl ?_
                refine z_geti (c := 0) (kI := 21) d_M_tourStep_77 fd_M_counted fl_M_228 (Or.inl rfl) rfl rfl (ks_M_0 hx) (kl_M_0 hx) ?_
                refine z_bipush (n := 30) d_M_tourStep_80 (by decide) (by decide) ?_
                refine z_icmp_ne (tgt := 92) d_M_tourStep_82 (by decide) (fun c55 => ?_) (fun c55 => ?_)
                · have h := h.2 c55
                  refine z_iload 0 d_M_tourStep_92 rfl ?_
                  refine z_if_eq (tgt := 112) d_M_tourStep_94 (by decide) (fun _ => ?_) (fun c => absurd (by decide) c)
                  refine z_aload_n (i := 0) (c := 0) 4 d_M_tourStep_112 rfl rfl rfl ?_
                  refine z_dup d_M_tourStep_113 rfl ?_
                  refine z_geti (c := 0) (kI := 21) d_M_tourStep_114 fd_M_counted fl_M_228 (Or.inl rfl) rfl rfl (ks_M_0 hx) (kl_M_0 hx) ?_
                  refine z_iload_n (i := 1) 3 d_M_tourStep_117 rfl rfl ?_
                  refine z_bipush (n := 14) d_M_tourStep_118 (by decide) (by decide) ?_
                  refine z_icmp_ne (tgt := 127) d_M_tourStep_120 (by decide) (fun _ => ?_) (fun c => absurd c c54)
                  refine z_iconst (n := 1) d_M_tourStep_127 (by decide) ?_
                  obtain ⟨c56, h⟩ := h
                  refine z_iadd d_M_tourStep_128 c56 ?_
                  refine z_puti (c := 0) (kI := 21) d_M_tourStep_129 fd_M_counted fl_M_228 pf_M_counted rfl rfl rfl rfl (ks_M_0 hx) (kl_M_0 hx) ?_
                  refine z_aload_n (i := 0) (c := 0) 4 d_M_tourStep_132 rfl rfl rfl ?_
                  refine z_getr (c := 0) (kI := 0) (r2 := 1) d_M_tourStep_133 fd_M_at fl_M_7 rfl rfl rfl (ks_M_0 hx) (kl_M_0 hx) (kr_M_0_0 hx) ?_
                  refine z_iload_n (i := 3) 1 d_M_tourStep_136 rfl rfl ?_
                  refine z_iload_n (i := 1) 3 d_M_tourStep_137 rfl rfl ?_
                  obtain ⟨c57, h⟩ := h
                  refine z_iast (c := 1) (m := 3296) d_M_tourStep_138 rfl (ks_M_1 hx) (kl_M_1 hx) rfl (by decide) c57 ?_
                  refine z_iconst (n := 1) d_M_tourStep_139 (by decide) ?_
                  refine z_istore (ls' := [(5, (0, 1)), (4, (0, 0)), (3, (0, 2686 + (6 * (g0 1 2446)))), (2, (0, g0 1 2446)), (1, (0, r0)), (0, (2, 0))]) d_M_tourStep_140 rfl rfl ?_
                  refine z_sub (ls' := [(0, (2, 0)), (1, (0, r0)), (2, (0, g0 1 2446)), (3, (0, 2686 + (6 * (g0 1 2446)))), (4, (0, 0)), (5, (0, 1))]) [5, 4, 3, 2, 1, 0] rfl ?_
                  exact h
                · have h := h.1 c55
                  refine z_aload_n (i := 0) (c := 0) 4 d_M_tourStep_85 rfl rfl rfl ?_
                  refine z_bipush (n := 6) d_M_tourStep_86 (by decide) (by decide) ?_
                  refine z_cV (c := 0) (as := [(0, 6)]) (d' := 1) (st := []) d_M_tourStep_88 mi_M_fails ml_M_166 mv_M_fails se_M_fails rfl rfl rfl rfl (ks_M_0 hx) rfl rfl (kl_M_0 hx) rfl rfl (z_Omono h (fun r21 g21 _ h hro => ?_))
                  have h := h (z_b01 hro)
                  have hzr21 := z_b01 hro
                  show z_U X 12 m_M_tourStep 91 [(4, (0, 0)), (3, (0, 2686 + (6 * (g0 1 2446)))), (2, (0, g0 1 2446)), (1, (0, r0)), (0, (2, 0))] [(0, r21)] N σ g21 Q
                  exact z_zret d_M_tourStep_91 rfl (by decide) (by decide) hzr21 ⟨rfl, rfl, h⟩
              · have h := h.1 c54
                refine z_aload_n (i := 0) (c := 0) 4 d_M_tourStep_57 rfl rfl rfl ?_
                refine z_geti (c := 0) (kI := 20) d_M_tourStep_58 fd_M_depth fl_M_225 (Or.inl rfl) rfl rfl (ks_M_0 hx) (kl_M_0 hx) ?_
                refine z_if_ne (tgt := 70) d_M_tourStep_61 (by decide) (fun c58 => ?_) (fun c58 => ?_)
                · have h := h.2 c58
                  refine z_iload_n (i := 1) 3 d_M_tourStep_70 rfl rfl ?_
                  refine z_bipush (n := 14) d_M_tourStep_71 (by decide) (by decide) ?_
                  refine z_icmp_eq (tgt := 92) d_M_tourStep_73 (by decide) (fun _ => ?_) (fun c => absurd c54 c)
                  refine z_iload 0 d_M_tourStep_92 rfl ?_
                  refine z_if_eq (tgt := 112) d_M_tourStep_94 (by decide) (fun _ => ?_) (fun c => absurd (by decide) c)
                  refine z_aload_n (i := 0) (c := 0) 4 d_M_tourStep_112 rfl rfl rfl ?_
                  refine z_dup d_M_tourStep_113 rfl ?_
                  refine z_geti (c := 0) (kI := 21) d_M_tourStep_114 fd_M_counted fl_M_228 (Or.inl rfl) rfl rfl (ks_M_0 hx) (kl_M_0 hx) ?_
                  refine z_iload_n (i := 1) 3 d_M_tourStep_117 rfl rfl ?_
                  refine z_bipush (n := 14) d_M_tourStep_118 (by decide) (by decide) ?_
                  refine z_icmp_ne (tgt := 127) d_M_tourStep_120 (by decide) (fun c => absurd c54 c) (fun _ => ?_)
                  refine z_iconst (n := 0) d_M_tourStep_123 (by decide) ?_
                  refine z_goto (tgt := 128) d_M_tourStep_124 (by decide) ?_
                  obtain ⟨c59, h⟩ := h
                  refine z_iadd d_M_tourStep_128 c59 ?_
                  refine z_puti (c := 0) (kI := 21) d_M_tourStep_129 fd_M_counted fl_M_228 pf_M_counted rfl rfl rfl rfl (ks_M_0 hx) (kl_M_0 hx) ?_
                  refine z_aload_n (i := 0) (c := 0) 4 d_M_tourStep_132 rfl rfl rfl ?_
                  refine z_getr (c := 0) (kI := 0) (r2 := 1) d_M_tourStep_133 fd_M_at fl_M_7 rfl rfl rfl (ks_M_0 hx) (kl_M_0 hx) (kr_M_0_0 hx) ?_
                  refine z_iload_n (i := 3) 1 d_M_tourStep_136 rfl rfl ?_
                  refine z_iload_n (i := 1) 3 d_M_tourStep_137 rfl rfl ?_
                  obtain ⟨c60, h⟩ := h
                  refine z_iast (c := 1) (m := 3296) d_M_tourStep_138 rfl (ks_M_1 hx) (kl_M_1 hx) rfl (by decide) c60 ?_
                  refine z_iconst (n := 1) d_M_tourStep_139 (by decide) ?_
                  refine z_istore (ls' := [(5, (0, 1)), (4, (0, 0)), (3, (0, 2686 + (6 * (g0 1 2446)))), (2, (0, g0 1 2446)), (1, (0, r0)), (0, (2, 0))]) d_M_tourStep_140 rfl rfl ?_
                  refine z_sub (ls' := [(0, (2, 0)), (1, (0, r0)), (2, (0, g0 1 2446)), (3, (0, 2686 + (6 * (g0 1 2446)))), (4, (0, 0)), (5, (0, 1))]) [5, 4, 3, 2, 1, 0] rfl ?_
                  exact h
                · have h := h.1 c58
                  refine z_aload_n (i := 0) (c := 0) 4 d_M_tourStep_64 rfl rfl rfl ?_
                  refine z_iconst (n := 2) d_M_tourStep_65 (by decide) ?_
                  refine z_cV (c := 0) (as := [(0, 2)]) (d' := 1) (st := []) d_M_tourStep_66 mi_M_fails ml_M_166 mv_M_fails se_M_fails rfl rfl rfl rfl (ks_M_0 hx) rfl rfl (kl_M_0 hx) rfl rfl (z_Omono h (fun r22 g22 _ h hro => ?_))
                  have h := h (z_b01 hro)
                  have hzr22 := z_b01 hro
                  show z_U X 12 m_M_tourStep 69 [(4, (0, 0)), (3, (0, 2686 + (6 * (g0 1 2446)))), (2, (0, g0 1 2446)), (1, (0, r0)), (0, (2, 0))] [(0, r22)] N σ g22 Q
                  exact z_zret d_M_tourStep_69 rfl (by decide) (by decide) hzr22 ⟨rfl, rfl, h⟩
    · have h := h.1 c35
      refine z_iconst (n := 1) d_M_tourStep_37 (by decide) ?_
      refine z_goto (tgt := 42) d_M_tourStep_38 (by decide) ?_
      refine z_istore (ls' := [(4, (0, 1)), (3, (0, 2686 + (6 * (g0 1 2446)))), (2, (0, g0 1 2446)), (1, (0, r0)), (0, (2, 0))]) d_M_tourStep_42 rfl rfl ?_
      refine z_iload_n (i := 1) 3 d_M_tourStep_44 rfl rfl ?_
      refine z_cS (as := [(0, r0)]) (d' := 1) (st := []) d_M_tourStep_45 mi_M_isOrder ml_M_222 ms_M_isOrder rfl rfl rfl rfl rfl (b_M_isOrder_0  ?_)
      refine ⟨fun c61 => ?_, fun c61 => ?_⟩
      · have h := h.1 c61
        intro _
        show z_U X 12 m_M_tourStep 48 [(4, (0, 1)), (3, (0, 2686 + (6 * (g0 1 2446)))), (2, (0, g0 1 2446)), (1, (0, r0)), (0, (2, 0))] [(0, 1)] N σ g0 Q
        refine z_if_eq (tgt := 64) d_M_tourStep_48 (by decide) (fun c => absurd c (by decide)) (fun _ => ?_)
        refine z_iload_n (i := 1) 3 d_M_tourStep_51 rfl rfl ?_
        refine z_bipush (n := 14) d_M_tourStep_52 (by decide) (by decide) ?_
        refine z_icmp_ne (tgt := 70) d_M_tourStep_54 (by decide) (fun c62 => ?_) (fun c62 => ?_)
        · have h := h.2 c62
          refine z_iload_n (i := 1) 3 d_M_tourStep_70 rfl rfl ?_
          refine z_bipush (n := 14) d_M_tourStep_71 (by decide) (by decide) ?_
          refine z_icmp_eq (tgt := 92) d_M_tourStep_73 (by decide) (fun c => absurd c c62) (fun _ => ?_)
          refine z_aload_n (i := 0) (c := 0) 4 d_M_tourStep_76 rfl rfl rfl ?_
          refine z_geti (c := 0) (kI := 21) d_M_tourStep_77 fd_M_counted fl_M_228 (Or.inl rfl) rfl rfl (ks_M_0 hx) (kl_M_0 hx) ?_
          refine z_bipush (n := 30) d_M_tourStep_80 (by decide) (by decide) ?_
          refine z_icmp_ne (tgt := 92) d_M_tourStep_82 (by decide) (fun c63 => ?_) (fun c63 => ?_)
          · have h := h.2 c63
            refine z_iload 0 d_M_tourStep_92 rfl ?_
            refine z_if_eq (tgt := 112) d_M_tourStep_94 (by decide) (fun c => absurd c (by decide)) (fun _ => ?_)
            refine z_aload_n (i := 0) (c := 0) 4 d_M_tourStep_97 rfl rfl rfl ?_
            refine z_geti (c := 0) (kI := 20) d_M_tourStep_98 fd_M_depth fl_M_225 (Or.inl rfl) rfl rfl (ks_M_0 hx) (kl_M_0 hx) ?_
            refine z_iconst (n := 3) d_M_tourStep_101 (by decide) ?_
            refine z_icmp_ne (tgt := 112) d_M_tourStep_102 (by decide) (fun c64 => ?_) (fun c64 => ?_)
            · have h := h.2 c64
              refine z_aload_n (i := 0) (c := 0) 4 d_M_tourStep_112 rfl rfl rfl ?_
              refine z_dup d_M_tourStep_113 rfl ?_
              refine z_geti (c := 0) (kI := 21) d_M_tourStep_114 fd_M_counted fl_M_228 (Or.inl rfl) rfl rfl (ks_M_0 hx) (kl_M_0 hx) ?_
              refine z_iload_n (i := 1) 3 d_M_tourStep_117 rfl rfl ?_
              refine z_bipush (n := 14) d_M_tourStep_118 (by decide) (by decide) ?_
              refine z_icmp_ne (tgt := 127) d_M_tourStep_120 (by decide) (fun _ => ?_) (fun c => absurd c c62)
              refine z_iconst (n := 1) d_M_tourStep_127 (by decide) ?_
              obtain ⟨c65, h⟩ := h
              refine z_iadd d_M_tourStep_128 c65 ?_
              refine z_puti (c := 0) (kI := 21) d_M_tourStep_129 fd_M_counted fl_M_228 pf_M_counted rfl rfl rfl rfl (ks_M_0 hx) (kl_M_0 hx) ?_
              refine z_aload_n (i := 0) (c := 0) 4 d_M_tourStep_132 rfl rfl rfl ?_
              refine z_getr (c := 0) (kI := 0) (r2 := 1) d_M_tourStep_133 fd_M_at fl_M_7 rfl rfl rfl (ks_M_0 hx) (kl_M_0 hx) (kr_M_0_0 hx) ?_
              refine z_iload_n (i := 3) 1 d_M_tourStep_136 rfl rfl ?_
              refine z_iload_n (i := 1) 3 d_M_tourStep_137 rfl rfl ?_
              obtain ⟨c66, h⟩ := h
              refine z_iast (c := 1) (m := 3296) d_M_tourStep_138 rfl (ks_M_1 hx) (kl_M_1 hx) rfl (by decide) c66 ?_
              refine z_iconst (n := 1) d_M_tourStep_139 (by decide) ?_
              refine z_istore (ls' := [(5, (0, 1)), (4, (0, 1)), (3, (0, 2686 + (6 * (g0 1 2446)))), (2, (0, g0 1 2446)), (1, (0, r0)), (0, (2, 0))]) d_M_tourStep_140 rfl rfl ?_
              refine z_sub (ls' := [(0, (2, 0)), (1, (0, r0)), (2, (0, g0 1 2446)), (3, (0, 2686 + (6 * (g0 1 2446)))), (4, (0, 1)), (5, (0, 1))]) [5, 4, 3, 2, 1, 0] rfl ?_
              exact h
            · have h := h.1 c64
              refine z_aload_n (i := 0) (c := 0) 4 d_M_tourStep_105 rfl rfl rfl ?_
              refine z_bipush (n := 7) d_M_tourStep_106 (by decide) (by decide) ?_
              refine z_cV (c := 0) (as := [(0, 7)]) (d' := 1) (st := []) d_M_tourStep_108 mi_M_fails ml_M_166 mv_M_fails se_M_fails rfl rfl rfl rfl (ks_M_0 hx) rfl rfl (kl_M_0 hx) rfl rfl (z_Omono h (fun r23 g23 _ h hro => ?_))
              have h := h (z_b01 hro)
              have hzr23 := z_b01 hro
              show z_U X 12 m_M_tourStep 111 [(4, (0, 1)), (3, (0, 2686 + (6 * (g0 1 2446)))), (2, (0, g0 1 2446)), (1, (0, r0)), (0, (2, 0))] [(0, r23)] N σ g23 Q
              exact z_zret d_M_tourStep_111 rfl (by decide) (by decide) hzr23 ⟨rfl, rfl, h⟩
          · have h := h.1 c63
            refine z_aload_n (i := 0) (c := 0) 4 d_M_tourStep_85 rfl rfl rfl ?_
            refine z_bipush (n := 6) d_M_tourStep_86 (by decide) (by decide) ?_
            refine z_cV (c := 0) (as := [(0, 6)]) (d' := 1) (st := []) d_M_tourStep_88 mi_M_fails ml_M_166 mv_M_fails se_M_fails rfl rfl rfl rfl (ks_M_0 hx) rfl rfl (kl_M_0 hx) rfl rfl (z_Omono h (fun r24 g24 _ h hro => ?_))
            have h := h (z_b01 hro)
            have hzr24 := z_b01 hro
            show z_U X 12 m_M_tourStep 91 [(4, (0, 1)), (3, (0, 2686 + (6 * (g0 1 2446)))), (2, (0, g0 1 2446)), (1, (0, r0)), (0, (2, 0))] [(0, r24)] N σ g24 Q
            exact z_zret d_M_tourStep_91 rfl (by decide) (by decide) hzr24 ⟨rfl, rfl, h⟩
        · have h := h.1 c62
          refine z_aload_n (i := 0) (c := 0) 4 d_M_tourStep_57 rfl rfl rfl ?_
          refine z_geti (c := 0) (kI := 20) d_M_tourStep_58 fd_M_depth fl_M_225 (Or.inl rfl) rfl rfl (ks_M_0 hx) (kl_M_0 hx) ?_
          refine z_if_ne (tgt := 70) d_M_tourStep_61 (by decide) (fun c67 => ?_) (fun c67 => ?_)
          · have h := h.2 c67
            refine z_iload_n (i := 1) 3 d_M_tourStep_70 rfl rfl ?_
            refine z_bipush (n := 14) d_M_tourStep_71 (by decide) (by decide) ?_
            refine z_icmp_eq (tgt := 92) d_M_tourStep_73 (by decide) (fun _ => ?_) (fun c => absurd c62 c)
            refine z_iload 0 d_M_tourStep_92 rfl ?_
            refine z_if_eq (tgt := 112) d_M_tourStep_94 (by decide) (fun c => absurd c (by decide)) (fun _ => ?_)
            refine z_aload_n (i := 0) (c := 0) 4 d_M_tourStep_97 rfl rfl rfl ?_
            refine z_geti (c := 0) (kI := 20) d_M_tourStep_98 fd_M_depth fl_M_225 (Or.inl rfl) rfl rfl (ks_M_0 hx) (kl_M_0 hx) ?_
            refine z_iconst (n := 3) d_M_tourStep_101 (by decide) ?_
            refine z_icmp_ne (tgt := 112) d_M_tourStep_102 (by decide) (fun c68 => ?_) (fun c68 => ?_)
            · have h := h.2 c68
              refine z_aload_n (i := 0) (c := 0) 4 d_M_tourStep_112 rfl rfl rfl ?_
              refine z_dup d_M_tourStep_113 rfl ?_
              refine z_geti (c := 0) (kI := 21) d_M_tourStep_114 fd_M_counted fl_M_228 (Or.inl rfl) rfl rfl (ks_M_0 hx) (kl_M_0 hx) ?_
              refine z_iload_n (i := 1) 3 d_M_tourStep_117 rfl rfl ?_
              refine z_bipush (n := 14) d_M_tourStep_118 (by decide) (by decide) ?_
              refine z_icmp_ne (tgt := 127) d_M_tourStep_120 (by decide) (fun c => absurd c62 c) (fun _ => ?_)
              refine z_iconst (n := 0) d_M_tourStep_123 (by decide) ?_
              refine z_goto (tgt := 128) d_M_tourStep_124 (by decide) ?_
              obtain ⟨c69, h⟩ := h
              refine z_iadd d_M_tourStep_128 c69 ?_
              refine z_puti (c := 0) (kI := 21) d_M_tourStep_129 fd_M_counted fl_M_228 pf_M_counted rfl rfl rfl rfl (ks_M_0 hx) (kl_M_0 hx) ?_
              refine z_aload_n (i := 0) (c := 0) 4 d_M_tourStep_132 rfl rfl rfl ?_
              refine z_getr (c := 0) (kI := 0) (r2 := 1) d_M_tourStep_133 fd_M_at fl_M_7 rfl rfl rfl (ks_M_0 hx) (kl_M_0 hx) (kr_M_0_0 hx) ?_
              refine z_iload_n (i := 3) 1 d_M_tourStep_136 rfl rfl ?_
              refine z_iload_n (i := 1) 3 d_M_tourStep_137 rfl rfl ?_
              obtain ⟨c70, h⟩ := h
              refine z_iast (c := 1) (m := 3296) d_M_tourStep_138 rfl (ks_M_1 hx) (kl_M_1 hx) rfl (by decide) c70 ?_
              refine z_iconst (n := 1) d_M_tourStep_139 (by decide) ?_
              refine z_istore (ls' := [(5, (0, 1)), (4, (0, 1)), (3, (0, 2686 + (6 * (g0 1 2446)))), (2, (0, g0 1 2446)), (1, (0, r0)), (0, (2, 0))]) d_M_tourStep_140 rfl rfl ?_
              refine z_sub (ls' := [(0, (2, 0)), (1, (0, r0)), (2, (0, g0 1 2446)), (3, (0, 2686 + (6 * (g0 1 2446)))), (4, (0, 1)), (5, (0, 1))]) [5, 4, 3, 2, 1, 0] rfl ?_
              exact h
            · have h := h.1 c68
              refine z_aload_n (i := 0) (c := 0) 4 d_M_tourStep_105 rfl rfl rfl ?_
              refine z_bipush (n := 7) d_M_tourStep_106 (by decide) (by decide) ?_
              refine z_cV (c := 0) (as := [(0, 7)]) (d' := 1) (st := []) d_M_tourStep_108 mi_M_fails ml_M_166 mv_M_fails se_M_fails rfl rfl rfl rfl (ks_M_0 hx) rfl rfl (kl_M_0 hx) rfl rfl (z_Omono h (fun r25 g25 _ h hro => ?_))
              have h := h (z_b01 hro)
              have hzr25 := z_b01 hro
              show z_U X 12 m_M_tourStep 111 [(4, (0, 1)), (3, (0, 2686 + (6 * (g0 1 2446)))), (2, (0, g0 1 2446)), (1, (0, r0)), (0, (2, 0))] [(0, r25)] N σ g25 Q
              exact z_zret d_M_tourStep_111 rfl (by decide) (by decide) hzr25 ⟨rfl, rfl, h⟩
          · have h := h.1 c67
            refine z_aload_n (i := 0) (c := 0) 4 d_M_tourStep_64 rfl rfl rfl ?_
            refine z_iconst (n := 2) d_M_tourStep_65 (by decide) ?_
            refine z_cV (c := 0) (as := [(0, 2)]) (d' := 1) (st := []) d_M_tourStep_66 mi_M_fails ml_M_166 mv_M_fails se_M_fails rfl rfl rfl rfl (ks_M_0 hx) rfl rfl (kl_M_0 hx) rfl rfl (z_Omono h (fun r26 g26 _ h hro => ?_))
            have h := h (z_b01 hro)
            have hzr26 := z_b01 hro
            show z_U X 12 m_M_tourStep 69 [(4, (0, 1)), (3, (0, 2686 + (6 * (g0 1 2446)))), (2, (0, g0 1 2446)), (1, (0, r0)), (0, (2, 0))] [(0, r26)] N σ g26 Q
            exact z_zret d_M_tourStep_69 rfl (by decide) (by decide) hzr26 ⟨rfl, rfl, h⟩
      · have h := h.2 c61
        refine ⟨fun c71 => ?_, fun c71 => ?_⟩
        · have h := h.1 c71
          intro _
          show z_U X 12 m_M_tourStep 48 [(4, (0, 1)), (3, (0, 2686 + (6 * (g0 1 2446)))), (2, (0, g0 1 2446)), (1, (0, r0)), (0, (2, 0))] [(0, 1)] N σ g0 Q
          refine z_if_eq (tgt := 64) d_M_tourStep_48 (by decide) (fun c => absurd c (by decide)) (fun _ => ?_)
          refine z_iload_n (i := 1) 3 d_M_tourStep_51 rfl rfl ?_
          refine z_bipush (n := 14) d_M_tourStep_52 (by decide) (by decide) ?_
          refine z_icmp_ne (tgt := 70) d_M_tourStep_54 (by decide) (fun c72 => ?_) (fun c72 => ?_)
          · have h := h.2 c72
            refine z_iload_n (i := 1) 3 d_M_tourStep_70 rfl rfl ?_
            refine z_bipush (n := 14) d_M_tourStep_71 (by decide) (by decide) ?_
            refine z_icmp_eq (tgt := 92) d_M_tourStep_73 (by decide) (fun c => absurd c c72) (fun _ => ?_)
            refine z_aload_n (i := 0) (c := 0) 4 d_M_tourStep_76 rfl rfl rfl ?_
            refine z_geti (c := 0) (kI := 21) d_M_tourStep_77 fd_M_counted fl_M_228 (Or.inl rfl) rfl rfl (ks_M_0 hx) (kl_M_0 hx) ?_
            refine z_bipush (n := 30) d_M_tourStep_80 (by decide) (by decide) ?_
            refine z_icmp_ne (tgt := 92) d_M_tourStep_82 (by decide) (fun c73 => ?_) (fun c73 => ?_)
            · have h := h.2 c73
              refine z_iload 0 d_M_tourStep_92 rfl ?_
              refine z_if_eq (tgt := 112) d_M_tourStep_94 (by decide) (fun c => absurd c (by decide)) (fun _ => ?_)
              refine z_aload_n (i := 0) (c := 0) 4 d_M_tourStep_97 rfl rfl rfl ?_
              refine z_geti (c := 0) (kI := 20) d_M_tourStep_98 fd_M_depth fl_M_225 (Or.inl rfl) rfl rfl (ks_M_0 hx) (kl_M_0 hx) ?_
              refine z_iconst (n := 3) d_M_tourStep_101 (by decide) ?_
              refine z_icmp_ne (tgt := 112) d_M_tourStep_102 (by decide) (fun c74 => ?_) (fun c74 => ?_)
              · have h := h.2 c74
                refine z_aload_n (i := 0) (c := 0) 4 d_M_tourStep_112 rfl rfl rfl ?_
                refine z_dup d_M_tourStep_113 rfl ?_
                refine z_geti (c := 0) (kI := 21) d_M_tourStep_114 fd_M_counted fl_M_228 (Or.inl rfl) rfl rfl (ks_M_0 hx) (kl_M_0 hx) ?_
                refine z_iload_n (i := 1) 3 d_M_tourStep_117 rfl rfl ?_
                refine z_bipush (n := 14) d_M_tourStep_118 (by decide) (by decide) ?_
                refine z_icmp_ne (tgt := 127) d_M_tourStep_120 (by decide) (fun _ => ?_) (fun c => absurd c c72)
                refine z_iconst (n := 1) d_M_tourStep_127 (by decide) ?_
                obtain ⟨c75, h⟩ := h
                refine z_iadd d_M_tourStep_128 c75 ?_
                refine z_puti (c := 0) (kI := 21) d_M_tourStep_129 fd_M_counted fl_M_228 pf_M_counted rfl rfl rfl rfl (ks_M_0 hx) (kl_M_0 hx) ?_
                refine z_aload_n (i := 0) (c := 0) 4 d_M_tourStep_132 rfl rfl rfl ?_
                refine z_getr (c := 0) (kI := 0) (r2 := 1) d_M_tourStep_133 fd_M_at fl_M_7 rfl rfl rfl (ks_M_0 hx) (kl_M_0 hx) (kr_M_0_0 hx) ?_
                refine z_iload_n (i := 3) 1 d_M_tourStep_136 rfl rfl ?_
                refine z_iload_n (i := 1) 3 d_M_tourStep_137 rfl rfl ?_
                obtain ⟨c76, h⟩ := h
                refine z_iast (c := 1) (m := 3296) d_M_tourStep_138 rfl (ks_M_1 hx) (kl_M_1 hx) rfl (by decide) c76 ?_
                refine z_iconst (n := 1) d_M_tourStep_139 (by decide) ?_
                refine z_istore (ls' := [(5, (0, 1)), (4, (0, 1)), (3, (0, 2686 + (6 * (g0 1 2446)))), (2, (0, g0 1 2446)), (1, (0, r0)), (0, (2, 0))]) d_M_tourStep_140 rfl rfl ?_
                refine z_sub (ls' := [(0, (2, 0)), (1, (0, r0)), (2, (0, g0 1 2446)), (3, (0, 2686 + (6 * (g0 1 2446)))), (4, (0, 1)), (5, (0, 1))]) [5, 4, 3, 2, 1, 0] rfl ?_
                exact h
              · have h := h.1 c74
                refine z_aload_n (i := 0) (c := 0) 4 d_M_tourStep_105 rfl rfl rfl ?_
                refine z_bipush (n := 7) d_M_tourStep_106 (by decide) (by decide) ?_
                refine z_cV (c := 0) (as := [(0, 7)]) (d' := 1) (st := []) d_M_tourStep_108 mi_M_fails ml_M_166 mv_M_fails se_M_fails rfl rfl rfl rfl (ks_M_0 hx) rfl rfl (kl_M_0 hx) rfl rfl (z_Omono h (fun r27 g27 _ h hro => ?_))
                have h := h (z_b01 hro)
                have hzr27 := z_b01 hro
                show z_U X 12 m_M_tourStep 111 [(4, (0, 1)), (3, (0, 2686 + (6 * (g0 1 2446)))), (2, (0, g0 1 2446)), (1, (0, r0)), (0, (2, 0))] [(0, r27)] N σ g27 Q
                exact z_zret d_M_tourStep_111 rfl (by decide) (by decide) hzr27 ⟨rfl, rfl, h⟩
            · have h := h.1 c73
              refine z_aload_n (i := 0) (c := 0) 4 d_M_tourStep_85 rfl rfl rfl ?_
              refine z_bipush (n := 6) d_M_tourStep_86 (by decide) (by decide) ?_
              refine z_cV (c := 0) (as := [(0, 6)]) (d' := 1) (st := []) d_M_tourStep_88 mi_M_fails ml_M_166 mv_M_fails se_M_fails rfl rfl rfl rfl (ks_M_0 hx) rfl rfl (kl_M_0 hx) rfl rfl (z_Omono h (fun r28 g28 _ h hro => ?_))
              have h := h (z_b01 hro)
              have hzr28 := z_b01 hro
              show z_U X 12 m_M_tourStep 91 [(4, (0, 1)), (3, (0, 2686 + (6 * (g0 1 2446)))), (2, (0, g0 1 2446)), (1, (0, r0)), (0, (2, 0))] [(0, r28)] N σ g28 Q
              exact z_zret d_M_tourStep_91 rfl (by decide) (by decide) hzr28 ⟨rfl, rfl, h⟩
          · have h := h.1 c72
            refine z_aload_n (i := 0) (c := 0) 4 d_M_tourStep_57 rfl rfl rfl ?_
            refine z_geti (c := 0) (kI := 20) d_M_tourStep_58 fd_M_depth fl_M_225 (Or.inl rfl) rfl rfl (ks_M_0 hx) (kl_M_0 hx) ?_
            refine z_if_ne (tgt := 70) d_M_tourStep_61 (by decide) (fun c77 => ?_) (fun c77 => ?_)
            · have h := h.2 c77
              refine z_iload_n (i := 1) 3 d_M_tourStep_70 rfl rfl ?_
              refine z_bipush (n := 14) d_M_tourStep_71 (by decide) (by decide) ?_
              refine z_icmp_eq (tgt := 92) d_M_tourStep_73 (by decide) (fun _ => ?_) (fun c => absurd c72 c)
              refine z_iload 0 d_M_tourStep_92 rfl ?_
              refine z_if_eq (tgt := 112) d_M_tourStep_94 (by decide) (fun c => absurd c (by decide)) (fun _ => ?_)
              refine z_aload_n (i := 0) (c := 0) 4 d_M_tourStep_97 rfl rfl rfl ?_
              refine z_geti (c := 0) (kI := 20) d_M_tourStep_98 fd_M_depth fl_M_225 (Or.inl rfl) rfl rfl (ks_M_0 hx) (kl_M_0 hx) ?_
              refine z_iconst (n := 3) d_M_tourStep_101 (by decide) ?_
              refine z_icmp_ne (tgt := 112) d_M_tourStep_102 (by decide) (fun c78 => ?_) (fun c78 => ?_)
              · have h := h.2 c78
                refine z_aload_n (i := 0) (c := 0) 4 d_M_tourStep_112 rfl rfl rfl ?_
                refine z_dup d_M_tourStep_113 rfl ?_
                refine z_geti (c := 0) (kI := 21) d_M_tourStep_114 fd_M_counted fl_M_228 (Or.inl rfl) rfl rfl (ks_M_0 hx) (kl_M_0 hx) ?_
                refine z_iload_n (i := 1) 3 d_M_tourStep_117 rfl rfl ?_
                refine z_bipush (n := 14) d_M_tourStep_118 (by decide) (by decide) ?_
                refine z_icmp_ne (tgt := 127) d_M_tourStep_120 (by decide) (fun c => absurd c72 c) (fun _ => ?_)
                refine z_iconst (n := 0) d_M_tourStep_123 (by decide) ?_
                refine z_goto (tgt := 128) d_M_tourStep_124 (by decide) ?_
                obtain ⟨c79, h⟩ := h
                refine z_iadd d_M_tourStep_128 c79 ?_
                refine z_puti (c := 0) (kI := 21) d_M_tourStep_129 fd_M_counted fl_M_228 pf_M_counted rfl rfl rfl rfl (ks_M_0 hx) (kl_M_0 hx) ?_
                refine z_aload_n (i := 0) (c := 0) 4 d_M_tourStep_132 rfl rfl rfl ?_
                refine z_getr (c := 0) (kI := 0) (r2 := 1) d_M_tourStep_133 fd_M_at fl_M_7 rfl rfl rfl (ks_M_0 hx) (kl_M_0 hx) (kr_M_0_0 hx) ?_
                refine z_iload_n (i := 3) 1 d_M_tourStep_136 rfl rfl ?_
                refine z_iload_n (i := 1) 3 d_M_tourStep_137 rfl rfl ?_
                obtain ⟨c80, h⟩ := h
                refine z_iast (c := 1) (m := 3296) d_M_tourStep_138 rfl (ks_M_1 hx) (kl_M_1 hx) rfl (by decide) c80 ?_
                refine z_iconst (n := 1) d_M_tourStep_139 (by decide) ?_
                refine z_istore (ls' := [(5, (0, 1)), (4, (0, 1)), (3, (0, 2686 + (6 * (g0 1 2446)))), (2, (0, g0 1 2446)), (1, (0, r0)), (0, (2, 0))]) d_M_tourStep_140 rfl rfl ?_
                refine z_sub (ls' := [(0, (2, 0)), (1, (0, r0)), (2, (0, g0 1 2446)), (3, (0, 2686 + (6 * (g0 1 2446)))), (4, (0, 1)), (5, (0, 1))]) [5, 4, 3, 2, 1, 0] rfl ?_
                exact h
              · have h := h.1 c78
                refine z_aload_n (i := 0) (c := 0) 4 d_M_tourStep_105 rfl rfl rfl ?_
                refine z_bipush (n := 7) d_M_tourStep_106 (by decide) (by decide) ?_
                refine z_cV (c := 0) (as := [(0, 7)]) (d' := 1) (st := []) d_M_tourStep_108 mi_M_fails ml_M_166 mv_M_fails se_M_fails rfl rfl rfl rfl (ks_M_0 hx) rfl rfl (kl_M_0 hx) rfl rfl (z_Omono h (fun r29 g29 _ h hro => ?_))
                have h := h (z_b01 hro)
                have hzr29 := z_b01 hro
                show z_U X 12 m_M_tourStep 111 [(4, (0, 1)), (3, (0, 2686 + (6 * (g0 1 2446)))), (2, (0, g0 1 2446)), (1, (0, r0)), (0, (2, 0))] [(0, r29)] N σ g29 Q
                exact z_zret d_M_tourStep_111 rfl (by decide) (by decide) hzr29 ⟨rfl, rfl, h⟩
            · have h := h.1 c77
              refine z_aload_n (i := 0) (c := 0) 4 d_M_tourStep_64 rfl rfl rfl ?_
              refine z_iconst (n := 2) d_M_tourStep_65 (by decide) ?_
              refine z_cV (c := 0) (as := [(0, 2)]) (d' := 1) (st := []) d_M_tourStep_66 mi_M_fails ml_M_166 mv_M_fails se_M_fails rfl rfl rfl rfl (ks_M_0 hx) rfl rfl (kl_M_0 hx) rfl rfl (z_Omono h (fun r30 g30 _ h hro => ?_))
              have h := h (z_b01 hro)
              have hzr30 := z_b01 hro
              show z_U X 12 m_M_tourStep 69 [(4, (0, 1)), (3, (0, 2686 + (6 * (g0 1 2446)))), (2, (0, g0 1 2446)), (1, (0, r0)), (0, (2, 0))] [(0, r30)] N σ g30 Q
              exact z_zret d_M_tourStep_69 rfl (by decide) (by decide) hzr30 ⟨rfl, rfl, h⟩
        · have h := h.2 c71
          refine ⟨fun c81 => ?_, fun c81 => ?_⟩
          · have h := h.1 c81
            intro _
            show z_U X 12 m_M_tourStep 48 [(4, (0, 1)), (3, (0, 2686 + (6 * (g0 1 2446)))), (2, (0, g0 1 2446)), (1, (0, r0)), (0, (2, 0))] [(0, 0)] N σ g0 Q
            refine z_if_eq (tgt := 64) d_M_tourStep_48 (by decide) (fun _ => ?_) (fun c => absurd (by decide) c)
            refine z_aload_n (i := 0) (c := 0) 4 d_M_tourStep_64 rfl rfl rfl ?_
            refine z_iconst (n := 2) d_M_tourStep_65 (by decide) ?_
            refine z_cV (c := 0) (as := [(0, 2)]) (d' := 1) (st := []) d_M_tourStep_66 mi_M_fails ml_M_166 mv_M_fails se_M_fails rfl rfl rfl rfl (ks_M_0 hx) rfl rfl (kl_M_0 hx) rfl rfl (z_Omono h (fun r31 g31 _ h hro => ?_))
            have h := h (z_b01 hro)
            have hzr31 := z_b01 hro
            show z_U X 12 m_M_tourStep 69 [(4, (0, 1)), (3, (0, 2686 + (6 * (g0 1 2446)))), (2, (0, g0 1 2446)), (1, (0, r0)), (0, (2, 0))] [(0, r31)] N σ g31 Q
            exact z_zret d_M_tourStep_69 rfl (by decide) (by decide) hzr31 ⟨rfl, rfl, h⟩
          · have h := h.2 c81
            refine ⟨fun c82 => ?_, fun c82 => ?_⟩
            · have h := h.1 c82
              intro _
              show z_U X 12 m_M_tourStep 48 [(4, (0, 1)), (3, (0, 2686 + (6 * (g0 1 2446)))), (2, (0, g0 1 2446)), (1, (0, r0)), (0, (2, 0))] [(0, 0)] N σ g0 Q
              refine z_if_eq (tgt := 64) d_M_tourStep_48 (by decide) (fun _ => ?_) (fun c => absurd (by decide) c)
              refine z_aload_n (i := 0) (c := 0) 4 d_M_tourStep_64 rfl rfl rfl ?_
              refine z_iconst (n := 2) d_M_tourStep_65 (by decide) ?_
              refine z_cV (c := 0) (as := [(0, 2)]) (d' := 1) (st := []) d_M_tourStep_66 mi_M_fails ml_M_166 mv_M_fails se_M_fails rfl rfl rfl rfl (ks_M_0 hx) rfl rfl (kl_M_0 hx) rfl rfl (z_Omono h (fun r32 g32 _ h hro => ?_))
              have h := h (z_b01 hro)
              have hzr32 := z_b01 hro
              show z_U X 12 m_M_tourStep 69 [(4, (0, 1)), (3, (0, 2686 + (6 * (g0 1 2446)))), (2, (0, g0 1 2446)), (1, (0, r0)), (0, (2, 0))] [(0, r32)] N σ g32 Q
              exact z_zret d_M_tourStep_69 rfl (by decide) (by decide) hzr32 ⟨rfl, rfl, h⟩
            · have h := h.2 c82
              intro _
              show z_U X 12 m_M_tourStep 48 [(4, (0, 1)), (3, (0, 2686 + (6 * (g0 1 2446)))), (2, (0, g0 1 2446)), (1, (0, r0)), (0, (2, 0))] [(0, 1)] N σ g0 Q
              refine z_if_eq (tgt := 64) d_M_tourStep_48 (by decide) (fun c => absurd c (by decide)) (fun _ => ?_)
              refine z_iload_n (i := 1) 3 d_M_tourStep_51 rfl rfl ?_
              refine z_bipush (n := 14) d_M_tourStep_52 (by decide) (by decide) ?_
              refine z_icmp_ne (tgt := 70) d_M_tourStep_54 (by decide) (fun c83 => ?_) (fun c83 => ?_)
              · have h := h.2 c83
                refine z_iload_n (i := 1) 3 d_M_tourStep_70 rfl rfl ?_
                refine z_bipush (n := 14) d_M_tourStep_71 (by decide) (by decide) ?_
                refine z_icmp_eq (tgt := 92) d_M_tourStep_73 (by decide) (fun c => absurd c c83) (fun _ => ?_)
                refine z_aload_n (i := 0) (c := 0) 4 d_M_tourStep_76 rfl rfl rfl ?_
                refine z_geti (c := 0) (kI := 21) d_M_tourStep_77 fd_M_counted fl_M_228 (Or.inl rfl) rfl rfl (ks_M_0 hx) (kl_M_0 hx) ?_
                refine z_bipush (n := 30) d_M_tourStep_80 (by decide) (by decide) ?_
                refine z_icmp_ne (tgt := 92) d_M_tourStep_82 (by decide) (fun c84 => ?_) (fun c84 => ?_)
                · have h := h.2 c84
                  refine z_iload 0 d_M_tourStep_92 rfl ?_
                  refine z_if_eq (tgt := 112) d_M_tourStep_94 (by decide) (fun c => absurd c (by decide)) (fun _ => ?_)
                  refine z_aload_n (i := 0) (c := 0) 4 d_M_tourStep_97 rfl rfl rfl ?_
                  refine z_geti (c := 0) (kI := 20) d_M_tourStep_98 fd_M_depth fl_M_225 (Or.inl rfl) rfl rfl (ks_M_0 hx) (kl_M_0 hx) ?_
                  refine z_iconst (n := 3) d_M_tourStep_101 (by decide) ?_
                  refine z_icmp_ne (tgt := 112) d_M_tourStep_102 (by decide) (fun c85 => ?_) (fun c85 => ?_)
                  · have h := h.2 c85
                    refine z_aload_n (i := 0) (c := 0) 4 d_M_tourStep_112 rfl rfl rfl ?_
                    refine z_dup d_M_tourStep_113 rfl ?_
                    refine z_geti (c := 0) (kI := 21) d_M_tourStep_114 fd_M_counted fl_M_228 (Or.inl rfl) rfl rfl (ks_M_0 hx) (kl_M_0 hx) ?_
                    refine z_iload_n (i := 1) 3 d_M_tourStep_117 rfl rfl ?_
                    refine z_bipush (n := 14) d_M_tourStep_118 (by decide) (by decide) ?_
                    refine z_icmp_ne (tgt := 127) d_M_tourStep_120 (by decide) (fun _ => ?_) (fun c => absurd c c83)
                    refine z_iconst (n := 1) d_M_tourStep_127 (by decide) ?_
                    obtain ⟨c86, h⟩ := h
                    refine z_iadd d_M_tourStep_128 c86 ?_
                    refine z_puti (c := 0) (kI := 21) d_M_tourStep_129 fd_M_counted fl_M_228 pf_M_counted rfl rfl rfl rfl (ks_M_0 hx) (kl_M_0 hx) ?_
                    refine z_aload_n (i := 0) (c := 0) 4 d_M_tourStep_132 rfl rfl rfl ?_
                    refine z_getr (c := 0) (kI := 0) (r2 := 1) d_M_tourStep_133 fd_M_at fl_M_7 rfl rfl rfl (ks_M_0 hx) (kl_M_0 hx) (kr_M_0_0 hx) ?_
                    refine z_iload_n (i := 3) 1 d_M_tourStep_136 rfl rfl ?_
                    refine z_iload_n (i := 1) 3 d_M_tourStep_137 rfl rfl ?_
                    obtain ⟨c87, h⟩ := h
                    refine z_iast (c := 1) (m := 3296) d_M_tourStep_138 rfl (ks_M_1 hx) (kl_M_1 hx) rfl (by decide) c87 ?_
                    refine z_iconst (n := 1) d_M_tourStep_139 (by decide) ?_
                    refine z_istore (ls' := [(5, (0, 1)), (4, (0, 1)), (3, (0, 2686 + (6 * (g0 1 2446)))), (2, (0, g0 1 2446)), (1, (0, r0)), (0, (2, 0))]) d_M_tourStep_140 rfl rfl ?_
                    refine z_sub (ls' := [(0, (2, 0)), (1, (0, r0)), (2, (0, g0 1 2446)), (3, (0, 2686 + (6 * (g0 1 2446)))), (4, (0, 1)), (5, (0, 1))]) [5, 4, 3, 2, 1, 0] rfl ?_
                    exact h
                  · have h := h.1 c85
                    refine z_aload_n (i := 0) (c := 0) 4 d_M_tourStep_105 rfl rfl rfl ?_
                    refine z_bipush (n := 7) d_M_tourStep_106 (by decide) (by decide) ?_
                    refine z_cV (c := 0) (as := [(0, 7)]) (d' := 1) (st := []) d_M_tourStep_108 mi_M_fails ml_M_166 mv_M_fails se_M_fails rfl rfl rfl rfl (ks_M_0 hx) rfl rfl (kl_M_0 hx) rfl rfl (z_Omono h (fun r33 g33 _ h hro => ?_))
                    have h := h (z_b01 hro)
                    have hzr33 := z_b01 hro
                    show z_U X 12 m_M_tourStep 111 [(4, (0, 1)), (3, (0, 2686 + (6 * (g0 1 2446)))), (2, (0, g0 1 2446)), (1, (0, r0)), (0, (2, 0))] [(0, r33)] N σ g33 Q
                    exact z_zret d_M_tourStep_111 rfl (by decide) (by decide) hzr33 ⟨rfl, rfl, h⟩
                · have h := h.1 c84
                  refine z_aload_n (i := 0) (c := 0) 4 d_M_tourStep_85 rfl rfl rfl ?_
                  refine z_bipush (n := 6) d_M_tourStep_86 (by decide) (by decide) ?_
                  refine z_cV (c := 0) (as := [(0, 6)]) (d' := 1) (st := []) d_M_tourStep_88 mi_M_fails ml_M_166 mv_M_fails se_M_fails rfl rfl rfl rfl (ks_M_0 hx) rfl rfl (kl_M_0 hx) rfl rfl (z_Omono h (fun r34 g34 _ h hro => ?_))
                  have h := h (z_b01 hro)
                  have hzr34 := z_b01 hro
                  show z_U X 12 m_M_tourStep 91 [(4, (0, 1)), (3, (0, 2686 + (6 * (g0 1 2446)))), (2, (0, g0 1 2446)), (1, (0, r0)), (0, (2, 0))] [(0, r34)] N σ g34 Q
                  exact z_zret d_M_tourStep_91 rfl (by decide) (by decide) hzr34 ⟨rfl, rfl, h⟩
              · have h := h.1 c83
                refine z_aload_n (i := 0) (c := 0) 4 d_M_tourStep_57 rfl rfl rfl ?_
                refine z_geti (c := 0) (kI := 20) d_M_tourStep_58 fd_M_depth fl_M_225 (Or.inl rfl) rfl rfl (ks_M_0 hx) (kl_M_0 hx) ?_
                refine z_if_ne (tgt := 70) d_M_tourStep_61 (by decide) (fun c88 => ?_) (fun c88 => ?_)
                · have h := h.2 c88
                  refine z_iload_n (i := 1) 3 d_M_tourStep_70 rfl rfl ?_
                  refine z_bipush (n := 14) d_M_tourStep_71 (by decide) (by decide) ?_
                  refine z_icmp_eq (tgt := 92) d_M_tourStep_73 (by decide) (fun _ => ?_) (fun c => absurd c83 c)
                  refine z_iload 0 d_M_tourStep_92 rfl ?_
                  refine z_if_eq (tgt := 112) d_M_tourStep_94 (by decide) (fun c => absurd c (by decide)) (fun _ => ?_)
                  refine z_aload_n (i := 0) (c := 0) 4 d_M_tourStep_97 rfl rfl rfl ?_
                  refine z_geti (c := 0) (kI := 20) d_M_tourStep_98 fd_M_depth fl_M_225 (Or.inl rfl) rfl rfl (ks_M_0 hx) (kl_M_0 hx) ?_
                  refine z_iconst (n := 3) d_M_tourStep_101 (by decide) ?_
                  refine z_icmp_ne (tgt := 112) d_M_tourStep_102 (by decide) (fun c89 => ?_) (fun c89 => ?_)
                  · have h := h.2 c89
                    refine z_aload_n (i := 0) (c := 0) 4 d_M_tourStep_112 rfl rfl rfl ?_
                    refine z_dup d_M_tourStep_113 rfl ?_
                    refine z_geti (c := 0) (kI := 21) d_M_tourStep_114 fd_M_counted fl_M_228 (Or.inl rfl) rfl rfl (ks_M_0 hx) (kl_M_0 hx) ?_
                    refine z_iload_n (i := 1) 3 d_M_tourStep_117 rfl rfl ?_
                    refine z_bipush (n := 14) d_M_tourStep_118 (by decide) (by decide) ?_
                    refine z_icmp_ne (tgt := 127) d_M_tourStep_120 (by decide) (fun c => absurd c83 c) (fun _ => ?_)
                    refine z_iconst (n := 0) d_M_tourStep_123 (by decide) ?_
                    refine z_goto (tgt := 128) d_M_tourStep_124 (by decide) ?_
                    obtain ⟨c90, h⟩ := h
                    refine z_iadd d_M_tourStep_128 c90 ?_
                    refine z_puti (c := 0) (kI := 21) d_M_tourStep_129 fd_M_counted fl_M_228 pf_M_counted rfl rfl rfl rfl (ks_M_0 hx) (kl_M_0 hx) ?_
                    refine z_aload_n (i := 0) (c := 0) 4 d_M_tourStep_132 rfl rfl rfl ?_
                    refine z_getr (c := 0) (kI := 0) (r2 := 1) d_M_tourStep_133 fd_M_at fl_M_7 rfl rfl rfl (ks_M_0 hx) (kl_M_0 hx) (kr_M_0_0 hx) ?_
                    refine z_iload_n (i := 3) 1 d_M_tourStep_136 rfl rfl ?_
                    refine z_iload_n (i := 1) 3 d_M_tourStep_137 rfl rfl ?_
                    obtain ⟨c91, h⟩ := h
                    refine z_iast (c := 1) (m := 3296) d_M_tourStep_138 rfl (ks_M_1 hx) (kl_M_1 hx) rfl (by decide) c91 ?_
                    refine z_iconst (n := 1) d_M_tourStep_139 (by decide) ?_
                    refine z_istore (ls' := [(5, (0, 1)), (4, (0, 1)), (3, (0, 2686 + (6 * (g0 1 2446)))), (2, (0, g0 1 2446)), (1, (0, r0)), (0, (2, 0))]) d_M_tourStep_140 rfl rfl ?_
                    refine z_sub (ls' := [(0, (2, 0)), (1, (0, r0)), (2, (0, g0 1 2446)), (3, (0, 2686 + (6 * (g0 1 2446)))), (4, (0, 1)), (5, (0, 1))]) [5, 4, 3, 2, 1, 0] rfl ?_
                    exact h
                  · have h := h.1 c89
                    refine z_aload_n (i := 0) (c := 0) 4 d_M_tourStep_105 rfl rfl rfl ?_
                    refine z_bipush (n := 7) d_M_tourStep_106 (by decide) (by decide) ?_
                    refine z_cV (c := 0) (as := [(0, 7)]) (d' := 1) (st := []) d_M_tourStep_108 mi_M_fails ml_M_166 mv_M_fails se_M_fails rfl rfl rfl rfl (ks_M_0 hx) rfl rfl (kl_M_0 hx) rfl rfl (z_Omono h (fun r35 g35 _ h hro => ?_))
                    have h := h (z_b01 hro)
                    have hzr35 := z_b01 hro
                    show z_U X 12 m_M_tourStep 111 [(4, (0, 1)), (3, (0, 2686 + (6 * (g0 1 2446)))), (2, (0, g0 1 2446)), (1, (0, r0)), (0, (2, 0))] [(0, r35)] N σ g35 Q
                    exact z_zret d_M_tourStep_111 rfl (by decide) (by decide) hzr35 ⟨rfl, rfl, h⟩
                · have h := h.1 c88
                  refine z_aload_n (i := 0) (c := 0) 4 d_M_tourStep_64 rfl rfl rfl ?_
                  refine z_iconst (n := 2) d_M_tourStep_65 (by decide) ?_
                  refine z_cV (c := 0) (as := [(0, 2)]) (d' := 1) (st := []) d_M_tourStep_66 mi_M_fails ml_M_166 mv_M_fails se_M_fails rfl rfl rfl rfl (ks_M_0 hx) rfl rfl (kl_M_0 hx) rfl rfl (z_Omono h (fun r36 g36 _ h hro => ?_))
                  have h := h (z_b01 hro)
                  have hzr36 := z_b01 hro
                  show z_U X 12 m_M_tourStep 69 [(4, (0, 1)), (3, (0, 2686 + (6 * (g0 1 2446)))), (2, (0, g0 1 2446)), (1, (0, r0)), (0, (2, 0))] [(0, r36)] N σ g36 Q
                  exact z_zret d_M_tourStep_69 rfl (by decide) (by decide) hzr36 ⟨rfl, rfl, h⟩
set_option maxRecDepth 8000 in
theorem b_M_tourStep_142 {X : z_X} {N : Nat} {σ g : z_G} {Q : z_P} {x1 x2 x3 x4 x5 : Int} (hx : z_lay X N σ 0 z_SM z_RM) (h : ((6 ≤ x5) → ((-2147483648 ≤ ((g 1 2446) + 1) ∧ ((g 1 2446) + 1) ≤ 2147483647) ∧ (z_O X 2 m_M_nextToken [(2, 0)] N σ (z_up g 1 2446 ((g 1 2446) + 1)) (fun r0 g0 => (z_O X 11 m_M_tourOrder [(2, 0), (0, x1), (0, x3)] N σ g0 (fun r1 g1 => (r1 = 0 ∨ r1 = 1) → (((r1 = 0) → Q 0 g1) ∧ (¬ (r1 = 0) → (((x4 = 0) → (((x1 = 14) → ((-2147483648 ≤ ((g1 0 20) - 1) ∧ ((g1 0 20) - 1) ≤ 2147483647) ∧ ((-2147483648 ≤ (x3 + 4) ∧ (x3 + 4) ≤ 2147483647) ∧ ((0 ≤ ((g1 0 20) - 1) ∧ ((g1 0 20) - 1) < 3) ∧ ((0 ≤ (x3 + 4) ∧ (x3 + 4) < 3296) ∧ ((-2147483648 ≤ (6 * (g1 7 ((g1 0 20) - 1))) ∧ (6 * (g1 7 ((g1 0 20) - 1))) ≤ 2147483647) ∧ ((-2147483648 ≤ (2686 + (6 * (g1 7 ((g1 0 20) - 1)))) ∧ (2686 + (6 * (g1 7 ((g1 0 20) - 1)))) ≤ 2147483647) ∧ ((-2147483648 ≤ ((2686 + (6 * (g1 7 ((g1 0 20) - 1)))) + 4) ∧ ((2686 + (6 * (g1 7 ((g1 0 20) - 1)))) + 4) ≤ 2147483647) ∧ ((0 ≤ ((2686 + (6 * (g1 7 ((g1 0 20) - 1)))) + 4) ∧ ((2686 + (6 * (g1 7 ((g1 0 20) - 1)))) + 4) < 3296) ∧ (z_O X 3 m_M_wantSign [(2, 0), (0, 59)] N σ (z_up (z_up (z_up g1 0 20 ((g1 0 20) - 1)) 1 (x3 + 4) (g1 7 ((g1 0 20) - 1))) 1 ((2686 + (6 * (g1 7 ((g1 0 20) - 1)))) + 4) x2) (fun r3 g3 => (r3 = 0 ∨ r3 = 1) → Q r3 g3))))))))))) ∧ (¬ (x1 = 14) → (z_O X 3 m_M_wantSign [(2, 0), (0, 59)] N σ g1 (fun r2 g2 => (r2 = 0 ∨ r2 = 1) → Q r2 g2))))) ∧ (¬ (x4 = 0) → ((0 ≤ (g1 0 20) ∧ (g1 0 20) < 3) ∧ ((-2147483648 ≤ ((g1 0 20) + 1) ∧ ((g1 0 20) + 1) ≤ 2147483647) ∧ (((x1 = 14) → ((-2147483648 ≤ (((g1 0 20) + 1) - 1) ∧ (((g1 0 20) + 1) - 1) ≤ 2147483647) ∧ ((-2147483648 ≤ (x3 + 4) ∧ (x3 + 4) ≤ 2147483647) ∧ ((0 ≤ (((g1 0 20) + 1) - 1) ∧ (((g1 0 20) + 1) - 1) < 3) ∧ ((0 ≤ (x3 + 4) ∧ (x3 + 4) < 3296) ∧ ((-2147483648 ≤ (6 * ((z_up g1 7 (g1 0 20) x2) 7 (((g1 0 20) + 1) - 1))) ∧ (6 * ((z_up g1 7 (g1 0 20) x2) 7 (((g1 0 20) + 1) - 1))) ≤ 2147483647) ∧ ((-2147483648 ≤ (2686 + (6 * ((z_up g1 7 (g1 0 20) x2) 7 (((g1 0 20) + 1) - 1)))) ∧ (2686 + (6 * ((z_up g1 7 (g1 0 20) x2) 7 (((g1 0 20) + 1) - 1)))) ≤ 2147483647) ∧ ((-2147483648 ≤ ((2686 + (6 * ((z_up g1 7 (g1 0 20) x2) 7 (((g1 0 20) + 1) - 1)))) + 4) ∧ ((2686 + (6 * ((z_up g1 7 (g1 0 20) x2) 7 (((g1 0 20) + 1) - 1)))) + 4) ≤ 2147483647) ∧ ((0 ≤ ((2686 + (6 * ((z_up g1 7 (g1 0 20) x2) 7 (((g1 0 20) + 1) - 1)))) + 4) ∧ ((2686 + (6 * ((z_up g1 7 (g1 0 20) x2) 7 (((g1 0 20) + 1) - 1)))) + 4) < 3296) ∧ (z_O X 3 m_M_wantSign [(2, 0), (0, 59)] N σ (z_up (z_up (z_up (z_up (z_up g1 7 (g1 0 20) x2) 0 20 ((g1 0 20) + 1)) 0 20 (((g1 0 20) + 1) - 1)) 1 (x3 + 4) ((z_up g1 7 (g1 0 20) x2) 7 (((g1 0 20) + 1) - 1))) 1 ((2686 + (6 * ((z_up g1 7 (g1 0 20) x2) 7 (((g1 0 20) + 1) - 1)))) + 4) x2) (fun r5 g5 => (r5 = 0 ∨ r5 = 1) → Q r5 g5))))))))))) ∧ (¬ (x1 = 14) → (z_O X 3 m_M_wantSign [(2, 0), (0, 59)] N σ (z_up (z_up g1 7 (g1 0 20) x2) 0 20 ((g1 0 20) + 1)) (fun r4 g4 => (r4 = 0 ∨ r4 = 1) → Q r4 g4)))))))))))))))) ∧ (¬ (6 ≤ x5) → ((-2147483648 ≤ (x3 + x5) ∧ (x3 + x5) ≤ 2147483647) ∧ ((0 ≤ (x3 + x5) ∧ (x3 + x5) < 3296) ∧ ((-2147483648 ≤ (x5 + 1) ∧ (x5 + 1) ≤ 2147483647) ∧ L_M_tourStep_142 X N σ x1 x2 x3 x4 (x5 + 1) (z_up g 1 (x3 + x5) 0) Q))))) : L_M_tourStep_142 X N σ x1 x2 x3 x4 x5 g Q := by
  refine z_iload 5 d_M_tourStep_142 rfl ?_
  refine z_bipush (n := 6) d_M_tourStep_144 (by decide) (by decide) ?_
  refine z_icmp_ge (tgt := 165) d_M_tourStep_146 (by decide) (fun c1 => ?_) (fun c1 => ?_)
  · have h := h.1 c1
    refine z_aload_n (i := 0) (c := 0) 0 d_M_tourStep_165 rfl rfl rfl ?_
    refine z_getr (c := 0) (kI := 0) (r2 := 1) d_M_tourStep_166 fd_M_at fl_M_7 rfl rfl rfl (ks_M_0 hx) (kl_M_0 hx) (kr_M_0_0 hx) ?_
    refine z_sipush (n := 2446) d_M_tourStep_169 (by decide) (by decide) ?_
    refine z_dup2 d_M_tourStep_172 rfl rfl ?_
    refine z_iald (c := 1) (m := 3296) d_M_tourStep_173 rfl (ks_M_1 hx) (kl_M_1 hx) rfl (by decide) (by decide) ?_
    refine z_iconst (n := 1) d_M_tourStep_174 (by decide) ?_
    obtain ⟨c2, h⟩ := h
    refine z_iadd d_M_tourStep_175 c2 ?_
    refine z_iast (c := 1) (m := 3296) d_M_tourStep_176 rfl (ks_M_1 hx) (kl_M_1 hx) rfl (by decide) (by decide) ?_
    refine z_aload_n (i := 0) (c := 0) 0 d_M_tourStep_177 rfl rfl rfl ?_
    refine z_cV (c := 0) (as := []) (d' := 2) (st := []) d_M_tourStep_178 mi_M_nextToken ml_M_160 mv_M_nextToken se_M_nextToken rfl rfl rfl rfl (ks_M_0 hx) rfl rfl (kl_M_0 hx) rfl rfl (z_Omono h (fun r0 g0 _ h hro => ?_))
    show z_U X 12 m_M_tourStep 181 [(0, (2, 0)), (1, (0, x1)), (2, (0, x2)), (3, (0, x3)), (4, (0, x4)), (5, (0, x5))] [] N σ g0 Q
    refine z_aload_n (i := 0) (c := 0) 0 d_M_tourStep_181 rfl rfl rfl ?_
    refine z_iload_n (i := 1) 1 d_M_tourStep_182 rfl rfl ?_
    refine z_iload_n (i := 3) 3 d_M_tourStep_183 rfl rfl ?_
    refine z_cV (c := 0) (as := [(0, x1), (0, x3)]) (d' := 11) (st := []) d_M_tourStep_184 mi_M_tourOrder ml_M_231 mv_M_tourOrder se_M_tourOrder rfl rfl rfl rfl (ks_M_0 hx) rfl rfl (kl_M_0 hx) rfl rfl (z_Omono h (fun r1 g1 _ h hro => ?_))
    have h := h (z_b01 hro)
    have hzr1 := z_b01 hro
    show z_U X 12 m_M_tourStep 187 [(0, (2, 0)), (1, (0, x1)), (2, (0, x2)), (3, (0, x3)), (4, (0, x4)), (5, (0, x5))] [(0, r1)] N σ g1 Q
    refine z_if_ne (tgt := 192) d_M_tourStep_187 (by decide) (fun c3 => ?_) (fun c3 => ?_)
    · have h := h.2 c3
      refine z_iload 4 d_M_tourStep_192 rfl ?_
      refine z_if_eq (tgt := 217) d_M_tourStep_194 (by decide) (fun c4 => ?_) (fun c4 => ?_)
      · have h := h.1 c4
        refine z_iload_n (i := 1) 1 d_M_tourStep_217 rfl rfl ?_
        refine z_bipush (n := 14) d_M_tourStep_218 (by decide) (by decide) ?_
        refine z_icmp_ne (tgt := 274) d_M_tourStep_220 (by decide) (fun c5 => ?_) (fun c5 => ?_)
        · have h := h.2 c5
          refine z_aload_n (i := 0) (c := 0) 0 d_M_tourStep_274 rfl rfl rfl ?_
          refine z_bipush (n := 59) d_M_tourStep_275 (by decide) (by decide) ?_
          refine z_cV (c := 0) (as := [(0, 59)]) (d' := 3) (st := []) d_M_tourStep_277 mi_M_wantSign ml_M_197 mv_M_wantSign se_M_wantSign rfl rfl rfl rfl (ks_M_0 hx) rfl rfl (kl_M_0 hx) rfl rfl (z_Omono h (fun r2 g2 _ h hro => ?_))
          have h := h (z_b01 hro)
          have hzr2 := z_b01 hro
          show z_U X 12 m_M_tourStep 280 [(0, (2, 0)), (1, (0, x1)), (2, (0, x2)), (3, (0, x3)), (4, (0, x4)), (5, (0, x5))] [(0, r2)] N σ g2 Q
          exact z_zret d_M_tourStep_280 rfl (by decide) (by decide) hzr2 ⟨rfl, rfl, h⟩
        · have h := h.1 c5
          refine z_aload_n (i := 0) (c := 0) 0 d_M_tourStep_223 rfl rfl rfl ?_
          refine z_dup d_M_tourStep_224 rfl ?_
          refine z_geti (c := 0) (kI := 20) d_M_tourStep_225 fd_M_depth fl_M_225 (Or.inl rfl) rfl rfl (ks_M_0 hx) (kl_M_0 hx) ?_
          refine z_iconst (n := 1) d_M_tourStep_228 (by decide) ?_
          obtain ⟨c6, h⟩ := h
          refine z_isub d_M_tourStep_229 c6 ?_
          refine z_puti (c := 0) (kI := 20) d_M_tourStep_230 fd_M_depth fl_M_225 pf_M_depth rfl rfl rfl rfl (ks_M_0 hx) (kl_M_0 hx) ?_
          refine z_aload_n (i := 0) (c := 0) 0 d_M_tourStep_233 rfl rfl rfl ?_
          refine z_getr (c := 0) (kI := 0) (r2 := 1) d_M_tourStep_234 fd_M_at fl_M_7 rfl rfl rfl (ks_M_0 hx) (kl_M_0 hx) (kr_M_0_0 hx) ?_
          refine z_iload_n (i := 3) 3 d_M_tourStep_237 rfl rfl ?_
          refine z_iconst (n := 4) d_M_tourStep_238 (by decide) ?_
          obtain ⟨c7, h⟩ := h
          refine z_iadd d_M_tourStep_239 c7 ?_
          refine z_aload_n (i := 0) (c := 0) 0 d_M_tourStep_240 rfl rfl rfl ?_
          refine z_getr (c := 0) (kI := 19) (r2 := 7) d_M_tourStep_241 fd_M_opened fl_M_41 rfl rfl rfl (ks_M_0 hx) (kl_M_0 hx) (kr_M_0_19 hx) ?_
          refine z_aload_n (i := 0) (c := 0) 0 d_M_tourStep_244 rfl rfl rfl ?_
          refine z_geti (c := 0) (kI := 20) d_M_tourStep_245 fd_M_depth fl_M_225 (Or.inl rfl) rfl rfl (ks_M_0 hx) (kl_M_0 hx) ?_
          refine z_ti (b := (g1 0 20) - 1) (by simp [z_up]) ?_
          obtain ⟨c8, h⟩ := h
          refine z_iald (c := 7) (m := 3) d_M_tourStep_248 rfl (ks_M_7 hx) (kl_M_7 hx) rfl (by decide) c8 ?_
          refine z_ti (b := g1 7 ((g1 0 20) - 1)) (by simp [z_up]) ?_
          obtain ⟨c9, h⟩ := h
          refine z_iast (c := 1) (m := 3296) d_M_tourStep_249 rfl (ks_M_1 hx) (kl_M_1 hx) rfl (by decide) c9 ?_
          refine z_aload_n (i := 0) (c := 0) 0 d_M_tourStep_250 rfl rfl rfl ?_
          refine z_getr (c := 0) (kI := 0) (r2 := 1) d_M_tourStep_251 fd_M_at fl_M_7 rfl rfl rfl (ks_M_0 hx) (kl_M_0 hx) (kr_M_0_0 hx) ?_
          refine z_sipush (n := 2686) d_M_tourStep_254 (by decide) (by decide) ?_
          refine z_bipush (n := 6) d_M_tourStep_257 (by decide) (by decide) ?_
          refine z_aload_n (i := 0) (c := 0) 0 d_M_tourStep_259 rfl rfl rfl ?_
          refine z_getr (c := 0) (kI := 19) (r2 := 7) d_M_tourStep_260 fd_M_opened fl_M_41 rfl rfl rfl (ks_M_0 hx) (kl_M_0 hx) (kr_M_0_19 hx) ?_
          refine z_aload_n (i := 0) (c := 0) 0 d_M_tourStep_263 rfl rfl rfl ?_
          refine z_geti (c := 0) (kI := 20) d_M_tourStep_264 fd_M_depth fl_M_225 (Or.inl rfl) rfl rfl (ks_M_0 hx) (kl_M_0 hx) ?_
          refine z_ti (b := (g1 0 20) - 1) (by simp [z_up]) ?_
          refine z_iald (c := 7) (m := 3) d_M_tourStep_267 rfl (ks_M_7 hx) (kl_M_7 hx) rfl (by decide) c8 ?_
          refine z_ti (b := g1 7 ((g1 0 20) - 1)) (by simp [z_up]) ?_
          obtain ⟨c10, h⟩ := h
          refine z_imul d_M_tourStep_268 c10 ?_
          obtain ⟨c11, h⟩ := h
          refine z_iadd d_M_tourStep_269 c11 ?_
          refine z_iconst (n := 4) d_M_tourStep_270 (by decide) ?_
          obtain ⟨c12, h⟩ := h
          refine z_iadd d_M_tourStep_271 c12 ?_
          refine z_iload_n (i := 2) 2 d_M_tourStep_272 rfl rfl ?_
          obtain ⟨c13, h⟩ := h
          refine z_iast (c := 1) (m := 3296) d_M_tourStep_273 rfl (ks_M_1 hx) (kl_M_1 hx) rfl (by decide) c13 ?_
          refine z_aload_n (i := 0) (c := 0) 0 d_M_tourStep_274 rfl rfl rfl ?_
          refine z_bipush (n := 59) d_M_tourStep_275 (by decide) (by decide) ?_
          refine z_cV (c := 0) (as := [(0, 59)]) (d' := 3) (st := []) d_M_tourStep_277 mi_M_wantSign ml_M_197 mv_M_wantSign se_M_wantSign rfl rfl rfl rfl (ks_M_0 hx) rfl rfl (kl_M_0 hx) rfl rfl (z_Omono h (fun r3 g3 _ h hro => ?_))
          have h := h (z_b01 hro)
          have hzr3 := z_b01 hro
          show z_U X 12 m_M_tourStep 280 [(0, (2, 0)), (1, (0, x1)), (2, (0, x2)), (3, (0, x3)), (4, (0, x4)), (5, (0, x5))] [(0, r3)] N σ g3 Q
          exact z_zret d_M_tourStep_280 rfl (by decide) (by decide) hzr3 ⟨rfl, rfl, h⟩
      · have h := h.2 c4
        refine z_aload_n (i := 0) (c := 0) 0 d_M_tourStep_197 rfl rfl rfl ?_
        refine z_getr (c := 0) (kI := 19) (r2 := 7) d_M_tourStep_198 fd_M_opened fl_M_41 rfl rfl rfl (ks_M_0 hx) (kl_M_0 hx) (kr_M_0_19 hx) ?_
        refine z_aload_n (i := 0) (c := 0) 0 d_M_tourStep_201 rfl rfl rfl ?_
        refine z_geti (c := 0) (kI := 20) d_M_tourStep_202 fd_M_depth fl_M_225 (Or.inl rfl) rfl rfl (ks_M_0 hx) (kl_M_0 hx) ?_
        refine z_iload_n (i := 2) 2 d_M_tourStep_205 rfl rfl ?_
        obtain ⟨c14, h⟩ := h
        refine z_iast (c := 7) (m := 3) d_M_tourStep_206 rfl (ks_M_7 hx) (kl_M_7 hx) rfl (by decide) c14 ?_
        refine z_aload_n (i := 0) (c := 0) 0 d_M_tourStep_207 rfl rfl rfl ?_
        refine z_dup d_M_tourStep_208 rfl ?_
        refine z_geti (c := 0) (kI := 20) d_M_tourStep_209 fd_M_depth fl_M_225 (Or.inl rfl) rfl rfl (ks_M_0 hx) (kl_M_0 hx) ?_
        refine z_ti (b := g1 0 20) (by simp [z_up]) ?_
        refine z_iconst (n := 1) d_M_tourStep_212 (by decide) ?_
        obtain ⟨c15, h⟩ := h
        refine z_iadd d_M_tourStep_213 c15 ?_
        refine z_puti (c := 0) (kI := 20) d_M_tourStep_214 fd_M_depth fl_M_225 pf_M_depth rfl rfl rfl rfl (ks_M_0 hx) (kl_M_0 hx) ?_
        refine z_iload_n (i := 1) 1 d_M_tourStep_217 rfl rfl ?_
        refine z_bipush (n := 14) d_M_tourStep_218 (by decide) (by decide) ?_
        refine z_icmp_ne (tgt := 274) d_M_tourStep_220 (by decide) (fun c16 => ?_) (fun c16 => ?_)
        · have h := h.2 c16
          refine z_aload_n (i := 0) (c := 0) 0 d_M_tourStep_274 rfl rfl rfl ?_
          refine z_bipush (n := 59) d_M_tourStep_275 (by decide) (by decide) ?_
          refine z_cV (c := 0) (as := [(0, 59)]) (d' := 3) (st := []) d_M_tourStep_277 mi_M_wantSign ml_M_197 mv_M_wantSign se_M_wantSign rfl rfl rfl rfl (ks_M_0 hx) rfl rfl (kl_M_0 hx) rfl rfl (z_Omono h (fun r4 g4 _ h hro => ?_))
          have h := h (z_b01 hro)
          have hzr4 := z_b01 hro
          show z_U X 12 m_M_tourStep 280 [(0, (2, 0)), (1, (0, x1)), (2, (0, x2)), (3, (0, x3)), (4, (0, x4)), (5, (0, x5))] [(0, r4)] N σ g4 Q
          exact z_zret d_M_tourStep_280 rfl (by decide) (by decide) hzr4 ⟨rfl, rfl, h⟩
        · have h := h.1 c16
          refine z_aload_n (i := 0) (c := 0) 0 d_M_tourStep_223 rfl rfl rfl ?_
          refine z_dup d_M_tourStep_224 rfl ?_
          refine z_geti (c := 0) (kI := 20) d_M_tourStep_225 fd_M_depth fl_M_225 (Or.inl rfl) rfl rfl (ks_M_0 hx) (kl_M_0 hx) ?_
          refine z_ti (b := (g1 0 20) + 1) (by simp [z_up]) ?_
          refine z_iconst (n := 1) d_M_tourStep_228 (by decide) ?_
          obtain ⟨c17, h⟩ := h
          refine z_isub d_M_tourStep_229 c17 ?_
          refine z_puti (c := 0) (kI := 20) d_M_tourStep_230 fd_M_depth fl_M_225 pf_M_depth rfl rfl rfl rfl (ks_M_0 hx) (kl_M_0 hx) ?_
          refine z_aload_n (i := 0) (c := 0) 0 d_M_tourStep_233 rfl rfl rfl ?_
          refine z_getr (c := 0) (kI := 0) (r2 := 1) d_M_tourStep_234 fd_M_at fl_M_7 rfl rfl rfl (ks_M_0 hx) (kl_M_0 hx) (kr_M_0_0 hx) ?_
          refine z_iload_n (i := 3) 3 d_M_tourStep_237 rfl rfl ?_
          refine z_iconst (n := 4) d_M_tourStep_238 (by decide) ?_
          obtain ⟨c18, h⟩ := h
          refine z_iadd d_M_tourStep_239 c18 ?_
          refine z_aload_n (i := 0) (c := 0) 0 d_M_tourStep_240 rfl rfl rfl ?_
          refine z_getr (c := 0) (kI := 19) (r2 := 7) d_M_tourStep_241 fd_M_opened fl_M_41 rfl rfl rfl (ks_M_0 hx) (kl_M_0 hx) (kr_M_0_19 hx) ?_
          refine z_aload_n (i := 0) (c := 0) 0 d_M_tourStep_244 rfl rfl rfl ?_
          refine z_geti (c := 0) (kI := 20) d_M_tourStep_245 fd_M_depth fl_M_225 (Or.inl rfl) rfl rfl (ks_M_0 hx) (kl_M_0 hx) ?_
          refine z_ti (b := ((g1 0 20) + 1) - 1) (by simp [z_up]) ?_
          obtain ⟨c19, h⟩ := h
          refine z_iald (c := 7) (m := 3) d_M_tourStep_248 rfl (ks_M_7 hx) (kl_M_7 hx) rfl (by decide) c19 ?_
          refine z_ti (b := (z_up g1 7 (g1 0 20) x2) 7 (((g1 0 20) + 1) - 1)) (by simp [z_up]) ?_
          obtain ⟨c20, h⟩ := h
          refine z_iast (c := 1) (m := 3296) d_M_tourStep_249 rfl (ks_M_1 hx) (kl_M_1 hx) rfl (by decide) c20 ?_
          refine z_aload_n (i := 0) (c := 0) 0 d_M_tourStep_250 rfl rfl rfl ?_
          refine z_getr (c := 0) (kI := 0) (r2 := 1) d_M_tourStep_251 fd_M_at fl_M_7 rfl rfl rfl (ks_M_0 hx) (kl_M_0 hx) (kr_M_0_0 hx) ?_
          refine z_sipush (n := 2686) d_M_tourStep_254 (by decide) (by decide) ?_
          refine z_bipush (n := 6) d_M_tourStep_257 (by decide) (by decide) ?_
          refine z_aload_n (i := 0) (c := 0) 0 d_M_tourStep_259 rfl rfl rfl ?_
          refine z_getr (c := 0) (kI := 19) (r2 := 7) d_M_tourStep_260 fd_M_opened fl_M_41 rfl rfl rfl (ks_M_0 hx) (kl_M_0 hx) (kr_M_0_19 hx) ?_
          refine z_aload_n (i := 0) (c := 0) 0 d_M_tourStep_263 rfl rfl rfl ?_
          refine z_geti (c := 0) (kI := 20) d_M_tourStep_264 fd_M_depth fl_M_225 (Or.inl rfl) rfl rfl (ks_M_0 hx) (kl_M_0 hx) ?_
          refine z_ti (b := ((g1 0 20) + 1) - 1) (by simp [z_up]) ?_
          refine z_iald (c := 7) (m := 3) d_M_tourStep_267 rfl (ks_M_7 hx) (kl_M_7 hx) rfl (by decide) c19 ?_
          refine z_ti (b := (z_up g1 7 (g1 0 20) x2) 7 (((g1 0 20) + 1) - 1)) (by simp [z_up]) ?_
          obtain ⟨c21, h⟩ := h
          refine z_imul d_M_tourStep_268 c21 ?_
          obtain ⟨c22, h⟩ := h
          refine z_iadd d_M_tourStep_269 c22 ?_
          refine z_iconst (n := 4) d_M_tourStep_270 (by decide) ?_
          obtain ⟨c23, h⟩ := h
          refine z_iadd d_M_tourStep_271 c23 ?_
          refine z_iload_n (i := 2) 2 d_M_tourStep_272 rfl rfl ?_
          obtain ⟨c24, h⟩ := h
          refine z_iast (c := 1) (m := 3296) d_M_tourStep_273 rfl (ks_M_1 hx) (kl_M_1 hx) rfl (by decide) c24 ?_
          refine z_aload_n (i := 0) (c := 0) 0 d_M_tourStep_274 rfl rfl rfl ?_
          refine z_bipush (n := 59) d_M_tourStep_275 (by decide) (by decide) ?_
          refine z_cV (c := 0) (as := [(0, 59)]) (d' := 3) (st := []) d_M_tourStep_277 mi_M_wantSign ml_M_197 mv_M_wantSign se_M_wantSign rfl rfl rfl rfl (ks_M_0 hx) rfl rfl (kl_M_0 hx) rfl rfl (z_Omono h (fun r5 g5 _ h hro => ?_))
          have h := h (z_b01 hro)
          have hzr5 := z_b01 hro
          show z_U X 12 m_M_tourStep 280 [(0, (2, 0)), (1, (0, x1)), (2, (0, x2)), (3, (0, x3)), (4, (0, x4)), (5, (0, x5))] [(0, r5)] N σ g5 Q
          exact z_zret d_M_tourStep_280 rfl (by decide) (by decide) hzr5 ⟨rfl, rfl, h⟩
    · have h := h.1 c3
      refine z_iconst (n := 0) d_M_tourStep_190 (by decide) ?_
      exact z_zret d_M_tourStep_191 rfl (by decide) (by decide) (by decide) ⟨rfl, rfl, h⟩
  · have h := h.2 c1
    refine z_aload_n (i := 0) (c := 0) 0 d_M_tourStep_149 rfl rfl rfl ?_
    refine z_getr (c := 0) (kI := 0) (r2 := 1) d_M_tourStep_150 fd_M_at fl_M_7 rfl rfl rfl (ks_M_0 hx) (kl_M_0 hx) (kr_M_0_0 hx) ?_
    refine z_iload_n (i := 3) 3 d_M_tourStep_153 rfl rfl ?_
    refine z_iload 5 d_M_tourStep_154 rfl ?_
    obtain ⟨c25, h⟩ := h
    refine z_iadd d_M_tourStep_156 c25 ?_
    refine z_iconst (n := 0) d_M_tourStep_157 (by decide) ?_
    obtain ⟨c26, h⟩ := h
    refine z_iast (c := 1) (m := 3296) d_M_tourStep_158 rfl (ks_M_1 hx) (kl_M_1 hx) rfl (by decide) c26 ?_
    obtain ⟨c27, h⟩ := h
    refine z_iinc (n := 1) (ls' := [(5, (0, x5 + 1)), (0, (2, 0)), (1, (0, x1)), (2, (0, x2)), (3, (0, x3)), (4, (0, x4))]) 5 d_M_tourStep_159 rfl c27 rfl rfl ?_
    refine z_goto (tgt := 142) d_M_tourStep_162 (by decide) ?_
    refine z_sub (ls' := [(0, (2, 0)), (1, (0, x1)), (2, (0, x2)), (3, (0, x3)), (4, (0, x4)), (5, (0, x5 + 1))]) [1, 2, 3, 4, 5, 0] rfl ?_
    exact h
theorem d_M_tours_0 : decode (z_c m_M_tours) 0 = .ok (.aload_n 0, 1) := by decide +kernel
theorem d_M_tours_1 : decode (z_c m_M_tours) 1 = .ok (.iload_n 1, 1) := by decide +kernel
theorem d_M_tours_2 : decode (z_c m_M_tours) 2 = .ok (.sipush 300, 3) := by decide +kernel
theorem d_M_tours_5 : decode (z_c m_M_tours) 5 = .ok (.invokevirtual 210, 3) := by decide +kernel
theorem d_M_tours_8 : decode (z_c m_M_tours) 8 = .ok (.ifCond .ne 9, 3) := by decide +kernel
theorem d_M_tours_11 : decode (z_c m_M_tours) 11 = .ok (.aload_n 0, 1) := by decide +kernel
theorem d_M_tours_12 : decode (z_c m_M_tours) 12 = .ok (.iconst 1, 1) := by decide +kernel
theorem d_M_tours_13 : decode (z_c m_M_tours) 13 = .ok (.invokevirtual 87, 3) := by decide +kernel
theorem d_M_tours_16 : decode (z_c m_M_tours) 16 = .ok (.ireturn, 1) := by decide +kernel
theorem d_M_tours_17 : decode (z_c m_M_tours) 17 = .ok (.aload_n 0, 1) := by decide +kernel
theorem d_M_tours_18 : decode (z_c m_M_tours) 18 = .ok (.getfield 7, 3) := by decide +kernel
theorem d_M_tours_21 : decode (z_c m_M_tours) 21 = .ok (.sipush 2446, 3) := by decide +kernel
theorem d_M_tours_24 : decode (z_c m_M_tours) 24 = .ok (.iconst 0, 1) := by decide +kernel
theorem d_M_tours_25 : decode (z_c m_M_tours) 25 = .ok (.iastore, 1) := by decide +kernel
theorem d_M_tours_26 : decode (z_c m_M_tours) 26 = .ok (.aload_n 0, 1) := by decide +kernel
theorem d_M_tours_27 : decode (z_c m_M_tours) 27 = .ok (.iconst 0, 1) := by decide +kernel
theorem d_M_tours_28 : decode (z_c m_M_tours) 28 = .ok (.putfield 225, 3) := by decide +kernel
theorem d_M_tours_31 : decode (z_c m_M_tours) 31 = .ok (.aload_n 0, 1) := by decide +kernel
theorem d_M_tours_32 : decode (z_c m_M_tours) 32 = .ok (.iconst 0, 1) := by decide +kernel
theorem d_M_tours_33 : decode (z_c m_M_tours) 33 = .ok (.putfield 228, 3) := by decide +kernel
theorem d_M_tours_36 : decode (z_c m_M_tours) 36 = .ok (.iconst 1, 1) := by decide +kernel
theorem d_M_tours_37 : decode (z_c m_M_tours) 37 = .ok (.istore_n 2, 1) := by decide +kernel
theorem d_M_tours_38 : decode (z_c m_M_tours) 38 = .ok (.iload_n 2, 1) := by decide +kernel
theorem d_M_tours_39 : decode (z_c m_M_tours) 39 = .ok (.ifCond .eq 18, 3) := by decide +kernel
theorem d_M_tours_42 : decode (z_c m_M_tours) 42 = .ok (.aload_n 0, 1) := by decide +kernel
theorem d_M_tours_43 : decode (z_c m_M_tours) 43 = .ok (.getfield 132, 3) := by decide +kernel
theorem d_M_tours_46 : decode (z_c m_M_tours) 46 = .ok (.ifCond .eq 11, 3) := by decide +kernel
theorem d_M_tours_49 : decode (z_c m_M_tours) 49 = .ok (.aload_n 0, 1) := by decide +kernel
theorem d_M_tours_50 : decode (z_c m_M_tours) 50 = .ok (.invokevirtual 234, 3) := by decide +kernel
theorem d_M_tours_53 : decode (z_c m_M_tours) 53 = .ok (.istore_n 2, 1) := by decide +kernel
theorem d_M_tours_54 : decode (z_c m_M_tours) 54 = .ok (.goto (-16), 3) := by decide +kernel
theorem d_M_tours_57 : decode (z_c m_M_tours) 57 = .ok (.aload_n 0, 1) := by decide +kernel
theorem d_M_tours_58 : decode (z_c m_M_tours) 58 = .ok (.getfield 157, 3) := by decide +kernel
theorem d_M_tours_61 : decode (z_c m_M_tours) 61 = .ok (.ifCond .ne 16, 3) := by decide +kernel
theorem d_M_tours_64 : decode (z_c m_M_tours) 64 = .ok (.aload_n 0, 1) := by decide +kernel
theorem d_M_tours_65 : decode (z_c m_M_tours) 65 = .ok (.getfield 225, 3) := by decide +kernel
theorem d_M_tours_68 : decode (z_c m_M_tours) 68 = .ok (.ifCond .le 9, 3) := by decide +kernel
theorem d_M_tours_71 : decode (z_c m_M_tours) 71 = .ok (.aload_n 0, 1) := by decide +kernel
theorem d_M_tours_72 : decode (z_c m_M_tours) 72 = .ok (.iconst 2, 1) := by decide +kernel
theorem d_M_tours_73 : decode (z_c m_M_tours) 73 = .ok (.invokevirtual 166, 3) := by decide +kernel
theorem d_M_tours_76 : decode (z_c m_M_tours) 76 = .ok (.pop, 1) := by decide +kernel
theorem d_M_tours_77 : decode (z_c m_M_tours) 77 = .ok (.aload_n 0, 1) := by decide +kernel
theorem d_M_tours_78 : decode (z_c m_M_tours) 78 = .ok (.getfield 157, 3) := by decide +kernel
theorem d_M_tours_81 : decode (z_c m_M_tours) 81 = .ok (.ifCond .ne 51, 3) := by decide +kernel
theorem d_M_tours_84 : decode (z_c m_M_tours) 84 = .ok (.aload_n 0, 1) := by decide +kernel
theorem d_M_tours_85 : decode (z_c m_M_tours) 85 = .ok (.getfield 7, 3) := by decide +kernel
theorem d_M_tours_88 : decode (z_c m_M_tours) 88 = .ok (.bipush 6, 2) := by decide +kernel
theorem d_M_tours_90 : decode (z_c m_M_tours) 90 = .ok (.aload_n 0, 1) := by decide +kernel
theorem d_M_tours_91 : decode (z_c m_M_tours) 91 = .ok (.getfield 7, 3) := by decide +kernel
theorem d_M_tours_94 : decode (z_c m_M_tours) 94 = .ok (.sipush 2446, 3) := by decide +kernel
theorem d_M_tours_97 : decode (z_c m_M_tours) 97 = .ok (.iaload, 1) := by decide +kernel
theorem d_M_tours_98 : decode (z_c m_M_tours) 98 = .ok (.iastore, 1) := by decide +kernel
theorem d_M_tours_99 : decode (z_c m_M_tours) 99 = .ok (.sipush 246, 3) := by decide +kernel
theorem d_M_tours_102 : decode (z_c m_M_tours) 102 = .ok (.istore_n 3, 1) := by decide +kernel
theorem d_M_tours_103 : decode (z_c m_M_tours) 103 = .ok (.iload_n 3, 1) := by decide +kernel
theorem d_M_tours_104 : decode (z_c m_M_tours) 104 = .ok (.sipush 606, 3) := by decide +kernel
theorem d_M_tours_107 : decode (z_c m_M_tours) 107 = .ok (.if_icmp .ge 25, 3) := by decide +kernel
theorem d_M_tours_110 : decode (z_c m_M_tours) 110 = .ok (.aload_n 0, 1) := by decide +kernel
theorem d_M_tours_111 : decode (z_c m_M_tours) 111 = .ok (.getfield 7, 3) := by decide +kernel
theorem d_M_tours_114 : decode (z_c m_M_tours) 114 = .ok (.iload_n 3, 1) := by decide +kernel
theorem d_M_tours_115 : decode (z_c m_M_tours) 115 = .ok (.aload_n 0, 1) := by decide +kernel
theorem d_M_tours_116 : decode (z_c m_M_tours) 116 = .ok (.getfield 7, 3) := by decide +kernel
theorem d_M_tours_119 : decode (z_c m_M_tours) 119 = .ok (.sipush 2440, 3) := by decide +kernel
theorem d_M_tours_122 : decode (z_c m_M_tours) 122 = .ok (.iload_n 3, 1) := by decide +kernel
theorem d_M_tours_123 : decode (z_c m_M_tours) 123 = .ok (.iadd, 1) := by decide +kernel
theorem d_M_tours_124 : decode (z_c m_M_tours) 124 = .ok (.iaload, 1) := by decide +kernel
theorem d_M_tours_125 : decode (z_c m_M_tours) 125 = .ok (.iastore, 1) := by decide +kernel
theorem d_M_tours_126 : decode (z_c m_M_tours) 126 = .ok (.iinc 3 1, 3) := by decide +kernel
theorem d_M_tours_129 : decode (z_c m_M_tours) 129 = .ok (.goto (-26), 3) := by decide +kernel
theorem d_M_tours_132 : decode (z_c m_M_tours) 132 = .ok (.aload_n 0, 1) := by decide +kernel
theorem d_M_tours_133 : decode (z_c m_M_tours) 133 = .ok (.aload_n 0, 1) := by decide +kernel
theorem d_M_tours_134 : decode (z_c m_M_tours) 134 = .ok (.getfield 228, 3) := by decide +kernel
theorem d_M_tours_137 : decode (z_c m_M_tours) 137 = .ok (.invokevirtual 216, 3) := by decide +kernel
theorem d_M_tours_140 : decode (z_c m_M_tours) 140 = .ok (.ireturn, 1) := by decide +kernel
abbrev L_M_tours_38 (X : z_X) (N : Nat) (σ : z_G) (x2 : Int) (g : z_G) (Q : z_P) : Prop := z_U X 13 m_M_tours 38 [(0, (2, 0)), (2, (0, x2))] [] N σ g Q
abbrev L_M_tours_103 (X : z_X) (N : Nat) (σ : z_G) (x3 : Int) (g : z_G) (Q : z_P) : Prop := z_U X 13 m_M_tours 103 [(0, (2, 0)), (3, (0, x3))] [] N σ g Q
set_option maxRecDepth 8000 in
theorem b_M_tours_0 {X : z_X} {N : Nat} {σ g : z_G} {Q : z_P} {a1 : Int} (hx : z_lay X N σ 0 z_SM z_RM) (h : z_O X 3 m_M_begins [(2, 0), (0, a1), (0, 300)] N σ g (fun r0 g0 => (r0 = 0 ∨ r0 = 1) → (((r0 = 0) → Q (-1) (z_up g0 0 1 1)) ∧ (¬ (r0 = 0) → L_M_tours_38 X N σ 1 (z_up (z_up (z_up g0 1 2446 0) 0 20 0) 0 21 0) Q)))) : z_O X 13 m_M_tours [(2, 0), (0, a1)] N σ g Q := by
  refine z_Oenter mi_M_tours rfl (fun _ => ?_)
  show z_U X 13 m_M_tours 0 [(0, (2, 0)), (1, (0, a1))] [] N σ g Q
  refine z_aload_n (i := 0) (c := 0) 0 d_M_tours_0 rfl rfl rfl ?_
  refine z_iload_n (i := 1) 1 d_M_tours_1 rfl rfl ?_
  refine z_sipush (n := 300) d_M_tours_2 (by decide) (by decide) ?_
  refine z_cV (c := 0) (as := [(0, a1), (0, 300)]) (d' := 3) (st := []) d_M_tours_5 mi_M_begins ml_M_210 mv_M_begins se_M_begins rfl rfl rfl rfl (ks_M_0 hx) rfl rfl (kl_M_0 hx) rfl rfl (z_Omono h (fun r0 g0 _ h hro => ?_))
  have h := h (z_b01 hro)
  have hzr0 := z_b01 hro
  show z_U X 13 m_M_tours 8 [(0, (2, 0)), (1, (0, a1))] [(0, r0)] N σ g0 Q
  refine z_if_ne (tgt := 17) d_M_tours_8 (by decide) (fun c1 => ?_) (fun c1 => ?_)
  · have h := h.2 c1
    refine z_aload_n (i := 0) (c := 0) 0 d_M_tours_17 rfl rfl rfl ?_
    refine z_getr (c := 0) (kI := 0) (r2 := 1) d_M_tours_18 fd_M_at fl_M_7 rfl rfl rfl (ks_M_0 hx) (kl_M_0 hx) (kr_M_0_0 hx) ?_
    refine z_sipush (n := 2446) d_M_tours_21 (by decide) (by decide) ?_
    refine z_iconst (n := 0) d_M_tours_24 (by decide) ?_
    refine z_iast (c := 1) (m := 3296) d_M_tours_25 rfl (ks_M_1 hx) (kl_M_1 hx) rfl (by decide) (by decide) ?_
    refine z_aload_n (i := 0) (c := 0) 0 d_M_tours_26 rfl rfl rfl ?_
    refine z_iconst (n := 0) d_M_tours_27 (by decide) ?_
    refine z_puti (c := 0) (kI := 20) d_M_tours_28 fd_M_depth fl_M_225 pf_M_depth rfl rfl rfl rfl (ks_M_0 hx) (kl_M_0 hx) ?_
    refine z_aload_n (i := 0) (c := 0) 0 d_M_tours_31 rfl rfl rfl ?_
    refine z_iconst (n := 0) d_M_tours_32 (by decide) ?_
    refine z_puti (c := 0) (kI := 21) d_M_tours_33 fd_M_counted fl_M_228 pf_M_counted rfl rfl rfl rfl (ks_M_0 hx) (kl_M_0 hx) ?_
    refine z_iconst (n := 1) d_M_tours_36 (by decide) ?_
    refine z_istore_n (i := 2) (ls' := [(2, (0, 1)), (0, (2, 0)), (1, (0, a1))]) d_M_tours_37 rfl rfl rfl ?_
    refine z_sub (ls' := [(0, (2, 0)), (2, (0, 1))]) [1, 0] rfl ?_
    exact h
  · have h := h.1 c1
    refine z_aload_n (i := 0) (c := 0) 0 d_M_tours_11 rfl rfl rfl ?_
    refine z_iconst (n := 1) d_M_tours_12 (by decide) ?_
    refine z_cV (c := 0) (as := [(0, 1)]) (d' := 1) (st := []) d_M_tours_13 mi_M_refuse ml_M_87 mv_M_refuse se_M_refuse rfl rfl rfl rfl (ks_M_0 hx) rfl rfl (kl_M_0 hx) rfl rfl (b_M_refuse_0 hx ?_)
    intro _
    show z_U X 13 m_M_tours 16 [(0, (2, 0)), (1, (0, a1))] [(0, (-1))] N σ (z_up g0 0 1 1) Q
    exact z_iret d_M_tours_16 rfl (by decide) (by decide) ⟨rfl, rfl, h⟩
set_option maxRecDepth 8000 in
theorem b_M_tours_38 {X : z_X} {N : Nat} {σ g : z_G} {Q : z_P} {x2 : Int} (hx : z_lay X N σ 0 z_SM z_RM) (h : ((x2 = 0) → ((((g 0 17) = 0) → ((((g 0 20) ≤ 0) → L_M_tours_103 X N σ 246 (z_up g 1 6 (g 1 2446)) Q) ∧ (¬ ((g 0 20) ≤ 0) → (z_O X 1 m_M_fails [(2, 0), (0, 2)] N σ g (fun r1 g1 => (r1 = 0 ∨ r1 = 1) → ((((g1 0 17) = 0) → L_M_tours_103 X N σ 246 (z_up g1 1 6 (g1 1 2446)) Q) ∧ (¬ ((g1 0 17) = 0) → (z_O X 2 m_M_taken [(2, 0), (0, g1 0 21)] N σ g1 (fun r2 g2 => Q r2 g2))))))))) ∧ (¬ ((g 0 17) = 0) → (z_O X 2 m_M_taken [(2, 0), (0, g 0 21)] N σ g (fun r0 g0 => Q r0 g0))))) ∧ (¬ (x2 = 0) → ((((g 0 11) = 0) → ((((g 0 17) = 0) → ((((g 0 20) ≤ 0) → L_M_tours_103 X N σ 246 (z_up g 1 6 (g 1 2446)) Q) ∧ (¬ ((g 0 20) ≤ 0) → (z_O X 1 m_M_fails [(2, 0), (0, 2)] N σ g (fun r4 g4 => (r4 = 0 ∨ r4 = 1) → ((((g4 0 17) = 0) → L_M_tours_103 X N σ 246 (z_up g4 1 6 (g4 1 2446)) Q) ∧ (¬ ((g4 0 17) = 0) → (z_O X 2 m_M_taken [(2, 0), (0, g4 0 21)] N σ g4 (fun r5 g5 => Q r5 g5))))))))) ∧ (¬ ((g 0 17) = 0) → (z_O X 2 m_M_taken [(2, 0), (0, g 0 21)] N σ g (fun r3 g3 => Q r3 g3))))) ∧ (¬ ((g 0 11) = 0) → (z_O X 12 m_M_tourStep [(2, 0)] N σ g (fun r6 g6 => (r6 = 0 ∨ r6 = 1) → L_M_tours_38 X N σ r6 g6 Q)))))) : L_M_tours_38 X N σ x2 g Q := by
  refine z_iload_n (i := 2) 1 d_M_tours_38 rfl rfl ?_
  refine z_if_eq (tgt := 57) d_M_tours_39 (by decide) (fun c1 => ?_) (fun c1 => ?_)
  · have h := h.1 c1
    refine z_aload_n (i := 0) (c := 0) 0 d_M_tours_57 rfl rfl rfl ?_
    refine z_geti (c := 0) (kI := 17) d_M_tours_58 fd_M_faults fl_M_157 (Or.inl rfl) rfl rfl (ks_M_0 hx) (kl_M_0 hx) ?_
    refine z_if_ne (tgt := 77) d_M_tours_61 (by decide) (fun c2 => ?_) (fun c2 => ?_)
    · have h := h.2 c2
      refine z_aload_n (i := 0) (c := 0) 0 d_M_tours_77 rfl rfl rfl ?_
      refine z_geti (c := 0) (kI := 17) d_M_tours_78 fd_M_faults fl_M_157 (Or.inl rfl) rfl rfl (ks_M_0 hx) (kl_M_0 hx) ?_
      refine z_if_ne (tgt := 132) d_M_tours_81 (by decide) (fun _ => ?_) (fun c => absurd c c2)
      refine z_aload_n (i := 0) (c := 0) 0 d_M_tours_132 rfl rfl rfl ?_
      refine z_aload_n (i := 0) (c := 0) 0 d_M_tours_133 rfl rfl rfl ?_
      refine z_geti (c := 0) (kI := 21) d_M_tours_134 fd_M_counted fl_M_228 (Or.inl rfl) rfl rfl (ks_M_0 hx) (kl_M_0 hx) ?_
      refine z_cV (c := 0) (as := [(0, g 0 21)]) (d' := 2) (st := []) d_M_tours_137 mi_M_taken ml_M_216 mv_M_taken se_M_taken rfl rfl rfl rfl (ks_M_0 hx) rfl rfl (kl_M_0 hx) rfl rfl (z_Omono h (fun r0 g0 _ h hro => ?_))
      show z_U X 13 m_M_tours 140 [(0, (2, 0)), (2, (0, x2))] [(0, r0)] N σ g0 Q
      exact z_iret d_M_tours_140 rfl (by decide) (by decide) ⟨rfl, rfl, h⟩
    · have h := h.1 c2
      refine z_aload_n (i := 0) (c := 0) 0 d_M_tours_64 rfl rfl rfl ?_
      refine z_geti (c := 0) (kI := 20) d_M_tours_65 fd_M_depth fl_M_225 (Or.inl rfl) rfl rfl (ks_M_0 hx) (kl_M_0 hx) ?_
      refine z_if_le (tgt := 77) d_M_tours_68 (by decide) (fun c3 => ?_) (fun c3 => ?_)
      · have h := h.1 c3
        refine z_aload_n (i := 0) (c := 0) 0 d_M_tours_77 rfl rfl rfl ?_
        refine z_geti (c := 0) (kI := 17) d_M_tours_78 fd_M_faults fl_M_157 (Or.inl rfl) rfl rfl (ks_M_0 hx) (kl_M_0 hx) ?_
        refine z_if_ne (tgt := 132) d_M_tours_81 (by decide) (fun c => absurd c2 c) (fun _ => ?_)
        refine z_aload_n (i := 0) (c := 0) 0 d_M_tours_84 rfl rfl rfl ?_
        refine z_getr (c := 0) (kI := 0) (r2 := 1) d_M_tours_85 fd_M_at fl_M_7 rfl rfl rfl (ks_M_0 hx) (kl_M_0 hx) (kr_M_0_0 hx) ?_
        refine z_bipush (n := 6) d_M_tours_88 (by decide) (by decide) ?_
        refine z_aload_n (i := 0) (c := 0) 0 d_M_tours_90 rfl rfl rfl ?_
        refine z_getr (c := 0) (kI := 0) (r2 := 1) d_M_tours_91 fd_M_at fl_M_7 rfl rfl rfl (ks_M_0 hx) (kl_M_0 hx) (kr_M_0_0 hx) ?_
        refine z_sipush (n := 2446) d_M_tours_94 (by decide) (by decide) ?_
        refine z_iald (c := 1) (m := 3296) d_M_tours_97 rfl (ks_M_1 hx) (kl_M_1 hx) rfl (by decide) (by decide) ?_
        refine z_iast (c := 1) (m := 3296) d_M_tours_98 rfl (ks_M_1 hx) (kl_M_1 hx) rfl (by decide) (by decide) ?_
        refine z_sipush (n := 246) d_M_tours_99 (by decide) (by decide) ?_
        refine z_istore_n (i := 3) (ls' := [(3, (0, 246)), (0, (2, 0)), (2, (0, x2))]) d_M_tours_102 rfl rfl rfl ?_
        refine z_sub (ls' := [(0, (2, 0)), (3, (0, 246))]) [1, 0] rfl ?_
        exact h
      · have h := h.2 c3
        refine z_aload_n (i := 0) (c := 0) 0 d_M_tours_71 rfl rfl rfl ?_
        refine z_iconst (n := 2) d_M_tours_72 (by decide) ?_
        refine z_cV (c := 0) (as := [(0, 2)]) (d' := 1) (st := []) d_M_tours_73 mi_M_fails ml_M_166 mv_M_fails se_M_fails rfl rfl rfl rfl (ks_M_0 hx) rfl rfl (kl_M_0 hx) rfl rfl (z_Omono h (fun r1 g1 _ h hro => ?_))
        have h := h (z_b01 hro)
        have hzr1 := z_b01 hro
        show z_U X 13 m_M_tours 76 [(0, (2, 0)), (2, (0, x2))] [(0, r1)] N σ g1 Q
        refine z_pop d_M_tours_76 rfl ?_
        refine z_aload_n (i := 0) (c := 0) 0 d_M_tours_77 rfl rfl rfl ?_
        refine z_geti (c := 0) (kI := 17) d_M_tours_78 fd_M_faults fl_M_157 (Or.inl rfl) rfl rfl (ks_M_0 hx) (kl_M_0 hx) ?_
        refine z_if_ne (tgt := 132) d_M_tours_81 (by decide) (fun c4 => ?_) (fun c4 => ?_)
        · have h := h.2 c4
          refine z_aload_n (i := 0) (c := 0) 0 d_M_tours_132 rfl rfl rfl ?_
          refine z_aload_n (i := 0) (c := 0) 0 d_M_tours_133 rfl rfl rfl ?_
          refine z_geti (c := 0) (kI := 21) d_M_tours_134 fd_M_counted fl_M_228 (Or.inl rfl) rfl rfl (ks_M_0 hx) (kl_M_0 hx) ?_
          refine z_cV (c := 0) (as := [(0, g1 0 21)]) (d' := 2) (st := []) d_M_tours_137 mi_M_taken ml_M_216 mv_M_taken se_M_taken rfl rfl rfl rfl (ks_M_0 hx) rfl rfl (kl_M_0 hx) rfl rfl (z_Omono h (fun r2 g2 _ h hro => ?_))
          show z_U X 13 m_M_tours 140 [(0, (2, 0)), (2, (0, x2))] [(0, r2)] N σ g2 Q
          exact z_iret d_M_tours_140 rfl (by decide) (by decide) ⟨rfl, rfl, h⟩
        · have h := h.1 c4
          refine z_aload_n (i := 0) (c := 0) 0 d_M_tours_84 rfl rfl rfl ?_
          refine z_getr (c := 0) (kI := 0) (r2 := 1) d_M_tours_85 fd_M_at fl_M_7 rfl rfl rfl (ks_M_0 hx) (kl_M_0 hx) (kr_M_0_0 hx) ?_
          refine z_bipush (n := 6) d_M_tours_88 (by decide) (by decide) ?_
          refine z_aload_n (i := 0) (c := 0) 0 d_M_tours_90 rfl rfl rfl ?_
          refine z_getr (c := 0) (kI := 0) (r2 := 1) d_M_tours_91 fd_M_at fl_M_7 rfl rfl rfl (ks_M_0 hx) (kl_M_0 hx) (kr_M_0_0 hx) ?_
          refine z_sipush (n := 2446) d_M_tours_94 (by decide) (by decide) ?_
          refine z_iald (c := 1) (m := 3296) d_M_tours_97 rfl (ks_M_1 hx) (kl_M_1 hx) rfl (by decide) (by decide) ?_
          refine z_iast (c := 1) (m := 3296) d_M_tours_98 rfl (ks_M_1 hx) (kl_M_1 hx) rfl (by decide) (by decide) ?_
          refine z_sipush (n := 246) d_M_tours_99 (by decide) (by decide) ?_
          refine z_istore_n (i := 3) (ls' := [(3, (0, 246)), (0, (2, 0)), (2, (0, x2))]) d_M_tours_102 rfl rfl rfl ?_
          refine z_sub (ls' := [(0, (2, 0)), (3, (0, 246))]) [1, 0] rfl ?_
          exact h
  · have h := h.2 c1
    refine z_aload_n (i := 0) (c := 0) 0 d_M_tours_42 rfl rfl rfl ?_
    refine z_geti (c := 0) (kI := 11) d_M_tours_43 fd_M_token fl_M_132 (Or.inl rfl) rfl rfl (ks_M_0 hx) (kl_M_0 hx) ?_
    refine z_if_eq (tgt := 57) d_M_tours_46 (by decide) (fun c5 => ?_) (fun c5 => ?_)
    · have h := h.1 c5
      refine z_aload_n (i := 0) (c := 0) 0 d_M_tours_57 rfl rfl rfl ?_
      refine z_geti (c := 0) (kI := 17) d_M_tours_58 fd_M_faults fl_M_157 (Or.inl rfl) rfl rfl (ks_M_0 hx) (kl_M_0 hx) ?_
      refine z_if_ne (tgt := 77) d_M_tours_61 (by decide) (fun c6 => ?_) (fun c6 => ?_)
      · have h := h.2 c6
        refine z_aload_n (i := 0) (c := 0) 0 d_M_tours_77 rfl rfl rfl ?_
        refine z_geti (c := 0) (kI := 17) d_M_tours_78 fd_M_faults fl_M_157 (Or.inl rfl) rfl rfl (ks_M_0 hx) (kl_M_0 hx) ?_
        refine z_if_ne (tgt := 132) d_M_tours_81 (by decide) (fun _ => ?_) (fun c => absurd c c6)
        refine z_aload_n (i := 0) (c := 0) 0 d_M_tours_132 rfl rfl rfl ?_
        refine z_aload_n (i := 0) (c := 0) 0 d_M_tours_133 rfl rfl rfl ?_
        refine z_geti (c := 0) (kI := 21) d_M_tours_134 fd_M_counted fl_M_228 (Or.inl rfl) rfl rfl (ks_M_0 hx) (kl_M_0 hx) ?_
        refine z_cV (c := 0) (as := [(0, g 0 21)]) (d' := 2) (st := []) d_M_tours_137 mi_M_taken ml_M_216 mv_M_taken se_M_taken rfl rfl rfl rfl (ks_M_0 hx) rfl rfl (kl_M_0 hx) rfl rfl (z_Omono h (fun r3 g3 _ h hro => ?_))
        show z_U X 13 m_M_tours 140 [(0, (2, 0)), (2, (0, x2))] [(0, r3)] N σ g3 Q
        exact z_iret d_M_tours_140 rfl (by decide) (by decide) ⟨rfl, rfl, h⟩
      · have h := h.1 c6
        refine z_aload_n (i := 0) (c := 0) 0 d_M_tours_64 rfl rfl rfl ?_
        refine z_geti (c := 0) (kI := 20) d_M_tours_65 fd_M_depth fl_M_225 (Or.inl rfl) rfl rfl (ks_M_0 hx) (kl_M_0 hx) ?_
        refine z_if_le (tgt := 77) d_M_tours_68 (by decide) (fun c7 => ?_) (fun c7 => ?_)
        · have h := h.1 c7
          refine z_aload_n (i := 0) (c := 0) 0 d_M_tours_77 rfl rfl rfl ?_
          refine z_geti (c := 0) (kI := 17) d_M_tours_78 fd_M_faults fl_M_157 (Or.inl rfl) rfl rfl (ks_M_0 hx) (kl_M_0 hx) ?_
          refine z_if_ne (tgt := 132) d_M_tours_81 (by decide) (fun c => absurd c6 c) (fun _ => ?_)
          refine z_aload_n (i := 0) (c := 0) 0 d_M_tours_84 rfl rfl rfl ?_
          refine z_getr (c := 0) (kI := 0) (r2 := 1) d_M_tours_85 fd_M_at fl_M_7 rfl rfl rfl (ks_M_0 hx) (kl_M_0 hx) (kr_M_0_0 hx) ?_
          refine z_bipush (n := 6) d_M_tours_88 (by decide) (by decide) ?_
          refine z_aload_n (i := 0) (c := 0) 0 d_M_tours_90 rfl rfl rfl ?_
          refine z_getr (c := 0) (kI := 0) (r2 := 1) d_M_tours_91 fd_M_at fl_M_7 rfl rfl rfl (ks_M_0 hx) (kl_M_0 hx) (kr_M_0_0 hx) ?_
          refine z_sipush (n := 2446) d_M_tours_94 (by decide) (by decide) ?_
          refine z_iald (c := 1) (m := 3296) d_M_tours_97 rfl (ks_M_1 hx) (kl_M_1 hx) rfl (by decide) (by decide) ?_
          refine z_iast (c := 1) (m := 3296) d_M_tours_98 rfl (ks_M_1 hx) (kl_M_1 hx) rfl (by decide) (by decide) ?_
          refine z_sipush (n := 246) d_M_tours_99 (by decide) (by decide) ?_
          refine z_istore_n (i := 3) (ls' := [(3, (0, 246)), (0, (2, 0)), (2, (0, x2))]) d_M_tours_102 rfl rfl rfl ?_
          refine z_sub (ls' := [(0, (2, 0)), (3, (0, 246))]) [1, 0] rfl ?_
          exact h
        · have h := h.2 c7
          refine z_aload_n (i := 0) (c := 0) 0 d_M_tours_71 rfl rfl rfl ?_
          refine z_iconst (n := 2) d_M_tours_72 (by decide) ?_
          refine z_cV (c := 0) (as := [(0, 2)]) (d' := 1) (st := []) d_M_tours_73 mi_M_fails ml_M_166 mv_M_fails se_M_fails rfl rfl rfl rfl (ks_M_0 hx) rfl rfl (kl_M_0 hx) rfl rfl (z_Omono h (fun r4 g4 _ h hro => ?_))
          have h := h (z_b01 hro)
          have hzr4 := z_b01 hro
          show z_U X 13 m_M_tours 76 [(0, (2, 0)), (2, (0, x2))] [(0, r4)] N σ g4 Q
          refine z_pop d_M_tours_76 rfl ?_
          refine z_aload_n (i := 0) (c := 0) 0 d_M_tours_77 rfl rfl rfl ?_
          refine z_geti (c := 0) (kI := 17) d_M_tours_78 fd_M_faults fl_M_157 (Or.inl rfl) rfl rfl (ks_M_0 hx) (kl_M_0 hx) ?_
          refine z_if_ne (tgt := 132) d_M_tours_81 (by decide) (fun c8 => ?_) (fun c8 => ?_)
          · have h := h.2 c8
            refine z_aload_n (i := 0) (c := 0) 0 d_M_tours_132 rfl rfl rfl ?_
            refine z_aload_n (i := 0) (c := 0) 0 d_M_tours_133 rfl rfl rfl ?_
            refine z_geti (c := 0) (kI := 21) d_M_tours_134 fd_M_counted fl_M_228 (Or.inl rfl) rfl rfl (ks_M_0 hx) (kl_M_0 hx) ?_
            refine z_cV (c := 0) (as := [(0, g4 0 21)]) (d' := 2) (st := []) d_M_tours_137 mi_M_taken ml_M_216 mv_M_taken se_M_taken rfl rfl rfl rfl (ks_M_0 hx) rfl rfl (kl_M_0 hx) rfl rfl (z_Omono h (fun r5 g5 _ h hro => ?_))
            show z_U X 13 m_M_tours 140 [(0, (2, 0)), (2, (0, x2))] [(0, r5)] N σ g5 Q
            exact z_iret d_M_tours_140 rfl (by decide) (by decide) ⟨rfl, rfl, h⟩
          · have h := h.1 c8
            refine z_aload_n (i := 0) (c := 0) 0 d_M_tours_84 rfl rfl rfl ?_
            refine z_getr (c := 0) (kI := 0) (r2 := 1) d_M_tours_85 fd_M_at fl_M_7 rfl rfl rfl (ks_M_0 hx) (kl_M_0 hx) (kr_M_0_0 hx) ?_
            refine z_bipush (n := 6) d_M_tours_88 (by decide) (by decide) ?_
            refine z_aload_n (i := 0) (c := 0) 0 d_M_tours_90 rfl rfl rfl ?_
            refine z_getr (c := 0) (kI := 0) (r2 := 1) d_M_tours_91 fd_M_at fl_M_7 rfl rfl rfl (ks_M_0 hx) (kl_M_0 hx) (kr_M_0_0 hx) ?_
            refine z_sipush (n := 2446) d_M_tours_94 (by decide) (by decide) ?_
            refine z_iald (c := 1) (m := 3296) d_M_tours_97 rfl (ks_M_1 hx) (kl_M_1 hx) rfl (by decide) (by decide) ?_
            refine z_iast (c := 1) (m := 3296) d_M_tours_98 rfl (ks_M_1 hx) (kl_M_1 hx) rfl (by decide) (by decide) ?_
            refine z_sipush (n := 246) d_M_tours_99 (by decide) (by decide) ?_
            refine z_istore_n (i := 3) (ls' := [(3, (0, 246)), (0, (2, 0)), (2, (0, x2))]) d_M_tours_102 rfl rfl rfl ?_
            refine z_sub (ls' := [(0, (2, 0)), (3, (0, 246))]) [1, 0] rfl ?_
            exact h
    · have h := h.2 c5
      refine z_aload_n (i := 0) (c := 0) 0 d_M_tours_49 rfl rfl rfl ?_
      refine z_cV (c := 0) (as := []) (d' := 12) (st := []) d_M_tours_50 mi_M_tourStep ml_M_234 mv_M_tourStep se_M_tourStep rfl rfl rfl rfl (ks_M_0 hx) rfl rfl (kl_M_0 hx) rfl rfl (z_Omono h (fun r6 g6 _ h hro => ?_))
      have h := h (z_b01 hro)
      have hzr6 := z_b01 hro
      show z_U X 13 m_M_tours 53 [(0, (2, 0)), (2, (0, x2))] [(0, r6)] N σ g6 Q
      refine z_istore_n (i := 2) (ls' := [(2, (0, r6)), (0, (2, 0))]) d_M_tours_53 rfl rfl rfl ?_
      refine z_goto (tgt := 38) d_M_tours_54 (by decide) ?_
      refine z_sub (ls' := [(0, (2, 0)), (2, (0, r6))]) [1, 0] rfl ?_
      exact h
set_option maxRecDepth 8000 in
theorem b_M_tours_103 {X : z_X} {N : Nat} {σ g : z_G} {Q : z_P} {x3 : Int} (hx : z_lay X N σ 0 z_SM z_RM) (h : ((606 ≤ x3) → (z_O X 2 m_M_taken [(2, 0), (0, g 0 21)] N σ g (fun r0 g0 => Q r0 g0))) ∧ (¬ (606 ≤ x3) → ((-2147483648 ≤ (2440 + x3) ∧ (2440 + x3) ≤ 2147483647) ∧ ((0 ≤ (2440 + x3) ∧ (2440 + x3) < 3296) ∧ ((0 ≤ x3 ∧ x3 < 3296) ∧ ((-2147483648 ≤ (x3 + 1) ∧ (x3 + 1) ≤ 2147483647) ∧ L_M_tours_103 X N σ (x3 + 1) (z_up g 1 x3 (g 1 (2440 + x3))) Q)))))) : L_M_tours_103 X N σ x3 g Q := by
  refine z_iload_n (i := 3) 1 d_M_tours_103 rfl rfl ?_
  refine z_sipush (n := 606) d_M_tours_104 (by decide) (by decide) ?_
  refine z_icmp_ge (tgt := 132) d_M_tours_107 (by decide) (fun c1 => ?_) (fun c1 => ?_)
  · have h := h.1 c1
    refine z_aload_n (i := 0) (c := 0) 0 d_M_tours_132 rfl rfl rfl ?_
    refine z_aload_n (i := 0) (c := 0) 0 d_M_tours_133 rfl rfl rfl ?_
    refine z_geti (c := 0) (kI := 21) d_M_tours_134 fd_M_counted fl_M_228 (Or.inl rfl) rfl rfl (ks_M_0 hx) (kl_M_0 hx) ?_
    refine z_cV (c := 0) (as := [(0, g 0 21)]) (d' := 2) (st := []) d_M_tours_137 mi_M_taken ml_M_216 mv_M_taken se_M_taken rfl rfl rfl rfl (ks_M_0 hx) rfl rfl (kl_M_0 hx) rfl rfl (z_Omono h (fun r0 g0 _ h hro => ?_))
    show z_U X 13 m_M_tours 140 [(0, (2, 0)), (3, (0, x3))] [(0, r0)] N σ g0 Q
    exact z_iret d_M_tours_140 rfl (by decide) (by decide) ⟨rfl, rfl, h⟩
  · have h := h.2 c1
    refine z_aload_n (i := 0) (c := 0) 0 d_M_tours_110 rfl rfl rfl ?_
    refine z_getr (c := 0) (kI := 0) (r2 := 1) d_M_tours_111 fd_M_at fl_M_7 rfl rfl rfl (ks_M_0 hx) (kl_M_0 hx) (kr_M_0_0 hx) ?_
    refine z_iload_n (i := 3) 1 d_M_tours_114 rfl rfl ?_
    refine z_aload_n (i := 0) (c := 0) 0 d_M_tours_115 rfl rfl rfl ?_
    refine z_getr (c := 0) (kI := 0) (r2 := 1) d_M_tours_116 fd_M_at fl_M_7 rfl rfl rfl (ks_M_0 hx) (kl_M_0 hx) (kr_M_0_0 hx) ?_
    refine z_sipush (n := 2440) d_M_tours_119 (by decide) (by decide) ?_
    refine z_iload_n (i := 3) 1 d_M_tours_122 rfl rfl ?_
    obtain ⟨c2, h⟩ := h
    refine z_iadd d_M_tours_123 c2 ?_
    obtain ⟨c3, h⟩ := h
    refine z_iald (c := 1) (m := 3296) d_M_tours_124 rfl (ks_M_1 hx) (kl_M_1 hx) rfl (by decide) c3 ?_
    obtain ⟨c4, h⟩ := h
    refine z_iast (c := 1) (m := 3296) d_M_tours_125 rfl (ks_M_1 hx) (kl_M_1 hx) rfl (by decide) c4 ?_
    obtain ⟨c5, h⟩ := h
    refine z_iinc (n := 1) (ls' := [(3, (0, x3 + 1)), (0, (2, 0))]) 1 d_M_tours_126 rfl c5 rfl rfl ?_
    refine z_goto (tgt := 103) d_M_tours_129 (by decide) ?_
    refine z_sub (ls' := [(0, (2, 0)), (3, (0, x3 + 1))]) [1, 0] rfl ?_
    exact h

theorem d_Ta_advance_0 : decode (z_c m_Ta_advance) 0 = .ok (.aload_n 0, 1) := by decide +kernel
theorem d_Ta_advance_1 : decode (z_c m_Ta_advance) 1 = .ok (.aload_n 0, 1) := by decide +kernel
theorem d_Ta_advance_2 : decode (z_c m_Ta_advance) 2 = .ok (.getfield 31, 3) := by decide +kernel
theorem d_Ta_advance_5 : decode (z_c m_Ta_advance) 5 = .ok (.putfield 43, 3) := by decide +kernel
theorem d_Ta_advance_8 : decode (z_c m_Ta_advance) 8 = .ok (.aload_n 0, 1) := by decide +kernel
theorem d_Ta_advance_9 : decode (z_c m_Ta_advance) 9 = .ok (.getfield 43, 3) := by decide +kernel
theorem d_Ta_advance_12 : decode (z_c m_Ta_advance) 12 = .ok (.aload_n 0, 1) := by decide +kernel
theorem d_Ta_advance_13 : decode (z_c m_Ta_advance) 13 = .ok (.getfield 28, 3) := by decide +kernel
theorem d_Ta_advance_16 : decode (z_c m_Ta_advance) 16 = .ok (.if_icmp .ge 32, 3) := by decide +kernel
theorem d_Ta_advance_19 : decode (z_c m_Ta_advance) 19 = .ok (.aload_n 0, 1) := by decide +kernel
theorem d_Ta_advance_20 : decode (z_c m_Ta_advance) 20 = .ok (.getfield 9, 3) := by decide +kernel
theorem d_Ta_advance_23 : decode (z_c m_Ta_advance) 23 = .ok (.aload_n 0, 1) := by decide +kernel
theorem d_Ta_advance_24 : decode (z_c m_Ta_advance) 24 = .ok (.getfield 43, 3) := by decide +kernel
theorem d_Ta_advance_27 : decode (z_c m_Ta_advance) 27 = .ok (.caload, 1) := by decide +kernel
theorem d_Ta_advance_28 : decode (z_c m_Ta_advance) 28 = .ok (.invokestatic 46, 3) := by decide +kernel
theorem d_Ta_advance_31 : decode (z_c m_Ta_advance) 31 = .ok (.iconst 5, 1) := by decide +kernel
theorem d_Ta_advance_32 : decode (z_c m_Ta_advance) 32 = .ok (.if_icmp .ne 16, 3) := by decide +kernel
theorem d_Ta_advance_35 : decode (z_c m_Ta_advance) 35 = .ok (.aload_n 0, 1) := by decide +kernel
theorem d_Ta_advance_36 : decode (z_c m_Ta_advance) 36 = .ok (.dup, 1) := by decide +kernel
theorem d_Ta_advance_37 : decode (z_c m_Ta_advance) 37 = .ok (.getfield 43, 3) := by decide +kernel
theorem d_Ta_advance_40 : decode (z_c m_Ta_advance) 40 = .ok (.iconst 1, 1) := by decide +kernel
theorem d_Ta_advance_41 : decode (z_c m_Ta_advance) 41 = .ok (.iadd, 1) := by decide +kernel
theorem d_Ta_advance_42 : decode (z_c m_Ta_advance) 42 = .ok (.putfield 43, 3) := by decide +kernel
theorem d_Ta_advance_45 : decode (z_c m_Ta_advance) 45 = .ok (.goto (-37), 3) := by decide +kernel
theorem d_Ta_advance_48 : decode (z_c m_Ta_advance) 48 = .ok (.aload_n 0, 1) := by decide +kernel
theorem d_Ta_advance_49 : decode (z_c m_Ta_advance) 49 = .ok (.aload_n 0, 1) := by decide +kernel
theorem d_Ta_advance_50 : decode (z_c m_Ta_advance) 50 = .ok (.getfield 43, 3) := by decide +kernel
theorem d_Ta_advance_53 : decode (z_c m_Ta_advance) 53 = .ok (.putfield 31, 3) := by decide +kernel
theorem d_Ta_advance_56 : decode (z_c m_Ta_advance) 56 = .ok (.aload_n 0, 1) := by decide +kernel
theorem d_Ta_advance_57 : decode (z_c m_Ta_advance) 57 = .ok (.aload_n 0, 1) := by decide +kernel
theorem d_Ta_advance_58 : decode (z_c m_Ta_advance) 58 = .ok (.getfield 43, 3) := by decide +kernel
theorem d_Ta_advance_61 : decode (z_c m_Ta_advance) 61 = .ok (.aload_n 0, 1) := by decide +kernel
theorem d_Ta_advance_62 : decode (z_c m_Ta_advance) 62 = .ok (.getfield 28, 3) := by decide +kernel
theorem d_Ta_advance_65 : decode (z_c m_Ta_advance) 65 = .ok (.if_icmp .ge 18, 3) := by decide +kernel
theorem d_Ta_advance_68 : decode (z_c m_Ta_advance) 68 = .ok (.aload_n 0, 1) := by decide +kernel
theorem d_Ta_advance_69 : decode (z_c m_Ta_advance) 69 = .ok (.getfield 9, 3) := by decide +kernel
theorem d_Ta_advance_72 : decode (z_c m_Ta_advance) 72 = .ok (.aload_n 0, 1) := by decide +kernel
theorem d_Ta_advance_73 : decode (z_c m_Ta_advance) 73 = .ok (.getfield 43, 3) := by decide +kernel
theorem d_Ta_advance_76 : decode (z_c m_Ta_advance) 76 = .ok (.caload, 1) := by decide +kernel
theorem d_Ta_advance_77 : decode (z_c m_Ta_advance) 77 = .ok (.invokestatic 46, 3) := by decide +kernel
theorem d_Ta_advance_80 : decode (z_c m_Ta_advance) 80 = .ok (.goto 4, 3) := by decide +kernel
theorem d_Ta_advance_83 : decode (z_c m_Ta_advance) 83 = .ok (.iconst 0, 1) := by decide +kernel
theorem d_Ta_advance_84 : decode (z_c m_Ta_advance) 84 = .ok (.putfield 50, 3) := by decide +kernel
theorem d_Ta_advance_87 : decode (z_c m_Ta_advance) 87 = .ok (.aload_n 0, 1) := by decide +kernel
theorem d_Ta_advance_88 : decode (z_c m_Ta_advance) 88 = .ok (.iconst 0, 1) := by decide +kernel
theorem d_Ta_advance_89 : decode (z_c m_Ta_advance) 89 = .ok (.putfield 53, 3) := by decide +kernel
theorem d_Ta_advance_92 : decode (z_c m_Ta_advance) 92 = .ok (.aload_n 0, 1) := by decide +kernel
theorem d_Ta_advance_93 : decode (z_c m_Ta_advance) 93 = .ok (.getfield 43, 3) := by decide +kernel
theorem d_Ta_advance_96 : decode (z_c m_Ta_advance) 96 = .ok (.aload_n 0, 1) := by decide +kernel
theorem d_Ta_advance_97 : decode (z_c m_Ta_advance) 97 = .ok (.getfield 28, 3) := by decide +kernel
theorem d_Ta_advance_100 : decode (z_c m_Ta_advance) 100 = .ok (.if_icmp .ge 7, 3) := by decide +kernel
theorem d_Ta_advance_103 : decode (z_c m_Ta_advance) 103 = .ok (.iconst 1, 1) := by decide +kernel
theorem d_Ta_advance_104 : decode (z_c m_Ta_advance) 104 = .ok (.goto 4, 3) := by decide +kernel
theorem d_Ta_advance_107 : decode (z_c m_Ta_advance) 107 = .ok (.iconst 0, 1) := by decide +kernel
theorem d_Ta_advance_108 : decode (z_c m_Ta_advance) 108 = .ok (.istore_n 1, 1) := by decide +kernel
theorem d_Ta_advance_109 : decode (z_c m_Ta_advance) 109 = .ok (.iload_n 1, 1) := by decide +kernel
theorem d_Ta_advance_110 : decode (z_c m_Ta_advance) 110 = .ok (.ifCond .eq 124, 3) := by decide +kernel
theorem d_Ta_advance_113 : decode (z_c m_Ta_advance) 113 = .ok (.aload_n 0, 1) := by decide +kernel
theorem d_Ta_advance_114 : decode (z_c m_Ta_advance) 114 = .ok (.getfield 31, 3) := by decide +kernel
theorem d_Ta_advance_117 : decode (z_c m_Ta_advance) 117 = .ok (.aload_n 0, 1) := by decide +kernel
theorem d_Ta_advance_118 : decode (z_c m_Ta_advance) 118 = .ok (.getfield 28, 3) := by decide +kernel
theorem d_Ta_advance_121 : decode (z_c m_Ta_advance) 121 = .ok (.if_icmp .ge 113, 3) := by decide +kernel
theorem d_Ta_advance_124 : decode (z_c m_Ta_advance) 124 = .ok (.aload_n 0, 1) := by decide +kernel
theorem d_Ta_advance_125 : decode (z_c m_Ta_advance) 125 = .ok (.getfield 50, 3) := by decide +kernel
theorem d_Ta_advance_128 : decode (z_c m_Ta_advance) 128 = .ok (.iconst 2, 1) := by decide +kernel
theorem d_Ta_advance_129 : decode (z_c m_Ta_advance) 129 = .ok (.if_icmp .ne 40, 3) := by decide +kernel
theorem d_Ta_advance_132 : decode (z_c m_Ta_advance) 132 = .ok (.aload_n 0, 1) := by decide +kernel
theorem d_Ta_advance_133 : decode (z_c m_Ta_advance) 133 = .ok (.getfield 31, 3) := by decide +kernel
theorem d_Ta_advance_136 : decode (z_c m_Ta_advance) 136 = .ok (.aload_n 0, 1) := by decide +kernel
theorem d_Ta_advance_137 : decode (z_c m_Ta_advance) 137 = .ok (.getfield 43, 3) := by decide +kernel
theorem d_Ta_advance_140 : decode (z_c m_Ta_advance) 140 = .ok (.isub, 1) := by decide +kernel
theorem d_Ta_advance_141 : decode (z_c m_Ta_advance) 141 = .ok (.iconst 4, 1) := by decide +kernel
theorem d_Ta_advance_142 : decode (z_c m_Ta_advance) 142 = .ok (.if_icmp .ge 27, 3) := by decide +kernel
theorem d_Ta_advance_145 : decode (z_c m_Ta_advance) 145 = .ok (.aload_n 0, 1) := by decide +kernel
theorem d_Ta_advance_146 : decode (z_c m_Ta_advance) 146 = .ok (.aload_n 0, 1) := by decide +kernel
theorem d_Ta_advance_147 : decode (z_c m_Ta_advance) 147 = .ok (.getfield 53, 3) := by decide +kernel
theorem d_Ta_advance_150 : decode (z_c m_Ta_advance) 150 = .ok (.bipush 10, 2) := by decide +kernel
theorem d_Ta_advance_152 : decode (z_c m_Ta_advance) 152 = .ok (.imul, 1) := by decide +kernel
theorem d_Ta_advance_153 : decode (z_c m_Ta_advance) 153 = .ok (.aload_n 0, 1) := by decide +kernel
theorem d_Ta_advance_154 : decode (z_c m_Ta_advance) 154 = .ok (.getfield 9, 3) := by decide +kernel
theorem d_Ta_advance_157 : decode (z_c m_Ta_advance) 157 = .ok (.aload_n 0, 1) := by decide +kernel
theorem d_Ta_advance_158 : decode (z_c m_Ta_advance) 158 = .ok (.getfield 31, 3) := by decide +kernel
theorem d_Ta_advance_161 : decode (z_c m_Ta_advance) 161 = .ok (.caload, 1) := by decide +kernel
theorem d_Ta_advance_162 : decode (z_c m_Ta_advance) 162 = .ok (.bipush 48, 2) := by decide +kernel
theorem d_Ta_advance_164 : decode (z_c m_Ta_advance) 164 = .ok (.isub, 1) := by decide +kernel
theorem d_Ta_advance_165 : decode (z_c m_Ta_advance) 165 = .ok (.iadd, 1) := by decide +kernel
theorem d_Ta_advance_166 : decode (z_c m_Ta_advance) 166 = .ok (.putfield 53, 3) := by decide +kernel
theorem d_Ta_advance_169 : decode (z_c m_Ta_advance) 169 = .ok (.aload_n 0, 1) := by decide +kernel
theorem d_Ta_advance_170 : decode (z_c m_Ta_advance) 170 = .ok (.dup, 1) := by decide +kernel
theorem d_Ta_advance_171 : decode (z_c m_Ta_advance) 171 = .ok (.getfield 31, 3) := by decide +kernel
theorem d_Ta_advance_174 : decode (z_c m_Ta_advance) 174 = .ok (.iconst 1, 1) := by decide +kernel
theorem d_Ta_advance_175 : decode (z_c m_Ta_advance) 175 = .ok (.iadd, 1) := by decide +kernel
theorem d_Ta_advance_176 : decode (z_c m_Ta_advance) 176 = .ok (.putfield 31, 3) := by decide +kernel
theorem d_Ta_advance_179 : decode (z_c m_Ta_advance) 179 = .ok (.aload_n 0, 1) := by decide +kernel
theorem d_Ta_advance_180 : decode (z_c m_Ta_advance) 180 = .ok (.getfield 50, 3) := by decide +kernel
theorem d_Ta_advance_183 : decode (z_c m_Ta_advance) 183 = .ok (.iconst 1, 1) := by decide +kernel
theorem d_Ta_advance_184 : decode (z_c m_Ta_advance) 184 = .ok (.if_icmp .eq 11, 3) := by decide +kernel
theorem d_Ta_advance_187 : decode (z_c m_Ta_advance) 187 = .ok (.aload_n 0, 1) := by decide +kernel
theorem d_Ta_advance_188 : decode (z_c m_Ta_advance) 188 = .ok (.getfield 50, 3) := by decide +kernel
theorem d_Ta_advance_191 : decode (z_c m_Ta_advance) 191 = .ok (.iconst 2, 1) := by decide +kernel
theorem d_Ta_advance_192 : decode (z_c m_Ta_advance) 192 = .ok (.if_icmp .ne 37, 3) := by decide +kernel
theorem d_Ta_advance_195 : decode (z_c m_Ta_advance) 195 = .ok (.aload_n 0, 1) := by decide +kernel
theorem d_Ta_advance_196 : decode (z_c m_Ta_advance) 196 = .ok (.getfield 31, 3) := by decide +kernel
theorem d_Ta_advance_199 : decode (z_c m_Ta_advance) 199 = .ok (.aload_n 0, 1) := by decide +kernel
theorem d_Ta_advance_200 : decode (z_c m_Ta_advance) 200 = .ok (.getfield 28, 3) := by decide +kernel
theorem d_Ta_advance_203 : decode (z_c m_Ta_advance) 203 = .ok (.if_icmp .ge 26, 3) := by decide +kernel
theorem d_Ta_advance_206 : decode (z_c m_Ta_advance) 206 = .ok (.aload_n 0, 1) := by decide +kernel
theorem d_Ta_advance_207 : decode (z_c m_Ta_advance) 207 = .ok (.getfield 9, 3) := by decide +kernel
theorem d_Ta_advance_210 : decode (z_c m_Ta_advance) 210 = .ok (.aload_n 0, 1) := by decide +kernel
theorem d_Ta_advance_211 : decode (z_c m_Ta_advance) 211 = .ok (.getfield 31, 3) := by decide +kernel
theorem d_Ta_advance_214 : decode (z_c m_Ta_advance) 214 = .ok (.caload, 1) := by decide +kernel
theorem d_Ta_advance_215 : decode (z_c m_Ta_advance) 215 = .ok (.invokestatic 46, 3) := by decide +kernel
theorem d_Ta_advance_218 : decode (z_c m_Ta_advance) 218 = .ok (.aload_n 0, 1) := by decide +kernel
theorem d_Ta_advance_219 : decode (z_c m_Ta_advance) 219 = .ok (.getfield 50, 3) := by decide +kernel
theorem d_Ta_advance_222 : decode (z_c m_Ta_advance) 222 = .ok (.if_icmp .ne 7, 3) := by decide +kernel
theorem d_Ta_advance_225 : decode (z_c m_Ta_advance) 225 = .ok (.iconst 1, 1) := by decide +kernel
theorem d_Ta_advance_226 : decode (z_c m_Ta_advance) 226 = .ok (.goto 4, 3) := by decide +kernel
theorem d_Ta_advance_229 : decode (z_c m_Ta_advance) 229 = .ok (.iconst 0, 1) := by decide +kernel
theorem d_Ta_advance_230 : decode (z_c m_Ta_advance) 230 = .ok (.istore_n 1, 1) := by decide +kernel
theorem d_Ta_advance_231 : decode (z_c m_Ta_advance) 231 = .ok (.goto (-122), 3) := by decide +kernel
theorem d_Ta_advance_234 : decode (z_c m_Ta_advance) 234 = .ok (.aload_n 0, 1) := by decide +kernel
theorem d_Ta_advance_235 : decode (z_c m_Ta_advance) 235 = .ok (.getfield 50, 3) := by decide +kernel
theorem d_Ta_advance_238 : decode (z_c m_Ta_advance) 238 = .ok (.iconst 2, 1) := by decide +kernel
theorem d_Ta_advance_239 : decode (z_c m_Ta_advance) 239 = .ok (.if_icmp .ne 21, 3) := by decide +kernel
theorem d_Ta_advance_242 : decode (z_c m_Ta_advance) 242 = .ok (.aload_n 0, 1) := by decide +kernel
theorem d_Ta_advance_243 : decode (z_c m_Ta_advance) 243 = .ok (.getfield 31, 3) := by decide +kernel
theorem d_Ta_advance_246 : decode (z_c m_Ta_advance) 246 = .ok (.aload_n 0, 1) := by decide +kernel
theorem d_Ta_advance_247 : decode (z_c m_Ta_advance) 247 = .ok (.getfield 43, 3) := by decide +kernel
theorem d_Ta_advance_250 : decode (z_c m_Ta_advance) 250 = .ok (.isub, 1) := by decide +kernel
theorem d_Ta_advance_251 : decode (z_c m_Ta_advance) 251 = .ok (.iconst 4, 1) := by decide +kernel
theorem d_Ta_advance_252 : decode (z_c m_Ta_advance) 252 = .ok (.if_icmp .le 8, 3) := by decide +kernel
theorem d_Ta_advance_255 : decode (z_c m_Ta_advance) 255 = .ok (.aload_n 0, 1) := by decide +kernel
theorem d_Ta_advance_256 : decode (z_c m_Ta_advance) 256 = .ok (.iconst 4, 1) := by decide +kernel
theorem d_Ta_advance_257 : decode (z_c m_Ta_advance) 257 = .ok (.putfield 50, 3) := by decide +kernel
theorem d_Ta_advance_260 : decode (z_c m_Ta_advance) 260 = .ok (.return_, 1) := by decide +kernel
abbrev L_Ta_advance_8 (X : z_X) (N : Nat) (σ : z_G) (g : z_G) (Q : z_P) : Prop := z_U X 2 m_Ta_advance 8 [(0, (2, 10))] [] N σ g Q
abbrev L_Ta_advance_109 (X : z_X) (N : Nat) (σ : z_G) (x1 : Int) (g : z_G) (Q : z_P) : Prop := z_U X 2 m_Ta_advance 109 [(0, (2, 10)), (1, (0, x1))] [] N σ g Q
set_option maxRecDepth 8000 in
theorem b_Ta_advance_0 {X : z_X} {N : Nat} {σ g : z_G} {Q : z_P} (hx : z_lay X N σ 0 z_SF z_RF) (h : L_Ta_advance_8 X N σ (z_up g 10 6 (g 10 3)) Q) : z_O X 2 m_Ta_advance [(2, 10)] N σ g Q := by
  refine z_Oenter mi_Ta_advance rfl (fun _ => ?_)
  show z_U X 2 m_Ta_advance 0 [(0, (2, 10))] [] N σ g Q
  refine z_aload_n (i := 0) (c := 10) 0 d_Ta_advance_0 rfl rfl rfl ?_
  refine z_aload_n (i := 0) (c := 10) 0 d_Ta_advance_1 rfl rfl rfl ?_
  refine z_geti (c := 10) (kI := 3) d_Ta_advance_2 fd_Ta_behind fl_Ta_31 (Or.inl rfl) rfl rfl (ks_F_10 hx) (kl_F_10 hx) ?_
  refine z_puti (c := 10) (kI := 6) d_Ta_advance_5 fd_Ta_at fl_Ta_43 pf_Ta_at rfl rfl rfl rfl (ks_F_10 hx) (kl_F_10 hx) ?_
  refine z_sub (ls' := [(0, (2, 10))]) [0] rfl ?_
  exact h
set_option maxRecDepth 8000 in
theorem b_Ta_advance_8 {X : z_X} {N : Nat} {σ g : z_G} {Q : z_P} (hx : z_lay X N σ 0 z_SF z_RF) (h : (((g 10 2) ≤ (g 10 6)) → L_Ta_advance_109 X N σ 0 (z_up (z_up (z_up g 10 3 (g 10 6)) 10 4 0) 10 5 0) Q) ∧ (¬ ((g 10 2) ≤ (g 10 6)) → ((0 ≤ (g 10 6) ∧ (g 10 6) < 900) ∧ (z_O X 1 m_Ta_sortOfSign [(0, g 11 (g 10 6))] N σ g (fun r0 g0 => (((r0 = 5) → ((-2147483648 ≤ ((g0 10 6) + 1) ∧ ((g0 10 6) + 1) ≤ 2147483647) ∧ L_Ta_advance_8 X N σ (z_up g0 10 6 ((g0 10 6) + 1)) Q)) ∧ (¬ (r0 = 5) → ((((g0 10 2) ≤ (g0 10 6)) → L_Ta_advance_109 X N σ 0 (z_up (z_up (z_up g0 10 3 (g0 10 6)) 10 4 0) 10 5 0) Q) ∧ (¬ ((g0 10 2) ≤ (g0 10 6)) → ((0 ≤ (g0 10 6) ∧ (g0 10 6) < 900) ∧ (z_O X 1 m_Ta_sortOfSign [(0, g0 11 (g0 10 6))] N σ (z_up g0 10 3 (g0 10 6)) (fun r1 g1 => ((((g1 10 2) ≤ (g1 10 6)) → L_Ta_advance_109 X N σ 0 (z_up (z_up g1 10 4 r1) 10 5 0) Q) ∧ (¬ ((g1 10 2) ≤ (g1 10 6)) → L_Ta_advance_109 X N σ 1 (z_up (z_up g1 10 4 r1) 10 5 0) Q)))))))))))))) : L_Ta_advance_8 X N σ g Q := by
  refine z_aload_n (i := 0) (c := 10) 0 d_Ta_advance_8 rfl rfl rfl ?_
  refine z_geti (c := 10) (kI := 6) d_Ta_advance_9 fd_Ta_at fl_Ta_43 (Or.inl rfl) rfl rfl (ks_F_10 hx) (kl_F_10 hx) ?_
  refine z_aload_n (i := 0) (c := 10) 0 d_Ta_advance_12 rfl rfl rfl ?_
  refine z_geti (c := 10) (kI := 2) d_Ta_advance_13 fd_Ta_length fl_Ta_28 (Or.inl rfl) rfl rfl (ks_F_10 hx) (kl_F_10 hx) ?_
  refine z_icmp_ge (tgt := 48) d_Ta_advance_16 (by decide) (fun c1 => ?_) (fun c1 => ?_)
  · have h := h.1 c1
    refine z_aload_n (i := 0) (c := 10) 0 d_Ta_advance_48 rfl rfl rfl ?_
    refine z_aload_n (i := 0) (c := 10) 0 d_Ta_advance_49 rfl rfl rfl ?_
    refine z_geti (c := 10) (kI := 6) d_Ta_advance_50 fd_Ta_at fl_Ta_43 (Or.inl rfl) rfl rfl (ks_F_10 hx) (kl_F_10 hx) ?_
    refine z_puti (c := 10) (kI := 3) d_Ta_advance_53 fd_Ta_behind fl_Ta_31 pf_Ta_behind rfl rfl rfl rfl (ks_F_10 hx) (kl_F_10 hx) ?_
    refine z_aload_n (i := 0) (c := 10) 0 d_Ta_advance_56 rfl rfl rfl ?_
    refine z_aload_n (i := 0) (c := 10) 0 d_Ta_advance_57 rfl rfl rfl ?_
    refine z_geti (c := 10) (kI := 6) d_Ta_advance_58 fd_Ta_at fl_Ta_43 (Or.inl rfl) rfl rfl (ks_F_10 hx) (kl_F_10 hx) ?_
    refine z_ti (b := g 10 6) (by simp [z_up]) ?_
    refine z_aload_n (i := 0) (c := 10) 0 d_Ta_advance_61 rfl rfl rfl ?_
    refine z_geti (c := 10) (kI := 2) d_Ta_advance_62 fd_Ta_length fl_Ta_28 (Or.inl rfl) rfl rfl (ks_F_10 hx) (kl_F_10 hx) ?_
    refine z_ti (b := g 10 2) (by simp [z_up]) ?_
    refine z_icmp_ge (tgt := 83) d_Ta_advance_65 (by decide) (fun _ => ?_) (fun c => absurd c1 c)
    refine z_iconst (n := 0) d_Ta_advance_83 (by decide) ?_
    refine z_puti (c := 10) (kI := 4) d_Ta_advance_84 fd_Ta_kind fl_Ta_50 pf_Ta_kind rfl rfl rfl rfl (ks_F_10 hx) (kl_F_10 hx) ?_
    refine z_aload_n (i := 0) (c := 10) 0 d_Ta_advance_87 rfl rfl rfl ?_
    refine z_iconst (n := 0) d_Ta_advance_88 (by decide) ?_
    refine z_puti (c := 10) (kI := 5) d_Ta_advance_89 fd_Ta_value fl_Ta_53 pf_Ta_value rfl rfl rfl rfl (ks_F_10 hx) (kl_F_10 hx) ?_
    refine z_aload_n (i := 0) (c := 10) 0 d_Ta_advance_92 rfl rfl rfl ?_
    refine z_geti (c := 10) (kI := 6) d_Ta_advance_93 fd_Ta_at fl_Ta_43 (Or.inl rfl) rfl rfl (ks_F_10 hx) (kl_F_10 hx) ?_
    refine z_ti (b := g 10 6) (by simp [z_up]) ?_
    refine z_aload_n (i := 0) (c := 10) 0 d_Ta_advance_96 rfl rfl rfl ?_
    refine z_geti (c := 10) (kI := 2) d_Ta_advance_97 fd_Ta_length fl_Ta_28 (Or.inl rfl) rfl rfl (ks_F_10 hx) (kl_F_10 hx) ?_
    refine z_ti (b := g 10 2) (by simp [z_up]) ?_
    refine z_icmp_ge (tgt := 107) d_Ta_advance_100 (by decide) (fun _ => ?_) (fun c => absurd c1 c)
    refine z_iconst (n := 0) d_Ta_advance_107 (by decide) ?_
    refine z_istore_n (i := 1) (ls' := [(1, (0, 0)), (0, (2, 10))]) d_Ta_advance_108 rfl rfl rfl ?_
    refine z_sub (ls' := [(0, (2, 10)), (1, (0, 0))]) [1, 0] rfl ?_
    exact h
  · have h := h.2 c1
    refine z_aload_n (i := 0) (c := 10) 0 d_Ta_advance_19 rfl rfl rfl ?_
    refine z_getr (c := 10) (kI := 0) (r2 := 11) d_Ta_advance_20 fd_Ta_text fl_Ta_9 rfl rfl rfl (ks_F_10 hx) (kl_F_10 hx) (kr_F_10_0 hx) ?_
    refine z_aload_n (i := 0) (c := 10) 0 d_Ta_advance_23 rfl rfl rfl ?_
    refine z_geti (c := 10) (kI := 6) d_Ta_advance_24 fd_Ta_at fl_Ta_43 (Or.inl rfl) rfl rfl (ks_F_10 hx) (kl_F_10 hx) ?_
    obtain ⟨c2, h⟩ := h
    refine z_cald (c := 11) (m := 900) d_Ta_advance_27 rfl (ks_F_11 hx) (kl_F_11 hx) rfl (by decide) c2 ?_
    refine z_cS (as := [(0, g 11 (g 10 6))]) (d' := 1) (st := []) d_Ta_advance_28 mi_Ta_sortOfSign ml_Ta_46 ms_Ta_sortOfSign rfl rfl rfl rfl rfl (z_Omono h (fun r0 g0 _ h hro => ?_))
    show z_U X 2 m_Ta_advance 31 [(0, (2, 10))] [(0, r0)] N σ g0 Q
    refine z_iconst (n := 5) d_Ta_advance_31 (by decide) ?_
    refine z_icmp_ne (tgt := 48) d_Ta_advance_32 (by decide) (fun c3 => ?_) (fun c3 => ?_)
    · have h := h.2 c3
      refine z_aload_n (i := 0) (c := 10) 0 d_Ta_advance_48 rfl rfl rfl ?_
      refine z_aload_n (i := 0) (c := 10) 0 d_Ta_advance_49 rfl rfl rfl ?_
      refine z_geti (c := 10) (kI := 6) d_Ta_advance_50 fd_Ta_at fl_Ta_43 (Or.inl rfl) rfl rfl (ks_F_10 hx) (kl_F_10 hx) ?_
      refine z_puti (c := 10) (kI := 3) d_Ta_advance_53 fd_Ta_behind fl_Ta_31 pf_Ta_behind rfl rfl rfl rfl (ks_F_10 hx) (kl_F_10 hx) ?_
      refine z_aload_n (i := 0) (c := 10) 0 d_Ta_advance_56 rfl rfl rfl ?_
      refine z_aload_n (i := 0) (c := 10) 0 d_Ta_advance_57 rfl rfl rfl ?_
      refine z_geti (c := 10) (kI := 6) d_Ta_advance_58 fd_Ta_at fl_Ta_43 (Or.inl rfl) rfl rfl (ks_F_10 hx) (kl_F_10 hx) ?_
      refine z_ti (b := g0 10 6) (by simp [z_up]) ?_
      refine z_aload_n (i := 0) (c := 10) 0 d_Ta_advance_61 rfl rfl rfl ?_
      refine z_geti (c := 10) (kI := 2) d_Ta_advance_62 fd_Ta_length fl_Ta_28 (Or.inl rfl) rfl rfl (ks_F_10 hx) (kl_F_10 hx) ?_
      refine z_ti (b := g0 10 2) (by simp [z_up]) ?_
      refine z_icmp_ge (tgt := 83) d_Ta_advance_65 (by decide) (fun c4 => ?_) (fun c4 => ?_)
      · have h := h.1 c4
        refine z_iconst (n := 0) d_Ta_advance_83 (by decide) ?_
        refine z_puti (c := 10) (kI := 4) d_Ta_advance_84 fd_Ta_kind fl_Ta_50 pf_Ta_kind rfl rfl rfl rfl (ks_F_10 hx) (kl_F_10 hx) ?_
        refine z_aload_n (i := 0) (c := 10) 0 d_Ta_advance_87 rfl rfl rfl ?_
        refine z_iconst (n := 0) d_Ta_advance_88 (by decide) ?_
        refine z_puti (c := 10) (kI := 5) d_Ta_advance_89 fd_Ta_value fl_Ta_53 pf_Ta_value rfl rfl rfl rfl (ks_F_10 hx) (kl_F_10 hx) ?_
        refine z_aload_n (i := 0) (c := 10) 0 d_Ta_advance_92 rfl rfl rfl ?_
        refine z_geti (c := 10) (kI := 6) d_Ta_advance_93 fd_Ta_at fl_Ta_43 (Or.inl rfl) rfl rfl (ks_F_10 hx) (kl_F_10 hx) ?_
        refine z_ti (b := g0 10 6) (by simp [z_up]) ?_
        refine z_aload_n (i := 0) (c := 10) 0 d_Ta_advance_96 rfl rfl rfl ?_
        refine z_geti (c := 10) (kI := 2) d_Ta_advance_97 fd_Ta_length fl_Ta_28 (Or.inl rfl) rfl rfl (ks_F_10 hx) (kl_F_10 hx) ?_
        refine z_ti (b := g0 10 2) (by simp [z_up]) ?_
        refine z_icmp_ge (tgt := 107) d_Ta_advance_100 (by decide) (fun _ => ?_) (fun c => absurd c4 c)
        refine z_iconst (n := 0) d_Ta_advance_107 (by decide) ?_
        refine z_istore_n (i := 1) (ls' := [(1, (0, 0)), (0, (2, 10))]) d_Ta_advance_108 rfl rfl rfl ?_
        refine z_sub (ls' := [(0, (2, 10)), (1, (0, 0))]) [1, 0] rfl ?_
        exact h
      · have h := h.2 c4
        refine z_aload_n (i := 0) (c := 10) 0 d_Ta_advance_68 rfl rfl rfl ?_
        refine z_getr (c := 10) (kI := 0) (r2 := 11) d_Ta_advance_69 fd_Ta_text fl_Ta_9 rfl rfl rfl (ks_F_10 hx) (kl_F_10 hx) (kr_F_10_0 hx) ?_
        refine z_aload_n (i := 0) (c := 10) 0 d_Ta_advance_72 rfl rfl rfl ?_
        refine z_geti (c := 10) (kI := 6) d_Ta_advance_73 fd_Ta_at fl_Ta_43 (Or.inl rfl) rfl rfl (ks_F_10 hx) (kl_F_10 hx) ?_
        refine z_ti (b := g0 10 6) (by simp [z_up]) ?_
        obtain ⟨c5, h⟩ := h
        refine z_cald (c := 11) (m := 900) d_Ta_advance_76 rfl (ks_F_11 hx) (kl_F_11 hx) rfl (by decide) c5 ?_
        refine z_ti (b := g0 11 (g0 10 6)) (by simp [z_up]) ?_
        refine z_cS (as := [(0, g0 11 (g0 10 6))]) (d' := 1) (st := [(2, 10)]) d_Ta_advance_77 mi_Ta_sortOfSign ml_Ta_46 ms_Ta_sortOfSign rfl rfl rfl rfl rfl (z_Omono h (fun r1 g1 _ h hro => ?_))
        show z_U X 2 m_Ta_advance 80 [(0, (2, 10))] [(0, r1), (2, 10)] N σ g1 Q
        refine z_goto (tgt := 84) d_Ta_advance_80 (by decide) ?_
        refine z_puti (c := 10) (kI := 4) d_Ta_advance_84 fd_Ta_kind fl_Ta_50 pf_Ta_kind rfl rfl rfl rfl (ks_F_10 hx) (kl_F_10 hx) ?_
        refine z_aload_n (i := 0) (c := 10) 0 d_Ta_advance_87 rfl rfl rfl ?_
        refine z_iconst (n := 0) d_Ta_advance_88 (by decide) ?_
        refine z_puti (c := 10) (kI := 5) d_Ta_advance_89 fd_Ta_value fl_Ta_53 pf_Ta_value rfl rfl rfl rfl (ks_F_10 hx) (kl_F_10 hx) ?_
        refine z_aload_n (i := 0) (c := 10) 0 d_Ta_advance_92 rfl rfl rfl ?_
        refine z_geti (c := 10) (kI := 6) d_Ta_advance_93 fd_Ta_at fl_Ta_43 (Or.inl rfl) rfl rfl (ks_F_10 hx) (kl_F_10 hx) ?_
        refine z_ti (b := g1 10 6) (by simp [z_up]) ?_
        refine z_aload_n (i := 0) (c := 10) 0 d_Ta_advance_96 rfl rfl rfl ?_
        refine z_geti (c := 10) (kI := 2) d_Ta_advance_97 fd_Ta_length fl_Ta_28 (Or.inl rfl) rfl rfl (ks_F_10 hx) (kl_F_10 hx) ?_
        refine z_ti (b := g1 10 2) (by simp [z_up]) ?_
        refine z_icmp_ge (tgt := 107) d_Ta_advance_100 (by decide) (fun c6 => ?_) (fun c6 => ?_)
        · have h := h.1 c6
          refine z_iconst (n := 0) d_Ta_advance_107 (by decide) ?_
          refine z_istore_n (i := 1) (ls' := [(1, (0, 0)), (0, (2, 10))]) d_Ta_advance_108 rfl rfl rfl ?_
          refine z_sub (ls' := [(0, (2, 10)), (1, (0, 0))]) [1, 0] rfl ?_
          exact h
        · have h := h.2 c6
          refine z_iconst (n := 1) d_Ta_advance_103 (by decide) ?_
          refine z_goto (tgt := 108) d_Ta_advance_104 (by decide) ?_
          refine z_istore_n (i := 1) (ls' := [(1, (0, 1)), (0, (2, 10))]) d_Ta_advance_108 rfl rfl rfl ?_
          refine z_sub (ls' := [(0, (2, 10)), (1, (0, 1))]) [1, 0] rfl ?_
          exact h
    · have h := h.1 c3
      refine z_aload_n (i := 0) (c := 10) 0 d_Ta_advance_35 rfl rfl rfl ?_
      refine z_dup d_Ta_advance_36 rfl ?_
      refine z_geti (c := 10) (kI := 6) d_Ta_advance_37 fd_Ta_at fl_Ta_43 (Or.inl rfl) rfl rfl (ks_F_10 hx) (kl_F_10 hx) ?_
      refine z_iconst (n := 1) d_Ta_advance_40 (by decide) ?_
      obtain ⟨c7, h⟩ := h
      refine z_iadd d_Ta_advance_41 c7 ?_
      refine z_puti (c := 10) (kI := 6) d_Ta_advance_42 fd_Ta_at fl_Ta_43 pf_Ta_at rfl rfl rfl rfl (ks_F_10 hx) (kl_F_10 hx) ?_
      refine z_goto (tgt := 8) d_Ta_advance_45 (by decide) ?_
      refine z_sub (ls' := [(0, (2, 10))]) [0] rfl ?_
      exact h
set_option maxRecDepth 8000 in
theorem b_Ta_advance_109 {X : z_X} {N : Nat} {σ g : z_G} {Q : z_P} {x1 : Int} (hx : z_lay X N σ 0 z_SF z_RF) (h : ((x1 = 0) → ((((g 10 4) = 2) → ((-2147483648 ≤ ((g 10 3) - (g 10 6)) ∧ ((g 10 3) - (g 10 6)) ≤ 2147483647) ∧ (((((g 10 3) - (g 10 6)) ≤ 4) → Q 0 g) ∧ (¬ (((g 10 3) - (g 10 6)) ≤ 4) → Q 0 (z_up g 10 4 4))))) ∧ (¬ ((g 10 4) = 2) → Q 0 g))) ∧ (¬ (x1 = 0) → ((((g 10 2) ≤ (g 10 3)) → ((((g 10 4) = 2) → ((-2147483648 ≤ ((g 10 3) - (g 10 6)) ∧ ((g 10 3) - (g 10 6)) ≤ 2147483647) ∧ (((((g 10 3) - (g 10 6)) ≤ 4) → Q 0 g) ∧ (¬ (((g 10 3) - (g 10 6)) ≤ 4) → Q 0 (z_up g 10 4 4))))) ∧ (¬ ((g 10 4) = 2) → Q 0 g))) ∧ (¬ ((g 10 2) ≤ (g 10 3)) → ((((g 10 4) = 2) → ((-2147483648 ≤ ((g 10 3) - (g 10 6)) ∧ ((g 10 3) - (g 10 6)) ≤ 2147483647) ∧ (((4 ≤ ((g 10 3) - (g 10 6))) → ((-2147483648 ≤ ((g 10 3) + 1) ∧ ((g 10 3) + 1) ≤ 2147483647) ∧ ((((g 10 4) = 1) → ((((g 10 2) ≤ ((g 10 3) + 1)) → L_Ta_advance_109 X N σ 0 (z_up g 10 3 ((g 10 3) + 1)) Q) ∧ (¬ ((g 10 2) ≤ ((g 10 3) + 1)) → ((0 ≤ ((g 10 3) + 1) ∧ ((g 10 3) + 1) < 900) ∧ (z_O X 1 m_Ta_sortOfSign [(0, g 11 ((g 10 3) + 1))] N σ (z_up g 10 3 ((g 10 3) + 1)) (fun r1 g1 => (((r1 = (g1 10 4)) → L_Ta_advance_109 X N σ 1 g1 Q) ∧ (¬ (r1 = (g1 10 4)) → L_Ta_advance_109 X N σ 0 g1 Q)))))))) ∧ (¬ ((g 10 4) = 1) → ((((g 10 2) ≤ ((g 10 3) + 1)) → L_Ta_advance_109 X N σ 0 (z_up g 10 3 ((g 10 3) + 1)) Q) ∧ (¬ ((g 10 2) ≤ ((g 10 3) + 1)) → ((0 ≤ ((g 10 3) + 1) ∧ ((g 10 3) + 1) < 900) ∧ (z_O X 1 m_Ta_sortOfSign [(0, g 11 ((g 10 3) + 1))] N σ (z_up g 10 3 ((g 10 3) + 1)) (fun r2 g2 => (((r2 = (g2 10 4)) → L_Ta_advance_109 X N σ 1 g2 Q) ∧ (¬ (r2 = (g2 10 4)) → L_Ta_advance_109 X N σ 0 g2 Q))))))))))) ∧ (¬ (4 ≤ ((g 10 3) - (g 10 6))) → ((-2147483648 ≤ ((g 10 5) * 10) ∧ ((g 10 5) * 10) ≤ 2147483647) ∧ ((0 ≤ (g 10 3) ∧ (g 10 3) < 900) ∧ ((-2147483648 ≤ ((g 11 (g 10 3)) - 48) ∧ ((g 11 (g 10 3)) - 48) ≤ 2147483647) ∧ ((-2147483648 ≤ (((g 10 5) * 10) + ((g 11 (g 10 3)) - 48)) ∧ (((g 10 5) * 10) + ((g 11 (g 10 3)) - 48)) ≤ 2147483647) ∧ ((-2147483648 ≤ ((g 10 3) + 1) ∧ ((g 10 3) + 1) ≤ 2147483647) ∧ ((((g 10 4) = 1) → ((((g 10 2) ≤ ((g 10 3) + 1)) → L_Ta_advance_109 X N σ 0 (z_up (z_up g 10 5 (((g 10 5) * 10) + ((g 11 (g 10 3)) - 48))) 10 3 ((g 10 3) + 1)) Q) ∧ (¬ ((g 10 2) ≤ ((g 10 3) + 1)) → ((0 ≤ ((g 10 3) + 1) ∧ ((g 10 3) + 1) < 900) ∧ (z_O X 1 m_Ta_sortOfSign [(0, g 11 ((g 10 3) + 1))] N σ (z_up (z_up g 10 5 (((g 10 5) * 10) + ((g 11 (g 10 3)) - 48))) 10 3 ((g 10 3) + 1)) (fun r3 g3 => (((r3 = (g3 10 4)) → L_Ta_advance_109 X N σ 1 g3 Q) ∧ (¬ (r3 = (g3 10 4)) → L_Ta_advance_109 X N σ 0 g3 Q)))))))) ∧ (¬ ((g 10 4) = 1) → ((((g 10 2) ≤ ((g 10 3) + 1)) → L_Ta_advance_109 X N σ 0 (z_up (z_up g 10 5 (((g 10 5) * 10) + ((g 11 (g 10 3)) - 48))) 10 3 ((g 10 3) + 1)) Q) ∧ (¬ ((g 10 2) ≤ ((g 10 3) + 1)) → ((0 ≤ ((g 10 3) + 1) ∧ ((g 10 3) + 1) < 900) ∧ (z_O X 1 m_Ta_sortOfSign [(0, g 11 ((g 10 3) + 1))] N σ (z_up (z_up g 10 5 (((g 10 5) * 10) + ((g 11 (g 10 3)) - 48))) 10 3 ((g 10 3) + 1)) (fun r4 g4 => (((r4 = (g4 10 4)) → L_Ta_advance_109 X N σ 1 g4 Q) ∧ (¬ (r4 = (g4 10 4)) → L_Ta_advance_109 X N σ 0 g4 Q)))))))))))))))))) ∧ (¬ ((g 10 4) = 2) → ((-2147483648 ≤ ((g 10 3) + 1) ∧ ((g 10 3) + 1) ≤ 2147483647) ∧ ((((g 10 4) = 1) → ((((g 10 2) ≤ ((g 10 3) + 1)) → L_Ta_advance_109 X N σ 0 (z_up g 10 3 ((g 10 3) + 1)) Q) ∧ (¬ ((g 10 2) ≤ ((g 10 3) + 1)) → ((0 ≤ ((g 10 3) + 1) ∧ ((g 10 3) + 1) < 900) ∧ (z_O X 1 m_Ta_sortOfSign [(0, g 11 ((g 10 3) + 1))] N σ (z_up g 10 3 ((g 10 3) + 1)) (fun r0 g0 => (((r0 = (g0 10 4)) → L_Ta_advance_109 X N σ 1 g0 Q) ∧ (¬ (r0 = (g0 10 4)) → L_Ta_advance_109 X N σ 0 g0 Q)))))))) ∧ (¬ ((g 10 4) = 1) → L_Ta_advance_109 X N σ 0 (z_up g 10 3 ((g 10 3) + 1)) Q))))))))) : L_Ta_advance_109 X N σ x1 g Q := by
  refine z_iload_n (i := 1) 1 d_Ta_advance_109 rfl rfl ?_
  refine z_if_eq (tgt := 234) d_Ta_advance_110 (by decide) (fun c1 => ?_) (fun c1 => ?_)
  · have h := h.1 c1
    refine z_aload_n (i := 0) (c := 10) 0 d_Ta_advance_234 rfl rfl rfl ?_
    refine z_geti (c := 10) (kI := 4) d_Ta_advance_235 fd_Ta_kind fl_Ta_50 (Or.inl rfl) rfl rfl (ks_F_10 hx) (kl_F_10 hx) ?_
    refine z_iconst (n := 2) d_Ta_advance_238 (by decide) ?_
    refine z_icmp_ne (tgt := 260) d_Ta_advance_239 (by decide) (fun c2 => ?_) (fun c2 => ?_)
    · have h := h.2 c2
      exact z_vret d_Ta_advance_260 rfl (by decide) (by decide) ⟨rfl, rfl, h⟩
    · have h := h.1 c2
      refine z_aload_n (i := 0) (c := 10) 0 d_Ta_advance_242 rfl rfl rfl ?_
      refine z_geti (c := 10) (kI := 3) d_Ta_advance_243 fd_Ta_behind fl_Ta_31 (Or.inl rfl) rfl rfl (ks_F_10 hx) (kl_F_10 hx) ?_
      refine z_aload_n (i := 0) (c := 10) 0 d_Ta_advance_246 rfl rfl rfl ?_
      refine z_geti (c := 10) (kI := 6) d_Ta_advance_247 fd_Ta_at fl_Ta_43 (Or.inl rfl) rfl rfl (ks_F_10 hx) (kl_F_10 hx) ?_
      obtain ⟨c3, h⟩ := h
      refine z_isub d_Ta_advance_250 c3 ?_
      refine z_iconst (n := 4) d_Ta_advance_251 (by decide) ?_
      refine z_icmp_le (tgt := 260) d_Ta_advance_252 (by decide) (fun c4 => ?_) (fun c4 => ?_)
      · have h := h.1 c4
        exact z_vret d_Ta_advance_260 rfl (by decide) (by decide) ⟨rfl, rfl, h⟩
      · have h := h.2 c4
        refine z_aload_n (i := 0) (c := 10) 0 d_Ta_advance_255 rfl rfl rfl ?_
        refine z_iconst (n := 4) d_Ta_advance_256 (by decide) ?_
        refine z_puti (c := 10) (kI := 4) d_Ta_advance_257 fd_Ta_kind fl_Ta_50 pf_Ta_kind rfl rfl rfl rfl (ks_F_10 hx) (kl_F_10 hx) ?_
        exact z_vret d_Ta_advance_260 rfl (by decide) (by decide) ⟨rfl, rfl, h⟩
  · have h := h.2 c1
    refine z_aload_n (i := 0) (c := 10) 0 d_Ta_advance_113 rfl rfl rfl ?_
    refine z_geti (c := 10) (kI := 3) d_Ta_advance_114 fd_Ta_behind fl_Ta_31 (Or.inl rfl) rfl rfl (ks_F_10 hx) (kl_F_10 hx) ?_
    refine z_aload_n (i := 0) (c := 10) 0 d_Ta_advance_117 rfl rfl rfl ?_
    refine z_geti (c := 10) (kI := 2) d_Ta_advance_118 fd_Ta_length fl_Ta_28 (Or.inl rfl) rfl rfl (ks_F_10 hx) (kl_F_10 hx) ?_
    refine z_icmp_ge (tgt := 234) d_Ta_advance_121 (by decide) (fun c5 => ?_) (fun c5 => ?_)
    · have h := h.1 c5
      refine z_aload_n (i := 0) (c := 10) 0 d_Ta_advance_234 rfl rfl rfl ?_
      refine z_geti (c := 10) (kI := 4) d_Ta_advance_235 fd_Ta_kind fl_Ta_50 (Or.inl rfl) rfl rfl (ks_F_10 hx) (kl_F_10 hx) ?_
      refine z_iconst (n := 2) d_Ta_advance_238 (by decide) ?_
      refine z_icmp_ne (tgt := 260) d_Ta_advance_239 (by decide) (fun c6 => ?_) (fun c6 => ?_)
      · have h := h.2 c6
        exact z_vret d_Ta_advance_260 rfl (by decide) (by decide) ⟨rfl, rfl, h⟩
      · have h := h.1 c6
        refine z_aload_n (i := 0) (c := 10) 0 d_Ta_advance_242 rfl rfl rfl ?_
        refine z_geti (c := 10) (kI := 3) d_Ta_advance_243 fd_Ta_behind fl_Ta_31 (Or.inl rfl) rfl rfl (ks_F_10 hx) (kl_F_10 hx) ?_
        refine z_aload_n (i := 0) (c := 10) 0 d_Ta_advance_246 rfl rfl rfl ?_
        refine z_geti (c := 10) (kI := 6) d_Ta_advance_247 fd_Ta_at fl_Ta_43 (Or.inl rfl) rfl rfl (ks_F_10 hx) (kl_F_10 hx) ?_
        obtain ⟨c7, h⟩ := h
        refine z_isub d_Ta_advance_250 c7 ?_
        refine z_iconst (n := 4) d_Ta_advance_251 (by decide) ?_
        refine z_icmp_le (tgt := 260) d_Ta_advance_252 (by decide) (fun c8 => ?_) (fun c8 => ?_)
        · have h := h.1 c8
          exact z_vret d_Ta_advance_260 rfl (by decide) (by decide) ⟨rfl, rfl, h⟩
        · have h := h.2 c8
          refine z_aload_n (i := 0) (c := 10) 0 d_Ta_advance_255 rfl rfl rfl ?_
          refine z_iconst (n := 4) d_Ta_advance_256 (by decide) ?_
          refine z_puti (c := 10) (kI := 4) d_Ta_advance_257 fd_Ta_kind fl_Ta_50 pf_Ta_kind rfl rfl rfl rfl (ks_F_10 hx) (kl_F_10 hx) ?_
          exact z_vret d_Ta_advance_260 rfl (by decide) (by decide) ⟨rfl, rfl, h⟩
    · have h := h.2 c5
      refine z_aload_n (i := 0) (c := 10) 0 d_Ta_advance_124 rfl rfl rfl ?_
      refine z_geti (c := 10) (kI := 4) d_Ta_advance_125 fd_Ta_kind fl_Ta_50 (Or.inl rfl) rfl rfl (ks_F_10 hx) (kl_F_10 hx) ?_
      refine z_iconst (n := 2) d_Ta_advance_128 (by decide) ?_
      refine z_icmp_ne (tgt := 169) d_Ta_advance_129 (by decide) (fun c9 => ?_) (fun c9 => ?_)
      · have h := h.2 c9
        refine z_aload_n (i := 0) (c := 10) 0 d_Ta_advance_169 rfl rfl rfl ?_
        refine z_dup d_Ta_advance_170 rfl ?_
        refine z_geti (c := 10) (kI := 3) d_Ta_advance_171 fd_Ta_behind fl_Ta_31 (Or.inl rfl) rfl rfl (ks_F_10 hx) (kl_F_10 hx) ?_
        refine z_iconst (n := 1) d_Ta_advance_174 (by decide) ?_
        obtain ⟨c10, h⟩ := h
        refine z_iadd d_Ta_advance_175 c10 ?_
        refine z_puti (c := 10) (kI := 3) d_Ta_advance_176 fd_Ta_behind fl_Ta_31 pf_Ta_behind rfl rfl rfl rfl (ks_F_10 hx) (kl_F_10 hx) ?_
        refine z_aload_n (i := 0) (c := 10) 0 d_Ta_advance_179 rfl rfl rfl ?_
        refine z_geti (c := 10) (kI := 4) d_Ta_advance_180 fd_Ta_kind fl_Ta_50 (Or.inl rfl) rfl rfl (ks_F_10 hx) (kl_F_10 hx) ?_
        refine z_ti (b := g 10 4) (by simp [z_up]) ?_
        refine z_iconst (n := 1) d_Ta_advance_183 (by decide) ?_
        refine z_icmp_eq (tgt := 195) d_Ta_advance_184 (by decide) (fun c11 => ?_) (fun c11 => ?_)
        · have h := h.1 c11
          refine z_aload_n (i := 0) (c := 10) 0 d_Ta_advance_195 rfl rfl rfl ?_
          refine z_geti (c := 10) (kI := 3) d_Ta_advance_196 fd_Ta_behind fl_Ta_31 (Or.inl rfl) rfl rfl (ks_F_10 hx) (kl_F_10 hx) ?_
          refine z_ti (b := (g 10 3) + 1) (by simp [z_up]) ?_
          refine z_aload_n (i := 0) (c := 10) 0 d_Ta_advance_199 rfl rfl rfl ?_
          refine z_geti (c := 10) (kI := 2) d_Ta_advance_200 fd_Ta_length fl_Ta_28 (Or.inl rfl) rfl rfl (ks_F_10 hx) (kl_F_10 hx) ?_
          refine z_ti (b := g 10 2) (by simp [z_up]) ?_
          refine z_icmp_ge (tgt := 229) d_Ta_advance_203 (by decide) (fun c12 => ?_) (fun c12 => ?_)
          · have h := h.1 c12
            refine z_iconst (n := 0) d_Ta_advance_229 (by decide) ?_
            refine z_istore_n (i := 1) (ls' := [(1, (0, 0)), (0, (2, 10))]) d_Ta_advance_230 rfl rfl rfl ?_
            refine z_goto (tgt := 109) d_Ta_advance_231 (by decide) ?_
            refine z_sub (ls' := [(0, (2, 10)), (1, (0, 0))]) [1, 0] rfl ?_
            exact h
          · have h := h.2 c12
            refine z_aload_n (i := 0) (c := 10) 0 d_Ta_advance_206 rfl rfl rfl ?_
            refine z_getr (c := 10) (kI := 0) (r2 := 11) d_Ta_advance_207 fd_Ta_text fl_Ta_9 rfl rfl rfl (ks_F_10 hx) (kl_F_10 hx) (kr_F_10_0 hx) ?_
            refine z_aload_n (i := 0) (c := 10) 0 d_Ta_advance_210 rfl rfl rfl ?_
            refine z_geti (c := 10) (kI := 3) d_Ta_advance_211 fd_Ta_behind fl_Ta_31 (Or.inl rfl) rfl rfl (ks_F_10 hx) (kl_F_10 hx) ?_
            refine z_ti (b := (g 10 3) + 1) (by simp [z_up]) ?_
            obtain ⟨c13, h⟩ := h
            refine z_cald (c := 11) (m := 900) d_Ta_advance_214 rfl (ks_F_11 hx) (kl_F_11 hx) rfl (by decide) c13 ?_
            refine z_ti (b := g 11 ((g 10 3) + 1)) (by simp [z_up]) ?_
            refine z_cS (as := [(0, g 11 ((g 10 3) + 1))]) (d' := 1) (st := []) d_Ta_advance_215 mi_Ta_sortOfSign ml_Ta_46 ms_Ta_sortOfSign rfl rfl rfl rfl rfl (z_Omono h (fun r0 g0 _ h hro => ?_))
            show z_U X 2 m_Ta_advance 218 [(0, (2, 10)), (1, (0, x1))] [(0, r0)] N σ g0 Q
            refine z_aload_n (i := 0) (c := 10) 0 d_Ta_advance_218 rfl rfl rfl ?_
            refine z_geti (c := 10) (kI := 4) d_Ta_advance_219 fd_Ta_kind fl_Ta_50 (Or.inl rfl) rfl rfl (ks_F_10 hx) (kl_F_10 hx) ?_
            refine z_icmp_ne (tgt := 229) d_Ta_advance_222 (by decide) (fun c14 => ?_) (fun c14 => ?_)
            · have h := h.2 c14
              refine z_iconst (n := 0) d_Ta_advance_229 (by decide) ?_
              refine z_istore_n (i := 1) (ls' := [(1, (0, 0)), (0, (2, 10))]) d_Ta_advance_230 rfl rfl rfl ?_
              refine z_goto (tgt := 109) d_Ta_advance_231 (by decide) ?_
              refine z_sub (ls' := [(0, (2, 10)), (1, (0, 0))]) [1, 0] rfl ?_
              exact h
            · have h := h.1 c14
              refine z_iconst (n := 1) d_Ta_advance_225 (by decide) ?_
              refine z_goto (tgt := 230) d_Ta_advance_226 (by decide) ?_
              refine z_istore_n (i := 1) (ls' := [(1, (0, 1)), (0, (2, 10))]) d_Ta_advance_230 rfl rfl rfl ?_
              refine z_goto (tgt := 109) d_Ta_advance_231 (by decide) ?_
              refine z_sub (ls' := [(0, (2, 10)), (1, (0, 1))]) [1, 0] rfl ?_
              exact h
        · have h := h.2 c11
          refine z_aload_n (i := 0) (c := 10) 0 d_Ta_advance_187 rfl rfl rfl ?_
          refine z_geti (c := 10) (kI := 4) d_Ta_advance_188 fd_Ta_kind fl_Ta_50 (Or.inl rfl) rfl rfl (ks_F_10 hx) (kl_F_10 hx) ?_
          refine z_ti (b := g 10 4) (by simp [z_up]) ?_
          refine z_iconst (n := 2) d_Ta_advance_191 (by decide) ?_
          refine z_icmp_ne (tgt := 229) d_Ta_advance_192 (by decide) (fun _ => ?_) (fun c => absurd c c9)
          refine z_iconst (n := 0) d_Ta_advance_229 (by decide) ?_
          refine z_istore_n (i := 1) (ls' := [(1, (0, 0)), (0, (2, 10))]) d_Ta_advance_230 rfl rfl rfl ?_
          refine z_goto (tgt := 109) d_Ta_advance_231 (by decide) ?_
          refine z_sub (ls' := [(0, (2, 10)), (1, (0, 0))]) [1, 0] rfl ?_
          exact h
      · have h := h.1 c9
        refine z_aload_n (i := 0) (c := 10) 0 d_Ta_advance_132 rfl rfl rfl ?_
        refine z_geti (c := 10) (kI := 3) d_Ta_advance_133 fd_Ta_behind fl_Ta_31 (Or.inl rfl) rfl rfl (ks_F_10 hx) (kl_F_10 hx) ?_
        refine z_aload_n (i := 0) (c := 10) 0 d_Ta_advance_136 rfl rfl rfl ?_
        refine z_geti (c := 10) (kI := 6) d_Ta_advance_137 fd_Ta_at fl_Ta_43 (Or.inl rfl) rfl rfl (ks_F_10 hx) (kl_F_10 hx) ?_
        obtain ⟨c15, h⟩ := h
        refine z_isub d_Ta_advance_140 c15 ?_
        refine z_iconst (n := 4) d_Ta_advance_141 (by decide) ?_
        refine z_icmp_ge (tgt := 169) d_Ta_advance_142 (by decide) (fun c16 => ?_) (fun c16 => ?_)
        · have h := h.1 c16
          refine z_aload_n (i := 0) (c := 10) 0 d_Ta_advance_169 rfl rfl rfl ?_
          refine z_dup d_Ta_advance_170 rfl ?_
          refine z_geti (c := 10) (kI := 3) d_Ta_advance_171 fd_Ta_behind fl_Ta_31 (Or.inl rfl) rfl rfl (ks_F_10 hx) (kl_F_10 hx) ?_
          refine z_iconst (n := 1) d_Ta_advance_174 (by decide) ?_
          obtain ⟨c17, h⟩ := h
          refine z_iadd d_Ta_advance_175 c17 ?_
          refine z_puti (c := 10) (kI := 3) d_Ta_advance_176 fd_Ta_behind fl_Ta_31 pf_Ta_behind rfl rfl rfl rfl (ks_F_10 hx) (kl_F_10 hx) ?_
          refine z_aload_n (i := 0) (c := 10) 0 d_Ta_advance_179 rfl rfl rfl ?_
          refine z_geti (c := 10) (kI := 4) d_Ta_advance_180 fd_Ta_kind fl_Ta_50 (Or.inl rfl) rfl rfl (ks_F_10 hx) (kl_F_10 hx) ?_
          refine z_ti (b := g 10 4) (by simp [z_up]) ?_
          refine z_iconst (n := 1) d_Ta_advance_183 (by decide) ?_
          refine z_icmp_eq (tgt := 195) d_Ta_advance_184 (by decide) (fun c18 => ?_) (fun c18 => ?_)
          · have h := h.1 c18
            refine z_aload_n (i := 0) (c := 10) 0 d_Ta_advance_195 rfl rfl rfl ?_
            refine z_geti (c := 10) (kI := 3) d_Ta_advance_196 fd_Ta_behind fl_Ta_31 (Or.inl rfl) rfl rfl (ks_F_10 hx) (kl_F_10 hx) ?_
            refine z_ti (b := (g 10 3) + 1) (by simp [z_up]) ?_
            refine z_aload_n (i := 0) (c := 10) 0 d_Ta_advance_199 rfl rfl rfl ?_
            refine z_geti (c := 10) (kI := 2) d_Ta_advance_200 fd_Ta_length fl_Ta_28 (Or.inl rfl) rfl rfl (ks_F_10 hx) (kl_F_10 hx) ?_
            refine z_ti (b := g 10 2) (by simp [z_up]) ?_
            refine z_icmp_ge (tgt := 229) d_Ta_advance_203 (by decide) (fun c19 => ?_) (fun c19 => ?_)
            · have h := h.1 c19
              refine z_iconst (n := 0) d_Ta_advance_229 (by decide) ?_
              refine z_istore_n (i := 1) (ls' := [(1, (0, 0)), (0, (2, 10))]) d_Ta_advance_230 rfl rfl rfl ?_
              refine z_goto (tgt := 109) d_Ta_advance_231 (by decide) ?_
              refine z_sub (ls' := [(0, (2, 10)), (1, (0, 0))]) [1, 0] rfl ?_
              exact h
            · have h := h.2 c19
              refine z_aload_n (i := 0) (c := 10) 0 d_Ta_advance_206 rfl rfl rfl ?_
              refine z_getr (c := 10) (kI := 0) (r2 := 11) d_Ta_advance_207 fd_Ta_text fl_Ta_9 rfl rfl rfl (ks_F_10 hx) (kl_F_10 hx) (kr_F_10_0 hx) ?_
              refine z_aload_n (i := 0) (c := 10) 0 d_Ta_advance_210 rfl rfl rfl ?_
              refine z_geti (c := 10) (kI := 3) d_Ta_advance_211 fd_Ta_behind fl_Ta_31 (Or.inl rfl) rfl rfl (ks_F_10 hx) (kl_F_10 hx) ?_
              refine z_ti (b := (g 10 3) + 1) (by simp [z_up]) ?_
              obtain ⟨c20, h⟩ := h
              refine z_cald (c := 11) (m := 900) d_Ta_advance_214 rfl (ks_F_11 hx) (kl_F_11 hx) rfl (by decide) c20 ?_
              refine z_ti (b := g 11 ((g 10 3) + 1)) (by simp [z_up]) ?_
              refine z_cS (as := [(0, g 11 ((g 10 3) + 1))]) (d' := 1) (st := []) d_Ta_advance_215 mi_Ta_sortOfSign ml_Ta_46 ms_Ta_sortOfSign rfl rfl rfl rfl rfl (z_Omono h (fun r1 g1 _ h hro => ?_))
              show z_U X 2 m_Ta_advance 218 [(0, (2, 10)), (1, (0, x1))] [(0, r1)] N σ g1 Q
              refine z_aload_n (i := 0) (c := 10) 0 d_Ta_advance_218 rfl rfl rfl ?_
              refine z_geti (c := 10) (kI := 4) d_Ta_advance_219 fd_Ta_kind fl_Ta_50 (Or.inl rfl) rfl rfl (ks_F_10 hx) (kl_F_10 hx) ?_
              refine z_icmp_ne (tgt := 229) d_Ta_advance_222 (by decide) (fun c21 => ?_) (fun c21 => ?_)
              · have h := h.2 c21
                refine z_iconst (n := 0) d_Ta_advance_229 (by decide) ?_
                refine z_istore_n (i := 1) (ls' := [(1, (0, 0)), (0, (2, 10))]) d_Ta_advance_230 rfl rfl rfl ?_
                refine z_goto (tgt := 109) d_Ta_advance_231 (by decide) ?_
                refine z_sub (ls' := [(0, (2, 10)), (1, (0, 0))]) [1, 0] rfl ?_
                exact h
              · have h := h.1 c21
                refine z_iconst (n := 1) d_Ta_advance_225 (by decide) ?_
                refine z_goto (tgt := 230) d_Ta_advance_226 (by decide) ?_
                refine z_istore_n (i := 1) (ls' := [(1, (0, 1)), (0, (2, 10))]) d_Ta_advance_230 rfl rfl rfl ?_
                refine z_goto (tgt := 109) d_Ta_advance_231 (by decide) ?_
                refine z_sub (ls' := [(0, (2, 10)), (1, (0, 1))]) [1, 0] rfl ?_
                exact h
          · have h := h.2 c18
            refine z_aload_n (i := 0) (c := 10) 0 d_Ta_advance_187 rfl rfl rfl ?_
            refine z_geti (c := 10) (kI := 4) d_Ta_advance_188 fd_Ta_kind fl_Ta_50 (Or.inl rfl) rfl rfl (ks_F_10 hx) (kl_F_10 hx) ?_
            refine z_ti (b := g 10 4) (by simp [z_up]) ?_
            refine z_iconst (n := 2) d_Ta_advance_191 (by decide) ?_
            refine z_icmp_ne (tgt := 229) d_Ta_advance_192 (by decide) (fun c => absurd c9 c) (fun _ => ?_)
            refine z_aload_n (i := 0) (c := 10) 0 d_Ta_advance_195 rfl rfl rfl ?_
            refine z_geti (c := 10) (kI := 3) d_Ta_advance_196 fd_Ta_behind fl_Ta_31 (Or.inl rfl) rfl rfl (ks_F_10 hx) (kl_F_10 hx) ?_
            refine z_ti (b := (g 10 3) + 1) (by simp [z_up]) ?_
            refine z_aload_n (i := 0) (c := 10) 0 d_Ta_advance_199 rfl rfl rfl ?_
            refine z_geti (c := 10) (kI := 2) d_Ta_advance_200 fd_Ta_length fl_Ta_28 (Or.inl rfl) rfl rfl (ks_F_10 hx) (kl_F_10 hx) ?_
            refine z_ti (b := g 10 2) (by simp [z_up]) ?_
            refine z_icmp_ge (tgt := 229) d_Ta_advance_203 (by decide) (fun c22 => ?_) (fun c22 => ?_)
            · have h := h.1 c22
              refine z_iconst (n := 0) d_Ta_advance_229 (by decide) ?_
              refine z_istore_n (i := 1) (ls' := [(1, (0, 0)), (0, (2, 10))]) d_Ta_advance_230 rfl rfl rfl ?_
              refine z_goto (tgt := 109) d_Ta_advance_231 (by decide) ?_
              refine z_sub (ls' := [(0, (2, 10)), (1, (0, 0))]) [1, 0] rfl ?_
              exact h
            · have h := h.2 c22
              refine z_aload_n (i := 0) (c := 10) 0 d_Ta_advance_206 rfl rfl rfl ?_
              refine z_getr (c := 10) (kI := 0) (r2 := 11) d_Ta_advance_207 fd_Ta_text fl_Ta_9 rfl rfl rfl (ks_F_10 hx) (kl_F_10 hx) (kr_F_10_0 hx) ?_
              refine z_aload_n (i := 0) (c := 10) 0 d_Ta_advance_210 rfl rfl rfl ?_
              refine z_geti (c := 10) (kI := 3) d_Ta_advance_211 fd_Ta_behind fl_Ta_31 (Or.inl rfl) rfl rfl (ks_F_10 hx) (kl_F_10 hx) ?_
              refine z_ti (b := (g 10 3) + 1) (by simp [z_up]) ?_
              obtain ⟨c23, h⟩ := h
              refine z_cald (c := 11) (m := 900) d_Ta_advance_214 rfl (ks_F_11 hx) (kl_F_11 hx) rfl (by decide) c23 ?_
              refine z_ti (b := g 11 ((g 10 3) + 1)) (by simp [z_up]) ?_
              refine z_cS (as := [(0, g 11 ((g 10 3) + 1))]) (d' := 1) (st := []) d_Ta_advance_215 mi_Ta_sortOfSign ml_Ta_46 ms_Ta_sortOfSign rfl rfl rfl rfl rfl (z_Omono h (fun r2 g2 _ h hro => ?_))
              show z_U X 2 m_Ta_advance 218 [(0, (2, 10)), (1, (0, x1))] [(0, r2)] N σ g2 Q
              refine z_aload_n (i := 0) (c := 10) 0 d_Ta_advance_218 rfl rfl rfl ?_
              refine z_geti (c := 10) (kI := 4) d_Ta_advance_219 fd_Ta_kind fl_Ta_50 (Or.inl rfl) rfl rfl (ks_F_10 hx) (kl_F_10 hx) ?_
              refine z_icmp_ne (tgt := 229) d_Ta_advance_222 (by decide) (fun c24 => ?_) (fun c24 => ?_)
              · have h := h.2 c24
                refine z_iconst (n := 0) d_Ta_advance_229 (by decide) ?_
                refine z_istore_n (i := 1) (ls' := [(1, (0, 0)), (0, (2, 10))]) d_Ta_advance_230 rfl rfl rfl ?_
                refine z_goto (tgt := 109) d_Ta_advance_231 (by decide) ?_
                refine z_sub (ls' := [(0, (2, 10)), (1, (0, 0))]) [1, 0] rfl ?_
                exact h
              · have h := h.1 c24
                refine z_iconst (n := 1) d_Ta_advance_225 (by decide) ?_
                refine z_goto (tgt := 230) d_Ta_advance_226 (by decide) ?_
                refine z_istore_n (i := 1) (ls' := [(1, (0, 1)), (0, (2, 10))]) d_Ta_advance_230 rfl rfl rfl ?_
                refine z_goto (tgt := 109) d_Ta_advance_231 (by decide) ?_
                refine z_sub (ls' := [(0, (2, 10)), (1, (0, 1))]) [1, 0] rfl ?_
                exact h
        · have h := h.2 c16
          refine z_aload_n (i := 0) (c := 10) 0 d_Ta_advance_145 rfl rfl rfl ?_
          refine z_aload_n (i := 0) (c := 10) 0 d_Ta_advance_146 rfl rfl rfl ?_
          refine z_geti (c := 10) (kI := 5) d_Ta_advance_147 fd_Ta_value fl_Ta_53 (Or.inl rfl) rfl rfl (ks_F_10 hx) (kl_F_10 hx) ?_
          refine z_bipush (n := 10) d_Ta_advance_150 (by decide) (by decide) ?_
          obtain ⟨c25, h⟩ := h
          refine z_imul d_Ta_advance_152 c25 ?_
          refine z_aload_n (i := 0) (c := 10) 0 d_Ta_advance_153 rfl rfl rfl ?_
          refine z_getr (c := 10) (kI := 0) (r2 := 11) d_Ta_advance_154 fd_Ta_text fl_Ta_9 rfl rfl rfl (ks_F_10 hx) (kl_F_10 hx) (kr_F_10_0 hx) ?_
          refine z_aload_n (i := 0) (c := 10) 0 d_Ta_advance_157 rfl rfl rfl ?_
          refine z_geti (c := 10) (kI := 3) d_Ta_advance_158 fd_Ta_behind fl_Ta_31 (Or.inl rfl) rfl rfl (ks_F_10 hx) (kl_F_10 hx) ?_
          obtain ⟨c26, h⟩ := h
          refine z_cald (c := 11) (m := 900) d_Ta_advance_161 rfl (ks_F_11 hx) (kl_F_11 hx) rfl (by decide) c26 ?_
          refine z_bipush (n := 48) d_Ta_advance_162 (by decide) (by decide) ?_
          obtain ⟨c27, h⟩ := h
          refine z_isub d_Ta_advance_164 c27 ?_
          obtain ⟨c28, h⟩ := h
          refine z_iadd d_Ta_advance_165 c28 ?_
          refine z_puti (c := 10) (kI := 5) d_Ta_advance_166 fd_Ta_value fl_Ta_53 pf_Ta_value rfl rfl rfl rfl (ks_F_10 hx) (kl_F_10 hx) ?_
          refine z_aload_n (i := 0) (c := 10) 0 d_Ta_advance_169 rfl rfl rfl ?_
          refine z_dup d_Ta_advance_170 rfl ?_
          refine z_geti (c := 10) (kI := 3) d_Ta_advance_171 fd_Ta_behind fl_Ta_31 (Or.inl rfl) rfl rfl (ks_F_10 hx) (kl_F_10 hx) ?_
          refine z_ti (b := g 10 3) (by simp [z_up]) ?_
          refine z_iconst (n := 1) d_Ta_advance_174 (by decide) ?_
          obtain ⟨c29, h⟩ := h
          refine z_iadd d_Ta_advance_175 c29 ?_
          refine z_puti (c := 10) (kI := 3) d_Ta_advance_176 fd_Ta_behind fl_Ta_31 pf_Ta_behind rfl rfl rfl rfl (ks_F_10 hx) (kl_F_10 hx) ?_
          refine z_aload_n (i := 0) (c := 10) 0 d_Ta_advance_179 rfl rfl rfl ?_
          refine z_geti (c := 10) (kI := 4) d_Ta_advance_180 fd_Ta_kind fl_Ta_50 (Or.inl rfl) rfl rfl (ks_F_10 hx) (kl_F_10 hx) ?_
          refine z_ti (b := g 10 4) (by simp [z_up]) ?_
          refine z_iconst (n := 1) d_Ta_advance_183 (by decide) ?_
          refine z_icmp_eq (tgt := 195) d_Ta_advance_184 (by decide) (fun c30 => ?_) (fun c30 => ?_)
          · have h := h.1 c30
            refine z_aload_n (i := 0) (c := 10) 0 d_Ta_advance_195 rfl rfl rfl ?_
            refine z_geti (c := 10) (kI := 3) d_Ta_advance_196 fd_Ta_behind fl_Ta_31 (Or.inl rfl) rfl rfl (ks_F_10 hx) (kl_F_10 hx) ?_
            refine z_ti (b := (g 10 3) + 1) (by simp [z_up]) ?_
            refine z_aload_n (i := 0) (c := 10) 0 d_Ta_advance_199 rfl rfl rfl ?_
            refine z_geti (c := 10) (kI := 2) d_Ta_advance_200 fd_Ta_length fl_Ta_28 (Or.inl rfl) rfl rfl (ks_F_10 hx) (kl_F_10 hx) ?_
            refine z_ti (b := g 10 2) (by simp [z_up]) ?_
            refine z_icmp_ge (tgt := 229) d_Ta_advance_203 (by decide) (fun c31 => ?_) (fun c31 => ?_)
            · have h := h.1 c31
              refine z_iconst (n := 0) d_Ta_advance_229 (by decide) ?_
              refine z_istore_n (i := 1) (ls' := [(1, (0, 0)), (0, (2, 10))]) d_Ta_advance_230 rfl rfl rfl ?_
              refine z_goto (tgt := 109) d_Ta_advance_231 (by decide) ?_
              refine z_sub (ls' := [(0, (2, 10)), (1, (0, 0))]) [1, 0] rfl ?_
              exact h
            · have h := h.2 c31
              refine z_aload_n (i := 0) (c := 10) 0 d_Ta_advance_206 rfl rfl rfl ?_
              refine z_getr (c := 10) (kI := 0) (r2 := 11) d_Ta_advance_207 fd_Ta_text fl_Ta_9 rfl rfl rfl (ks_F_10 hx) (kl_F_10 hx) (kr_F_10_0 hx) ?_
              refine z_aload_n (i := 0) (c := 10) 0 d_Ta_advance_210 rfl rfl rfl ?_
              refine z_geti (c := 10) (kI := 3) d_Ta_advance_211 fd_Ta_behind fl_Ta_31 (Or.inl rfl) rfl rfl (ks_F_10 hx) (kl_F_10 hx) ?_
              refine z_ti (b := (g 10 3) + 1) (by simp [z_up]) ?_
              obtain ⟨c32, h⟩ := h
              refine z_cald (c := 11) (m := 900) d_Ta_advance_214 rfl (ks_F_11 hx) (kl_F_11 hx) rfl (by decide) c32 ?_
              refine z_ti (b := g 11 ((g 10 3) + 1)) (by simp [z_up]) ?_
              refine z_cS (as := [(0, g 11 ((g 10 3) + 1))]) (d' := 1) (st := []) d_Ta_advance_215 mi_Ta_sortOfSign ml_Ta_46 ms_Ta_sortOfSign rfl rfl rfl rfl rfl (z_Omono h (fun r3 g3 _ h hro => ?_))
              show z_U X 2 m_Ta_advance 218 [(0, (2, 10)), (1, (0, x1))] [(0, r3)] N σ g3 Q
              refine z_aload_n (i := 0) (c := 10) 0 d_Ta_advance_218 rfl rfl rfl ?_
              refine z_geti (c := 10) (kI := 4) d_Ta_advance_219 fd_Ta_kind fl_Ta_50 (Or.inl rfl) rfl rfl (ks_F_10 hx) (kl_F_10 hx) ?_
              refine z_icmp_ne (tgt := 229) d_Ta_advance_222 (by decide) (fun c33 => ?_) (fun c33 => ?_)
              · have h := h.2 c33
                refine z_iconst (n := 0) d_Ta_advance_229 (by decide) ?_
                refine z_istore_n (i := 1) (ls' := [(1, (0, 0)), (0, (2, 10))]) d_Ta_advance_230 rfl rfl rfl ?_
                refine z_goto (tgt := 109) d_Ta_advance_231 (by decide) ?_
                refine z_sub (ls' := [(0, (2, 10)), (1, (0, 0))]) [1, 0] rfl ?_
                exact h
              · have h := h.1 c33
                refine z_iconst (n := 1) d_Ta_advance_225 (by decide) ?_
                refine z_goto (tgt := 230) d_Ta_advance_226 (by decide) ?_
                refine z_istore_n (i := 1) (ls' := [(1, (0, 1)), (0, (2, 10))]) d_Ta_advance_230 rfl rfl rfl ?_
                refine z_goto (tgt := 109) d_Ta_advance_231 (by decide) ?_
                refine z_sub (ls' := [(0, (2, 10)), (1, (0, 1))]) [1, 0] rfl ?_
                exact h
          · have h := h.2 c30
            refine z_aload_n (i := 0) (c := 10) 0 d_Ta_advance_187 rfl rfl rfl ?_
            refine z_geti (c := 10) (kI := 4) d_Ta_advance_188 fd_Ta_kind fl_Ta_50 (Or.inl rfl) rfl rfl (ks_F_10 hx) (kl_F_10 hx) ?_
            refine z_ti (b := g 10 4) (by simp [z_up]) ?_
            refine z_iconst (n := 2) d_Ta_advance_191 (by decide) ?_
            refine z_icmp_ne (tgt := 229) d_Ta_advance_192 (by decide) (fun c => absurd c9 c) (fun _ => ?_)
            refine z_aload_n (i := 0) (c := 10) 0 d_Ta_advance_195 rfl rfl rfl ?_
            refine z_geti (c := 10) (kI := 3) d_Ta_advance_196 fd_Ta_behind fl_Ta_31 (Or.inl rfl) rfl rfl (ks_F_10 hx) (kl_F_10 hx) ?_
            refine z_ti (b := (g 10 3) + 1) (by simp [z_up]) ?_
            refine z_aload_n (i := 0) (c := 10) 0 d_Ta_advance_199 rfl rfl rfl ?_
            refine z_geti (c := 10) (kI := 2) d_Ta_advance_200 fd_Ta_length fl_Ta_28 (Or.inl rfl) rfl rfl (ks_F_10 hx) (kl_F_10 hx) ?_
            refine z_ti (b := g 10 2) (by simp [z_up]) ?_
            refine z_icmp_ge (tgt := 229) d_Ta_advance_203 (by decide) (fun c34 => ?_) (fun c34 => ?_)
            · have h := h.1 c34
              refine z_iconst (n := 0) d_Ta_advance_229 (by decide) ?_
              refine z_istore_n (i := 1) (ls' := [(1, (0, 0)), (0, (2, 10))]) d_Ta_advance_230 rfl rfl rfl ?_
              refine z_goto (tgt := 109) d_Ta_advance_231 (by decide) ?_
              refine z_sub (ls' := [(0, (2, 10)), (1, (0, 0))]) [1, 0] rfl ?_
              exact h
            · have h := h.2 c34
              refine z_aload_n (i := 0) (c := 10) 0 d_Ta_advance_206 rfl rfl rfl ?_
              refine z_getr (c := 10) (kI := 0) (r2 := 11) d_Ta_advance_207 fd_Ta_text fl_Ta_9 rfl rfl rfl (ks_F_10 hx) (kl_F_10 hx) (kr_F_10_0 hx) ?_
              refine z_aload_n (i := 0) (c := 10) 0 d_Ta_advance_210 rfl rfl rfl ?_
              refine z_geti (c := 10) (kI := 3) d_Ta_advance_211 fd_Ta_behind fl_Ta_31 (Or.inl rfl) rfl rfl (ks_F_10 hx) (kl_F_10 hx) ?_
              refine z_ti (b := (g 10 3) + 1) (by simp [z_up]) ?_
              obtain ⟨c35, h⟩ := h
              refine z_cald (c := 11) (m := 900) d_Ta_advance_214 rfl (ks_F_11 hx) (kl_F_11 hx) rfl (by decide) c35 ?_
              refine z_ti (b := g 11 ((g 10 3) + 1)) (by simp [z_up]) ?_
              refine z_cS (as := [(0, g 11 ((g 10 3) + 1))]) (d' := 1) (st := []) d_Ta_advance_215 mi_Ta_sortOfSign ml_Ta_46 ms_Ta_sortOfSign rfl rfl rfl rfl rfl (z_Omono h (fun r4 g4 _ h hro => ?_))
              show z_U X 2 m_Ta_advance 218 [(0, (2, 10)), (1, (0, x1))] [(0, r4)] N σ g4 Q
              refine z_aload_n (i := 0) (c := 10) 0 d_Ta_advance_218 rfl rfl rfl ?_
              refine z_geti (c := 10) (kI := 4) d_Ta_advance_219 fd_Ta_kind fl_Ta_50 (Or.inl rfl) rfl rfl (ks_F_10 hx) (kl_F_10 hx) ?_
              refine z_icmp_ne (tgt := 229) d_Ta_advance_222 (by decide) (fun c36 => ?_) (fun c36 => ?_)
              · have h := h.2 c36
                refine z_iconst (n := 0) d_Ta_advance_229 (by decide) ?_
                refine z_istore_n (i := 1) (ls' := [(1, (0, 0)), (0, (2, 10))]) d_Ta_advance_230 rfl rfl rfl ?_
                refine z_goto (tgt := 109) d_Ta_advance_231 (by decide) ?_
                refine z_sub (ls' := [(0, (2, 10)), (1, (0, 0))]) [1, 0] rfl ?_
                exact h
              · have h := h.1 c36
                refine z_iconst (n := 1) d_Ta_advance_225 (by decide) ?_
                refine z_goto (tgt := 230) d_Ta_advance_226 (by decide) ?_
                refine z_istore_n (i := 1) (ls' := [(1, (0, 1)), (0, (2, 10))]) d_Ta_advance_230 rfl rfl rfl ?_
                refine z_goto (tgt := 109) d_Ta_advance_231 (by decide) ?_
                refine z_sub (ls' := [(0, (2, 10)), (1, (0, 1))]) [1, 0] rfl ?_
                exact h
theorem d_Ta_failHere_0 : decode (z_c m_Ta_failHere) 0 = .ok (.aload_n 0, 1) := by decide +kernel
theorem d_Ta_failHere_1 : decode (z_c m_Ta_failHere) 1 = .ok (.aload_n 0, 1) := by decide +kernel
theorem d_Ta_failHere_2 : decode (z_c m_Ta_failHere) 2 = .ok (.getfield 50, 3) := by decide +kernel
theorem d_Ta_failHere_5 : decode (z_c m_Ta_failHere) 5 = .ok (.iconst 4, 1) := by decide +kernel
theorem d_Ta_failHere_6 : decode (z_c m_Ta_failHere) 6 = .ok (.if_icmp .ne 7, 3) := by decide +kernel
theorem d_Ta_failHere_9 : decode (z_c m_Ta_failHere) 9 = .ok (.iconst 1, 1) := by decide +kernel
theorem d_Ta_failHere_10 : decode (z_c m_Ta_failHere) 10 = .ok (.goto 4, 3) := by decide +kernel
theorem d_Ta_failHere_13 : decode (z_c m_Ta_failHere) 13 = .ok (.iconst 2, 1) := by decide +kernel
theorem d_Ta_failHere_14 : decode (z_c m_Ta_failHere) 14 = .ok (.aload_n 0, 1) := by decide +kernel
theorem d_Ta_failHere_15 : decode (z_c m_Ta_failHere) 15 = .ok (.getfield 43, 3) := by decide +kernel
theorem d_Ta_failHere_18 : decode (z_c m_Ta_failHere) 18 = .ok (.invokevirtual 65, 3) := by decide +kernel
theorem d_Ta_failHere_21 : decode (z_c m_Ta_failHere) 21 = .ok (.ireturn, 1) := by decide +kernel
set_option maxRecDepth 8000 in
theorem b_Ta_failHere_0 {X : z_X} {N : Nat} {σ g : z_G} {Q : z_P} (hx : z_lay X N σ 0 z_SF z_RF) (h : (((g 10 4) = 4) → Q 0 (z_up (z_up g 10 9 1) 10 10 (g 10 6))) ∧ (¬ ((g 10 4) = 4) → Q 0 (z_up (z_up g 10 9 2) 10 10 (g 10 6)))) : z_O X 2 m_Ta_failHere [(2, 10)] N σ g Q := by
  refine z_Oenter mi_Ta_failHere rfl (fun _ => ?_)
  show z_U X 2 m_Ta_failHere 0 [(0, (2, 10))] [] N σ g Q
  refine z_aload_n (i := 0) (c := 10) 0 d_Ta_failHere_0 rfl rfl rfl ?_
  refine z_aload_n (i := 0) (c := 10) 0 d_Ta_failHere_1 rfl rfl rfl ?_
  refine z_geti (c := 10) (kI := 4) d_Ta_failHere_2 fd_Ta_kind fl_Ta_50 (Or.inl rfl) rfl rfl (ks_F_10 hx) (kl_F_10 hx) ?_
  refine z_iconst (n := 4) d_Ta_failHere_5 (by decide) ?_
  refine z_icmp_ne (tgt := 13) d_Ta_failHere_6 (by decide) (fun c1 => ?_) (fun c1 => ?_)
  · have h := h.2 c1
    refine z_iconst (n := 2) d_Ta_failHere_13 (by decide) ?_
    refine z_aload_n (i := 0) (c := 10) 0 d_Ta_failHere_14 rfl rfl rfl ?_
    refine z_geti (c := 10) (kI := 6) d_Ta_failHere_15 fd_Ta_at fl_Ta_43 (Or.inl rfl) rfl rfl (ks_F_10 hx) (kl_F_10 hx) ?_
    refine z_cV (c := 10) (as := [(0, 2), (0, g 10 6)]) (d' := 1) (st := []) d_Ta_failHere_18 mi_Ta_fail ml_Ta_65 mv_Ta_fail se_Ta_fail rfl rfl rfl rfl (ks_F_10 hx) rfl rfl (kl_F_10 hx) rfl rfl (b_Ta_fail_0 hx ?_)
    intro _
    show z_U X 2 m_Ta_failHere 21 [(0, (2, 10))] [(0, 0)] N σ (z_up (z_up g 10 9 2) 10 10 (g 10 6)) Q
    exact z_zret d_Ta_failHere_21 rfl (by decide) (by decide) (by decide) ⟨rfl, rfl, h⟩
  · have h := h.1 c1
    refine z_iconst (n := 1) d_Ta_failHere_9 (by decide) ?_
    refine z_goto (tgt := 14) d_Ta_failHere_10 (by decide) ?_
    refine z_aload_n (i := 0) (c := 10) 0 d_Ta_failHere_14 rfl rfl rfl ?_
    refine z_geti (c := 10) (kI := 6) d_Ta_failHere_15 fd_Ta_at fl_Ta_43 (Or.inl rfl) rfl rfl (ks_F_10 hx) (kl_F_10 hx) ?_
    refine z_cV (c := 10) (as := [(0, 1), (0, g 10 6)]) (d' := 1) (st := []) d_Ta_failHere_18 mi_Ta_fail ml_Ta_65 mv_Ta_fail se_Ta_fail rfl rfl rfl rfl (ks_F_10 hx) rfl rfl (kl_F_10 hx) rfl rfl (b_Ta_fail_0 hx ?_)
    intro _
    show z_U X 2 m_Ta_failHere 21 [(0, (2, 10))] [(0, 0)] N σ (z_up (z_up g 10 9 1) 10 10 (g 10 6)) Q
    exact z_zret d_Ta_failHere_21 rfl (by decide) (by decide) (by decide) ⟨rfl, rfl, h⟩
theorem d_Tr_isMissing_0 : decode (z_c m_Tr_isMissing) 0 = .ok (.aload_n 0, 1) := by decide +kernel
theorem d_Tr_isMissing_1 : decode (z_c m_Tr_isMissing) 1 = .ok (.iload_n 1, 1) := by decide +kernel
theorem d_Tr_isMissing_2 : decode (z_c m_Tr_isMissing) 2 = .ok (.invokevirtual 21, 3) := by decide +kernel
theorem d_Tr_isMissing_5 : decode (z_c m_Tr_isMissing) 5 = .ok (.ifCond .eq 13, 3) := by decide +kernel
theorem d_Tr_isMissing_8 : decode (z_c m_Tr_isMissing) 8 = .ok (.aload_n 0, 1) := by decide +kernel
theorem d_Tr_isMissing_9 : decode (z_c m_Tr_isMissing) 9 = .ok (.getfield 18, 3) := by decide +kernel
theorem d_Tr_isMissing_12 : decode (z_c m_Tr_isMissing) 12 = .ok (.iload_n 1, 1) := by decide +kernel
theorem d_Tr_isMissing_13 : decode (z_c m_Tr_isMissing) 13 = .ok (.iaload, 1) := by decide +kernel
theorem d_Tr_isMissing_14 : decode (z_c m_Tr_isMissing) 14 = .ok (.iconst (-1), 1) := by decide +kernel
theorem d_Tr_isMissing_15 : decode (z_c m_Tr_isMissing) 15 = .ok (.if_icmp .ne 7, 3) := by decide +kernel
theorem d_Tr_isMissing_18 : decode (z_c m_Tr_isMissing) 18 = .ok (.iconst 1, 1) := by decide +kernel
theorem d_Tr_isMissing_19 : decode (z_c m_Tr_isMissing) 19 = .ok (.goto 4, 3) := by decide +kernel
theorem d_Tr_isMissing_22 : decode (z_c m_Tr_isMissing) 22 = .ok (.iconst 0, 1) := by decide +kernel
theorem d_Tr_isMissing_23 : decode (z_c m_Tr_isMissing) 23 = .ok (.ireturn, 1) := by decide +kernel
set_option maxRecDepth 8000 in
theorem b_Tr_isMissing_0 {X : z_X} {N : Nat} {σ g : z_G} {Q : z_P} {a1 : Int} (hx : z_lay X N σ 0 z_SF z_RF) (h : ((a1 < 0) → Q 1 g) ∧ (¬ (a1 < 0) → (((4 ≤ a1) → Q 1 g) ∧ (¬ (4 ≤ a1) → ((0 ≤ a1 ∧ a1 < 4) ∧ ((((g 8 a1) = (-1)) → Q 1 g) ∧ (¬ ((g 8 a1) = (-1)) → Q 0 g))))))) : z_O X 2 m_Tr_isMissing [(2, 1), (0, a1)] N σ g Q := by
  refine z_Oenter mi_Tr_isMissing rfl (fun _ => ?_)
  show z_U X 2 m_Tr_isMissing 0 [(0, (2, 1)), (1, (0, a1))] [] N σ g Q
  refine z_aload_n (i := 0) (c := 1) 0 d_Tr_isMissing_0 rfl rfl rfl ?_
  refine z_iload_n (i := 1) 1 d_Tr_isMissing_1 rfl rfl ?_
  refine z_cV (c := 1) (as := [(0, a1)]) (d' := 1) (st := []) d_Tr_isMissing_2 mi_Tr_isTray ml_Tr_21 mv_Tr_isTray se_Tr_isTray rfl rfl rfl rfl (ks_F_1 hx) rfl rfl (kl_F_1 hx) rfl rfl (b_Tr_isTray_0 hx ?_)
  refine ⟨fun c1 => ?_, fun c1 => ?_⟩
  · have h := h.1 c1
    intro _
    show z_U X 2 m_Tr_isMissing 5 [(0, (2, 1)), (1, (0, a1))] [(0, 0)] N σ g Q
    refine z_if_eq (tgt := 18) d_Tr_isMissing_5 (by decide) (fun _ => ?_) (fun c => absurd (by decide) c)
    refine z_iconst (n := 1) d_Tr_isMissing_18 (by decide) ?_
    refine z_goto (tgt := 23) d_Tr_isMissing_19 (by decide) ?_
    exact z_zret d_Tr_isMissing_23 rfl (by decide) (by decide) (by decide) ⟨rfl, rfl, h⟩
  · have h := h.2 c1
    refine ⟨fun c2 => ?_, fun c2 => ?_⟩
    · have h := h.1 c2
      intro _
      show z_U X 2 m_Tr_isMissing 5 [(0, (2, 1)), (1, (0, a1))] [(0, 0)] N σ g Q
      refine z_if_eq (tgt := 18) d_Tr_isMissing_5 (by decide) (fun _ => ?_) (fun c => absurd (by decide) c)
      refine z_iconst (n := 1) d_Tr_isMissing_18 (by decide) ?_
      refine z_goto (tgt := 23) d_Tr_isMissing_19 (by decide) ?_
      exact z_zret d_Tr_isMissing_23 rfl (by decide) (by decide) (by decide) ⟨rfl, rfl, h⟩
    · have h := h.2 c2
      intro _
      show z_U X 2 m_Tr_isMissing 5 [(0, (2, 1)), (1, (0, a1))] [(0, 1)] N σ g Q
      refine z_if_eq (tgt := 18) d_Tr_isMissing_5 (by decide) (fun c => absurd c (by decide)) (fun _ => ?_)
      refine z_aload_n (i := 0) (c := 1) 0 d_Tr_isMissing_8 rfl rfl rfl ?_
      refine z_getr (c := 1) (kI := 2) (r2 := 8) d_Tr_isMissing_9 fd_Tr_lengths fl_Tr_18 rfl rfl rfl (ks_F_1 hx) (kl_F_1 hx) (kr_F_1_2 hx) ?_
      refine z_iload_n (i := 1) 1 d_Tr_isMissing_12 rfl rfl ?_
      obtain ⟨c3, h⟩ := h
      refine z_iald (c := 8) (m := 4) d_Tr_isMissing_13 rfl (ks_F_8 hx) (kl_F_8 hx) rfl (by decide) c3 ?_
      refine z_iconst (n := (-1)) d_Tr_isMissing_14 (by decide) ?_
      refine z_icmp_ne (tgt := 22) d_Tr_isMissing_15 (by decide) (fun c4 => ?_) (fun c4 => ?_)
      · have h := h.2 c4
        refine z_iconst (n := 0) d_Tr_isMissing_22 (by decide) ?_
        exact z_zret d_Tr_isMissing_23 rfl (by decide) (by decide) (by decide) ⟨rfl, rfl, h⟩
      · have h := h.1 c4
        refine z_iconst (n := 1) d_Tr_isMissing_18 (by decide) ?_
        refine z_goto (tgt := 23) d_Tr_isMissing_19 (by decide) ?_
        exact z_zret d_Tr_isMissing_23 rfl (by decide) (by decide) (by decide) ⟨rfl, rfl, h⟩
theorem d_Tr_lay_0 : decode (z_c m_Tr_lay) 0 = .ok (.aload_n 0, 1) := by decide +kernel
theorem d_Tr_lay_1 : decode (z_c m_Tr_lay) 1 = .ok (.iload_n 1, 1) := by decide +kernel
theorem d_Tr_lay_2 : decode (z_c m_Tr_lay) 2 = .ok (.invokevirtual 21, 3) := by decide +kernel
theorem d_Tr_lay_5 : decode (z_c m_Tr_lay) 5 = .ok (.ifCond .ne 4, 3) := by decide +kernel
theorem d_Tr_lay_8 : decode (z_c m_Tr_lay) 8 = .ok (.return_, 1) := by decide +kernel
theorem d_Tr_lay_9 : decode (z_c m_Tr_lay) 9 = .ok (.aload_n 0, 1) := by decide +kernel
theorem d_Tr_lay_10 : decode (z_c m_Tr_lay) 10 = .ok (.getfield 14, 3) := by decide +kernel
theorem d_Tr_lay_13 : decode (z_c m_Tr_lay) 13 = .ok (.iload_n 1, 1) := by decide +kernel
theorem d_Tr_lay_14 : decode (z_c m_Tr_lay) 14 = .ok (.iload_n 2, 1) := by decide +kernel
theorem d_Tr_lay_15 : decode (z_c m_Tr_lay) 15 = .ok (.iastore, 1) := by decide +kernel
theorem d_Tr_lay_16 : decode (z_c m_Tr_lay) 16 = .ok (.aload_n 0, 1) := by decide +kernel
theorem d_Tr_lay_17 : decode (z_c m_Tr_lay) 17 = .ok (.getfield 18, 3) := by decide +kernel
theorem d_Tr_lay_20 : decode (z_c m_Tr_lay) 20 = .ok (.iload_n 1, 1) := by decide +kernel
theorem d_Tr_lay_21 : decode (z_c m_Tr_lay) 21 = .ok (.iload_n 3, 1) := by decide +kernel
theorem d_Tr_lay_22 : decode (z_c m_Tr_lay) 22 = .ok (.iastore, 1) := by decide +kernel
theorem d_Tr_lay_23 : decode (z_c m_Tr_lay) 23 = .ok (.iconst 0, 1) := by decide +kernel
theorem d_Tr_lay_24 : decode (z_c m_Tr_lay) 24 = .ok (.istore 4, 2) := by decide +kernel
theorem d_Tr_lay_26 : decode (z_c m_Tr_lay) 26 = .ok (.iload 4, 2) := by decide +kernel
theorem d_Tr_lay_28 : decode (z_c m_Tr_lay) 28 = .ok (.bipush 60, 2) := by decide +kernel
theorem d_Tr_lay_30 : decode (z_c m_Tr_lay) 30 = .ok (.if_icmp .ge 19, 3) := by decide +kernel
theorem d_Tr_lay_33 : decode (z_c m_Tr_lay) 33 = .ok (.aload_n 0, 1) := by decide +kernel
theorem d_Tr_lay_34 : decode (z_c m_Tr_lay) 34 = .ok (.getfield 11, 3) := by decide +kernel
theorem d_Tr_lay_37 : decode (z_c m_Tr_lay) 37 = .ok (.iload_n 1, 1) := by decide +kernel
theorem d_Tr_lay_38 : decode (z_c m_Tr_lay) 38 = .ok (.aaload, 1) := by decide +kernel
theorem d_Tr_lay_39 : decode (z_c m_Tr_lay) 39 = .ok (.iload 4, 2) := by decide +kernel
theorem d_Tr_lay_41 : decode (z_c m_Tr_lay) 41 = .ok (.lconst 0, 1) := by decide +kernel
theorem d_Tr_lay_42 : decode (z_c m_Tr_lay) 42 = .ok (.lastore, 1) := by decide +kernel
theorem d_Tr_lay_43 : decode (z_c m_Tr_lay) 43 = .ok (.iinc 4 1, 3) := by decide +kernel
theorem d_Tr_lay_46 : decode (z_c m_Tr_lay) 46 = .ok (.goto (-20), 3) := by decide +kernel
theorem d_Tr_lay_49 : decode (z_c m_Tr_lay) 49 = .ok (.return_, 1) := by decide +kernel
abbrev L_Tr_lay_26 (X : z_X) (N : Nat) (σ : z_G) (x1 x4 : Int) (g : z_G) (Q : z_P) : Prop := z_U X 2 m_Tr_lay 26 [(0, (2, 1)), (1, (0, x1)), (4, (0, x4))] [] N σ g Q
set_option maxRecDepth 8000 in
theorem b_Tr_lay_0 {X : z_X} {N : Nat} {σ g : z_G} {Q : z_P} {a1 a2 a3 : Int} (hx : z_lay X N σ 0 z_SF z_RF) (h : ((a1 < 0) → Q 0 g) ∧ (¬ (a1 < 0) → (((4 ≤ a1) → Q 0 g) ∧ (¬ (4 ≤ a1) → ((0 ≤ a1 ∧ a1 < 4) ∧ L_Tr_lay_26 X N σ a1 0 (z_up (z_up g 7 a1 a2) 8 a1 a3) Q))))) : z_O X 2 m_Tr_lay [(2, 1), (0, a1), (0, a2), (0, a3)] N σ g Q := by
  refine z_Oenter mi_Tr_lay rfl (fun _ => ?_)
  show z_U X 2 m_Tr_lay 0 [(0, (2, 1)), (1, (0, a1)), (2, (0, a2)), (3, (0, a3))] [] N σ g Q
  refine z_aload_n (i := 0) (c := 1) 0 d_Tr_lay_0 rfl rfl rfl ?_
  refine z_iload_n (i := 1) 1 d_Tr_lay_1 rfl rfl ?_
  refine z_cV (c := 1) (as := [(0, a1)]) (d' := 1) (st := []) d_Tr_lay_2 mi_Tr_isTray ml_Tr_21 mv_Tr_isTray se_Tr_isTray rfl rfl rfl rfl (ks_F_1 hx) rfl rfl (kl_F_1 hx) rfl rfl (b_Tr_isTray_0 hx ?_)
  refine ⟨fun c1 => ?_, fun c1 => ?_⟩
  · have h := h.1 c1
    intro _
    show z_U X 2 m_Tr_lay 5 [(0, (2, 1)), (1, (0, a1)), (2, (0, a2)), (3, (0, a3))] [(0, 0)] N σ g Q
    refine z_if_ne (tgt := 9) d_Tr_lay_5 (by decide) (fun c => absurd (by decide) c) (fun _ => ?_)
    exact z_vret d_Tr_lay_8 rfl (by decide) (by decide) ⟨rfl, rfl, h⟩
  · have h := h.2 c1
    refine ⟨fun c2 => ?_, fun c2 => ?_⟩
    · have h := h.1 c2
      intro _
      show z_U X 2 m_Tr_lay 5 [(0, (2, 1)), (1, (0, a1)), (2, (0, a2)), (3, (0, a3))] [(0, 0)] N σ g Q
      refine z_if_ne (tgt := 9) d_Tr_lay_5 (by decide) (fun c => absurd (by decide) c) (fun _ => ?_)
      exact z_vret d_Tr_lay_8 rfl (by decide) (by decide) ⟨rfl, rfl, h⟩
    · have h := h.2 c2
      intro _
      show z_U X 2 m_Tr_lay 5 [(0, (2, 1)), (1, (0, a1)), (2, (0, a2)), (3, (0, a3))] [(0, 1)] N σ g Q
      refine z_if_ne (tgt := 9) d_Tr_lay_5 (by decide) (fun _ => ?_) (fun c => absurd c (by decide))
      refine z_aload_n (i := 0) (c := 1) 0 d_Tr_lay_9 rfl rfl rfl ?_
      refine z_getr (c := 1) (kI := 1) (r2 := 7) d_Tr_lay_10 fd_Tr_sorts fl_Tr_14 rfl rfl rfl (ks_F_1 hx) (kl_F_1 hx) (kr_F_1_1 hx) ?_
      refine z_iload_n (i := 1) 1 d_Tr_lay_13 rfl rfl ?_
      refine z_iload_n (i := 2) 2 d_Tr_lay_14 rfl rfl ?_
      obtain ⟨c3, h⟩ := h
      refine z_iast (c := 7) (m := 4) d_Tr_lay_15 rfl (ks_F_7 hx) (kl_F_7 hx) rfl (by decide) c3 ?_
      refine z_aload_n (i := 0) (c := 1) 0 d_Tr_lay_16 rfl rfl rfl ?_
      refine z_getr (c := 1) (kI := 2) (r2 := 8) d_Tr_lay_17 fd_Tr_lengths fl_Tr_18 rfl rfl rfl (ks_F_1 hx) (kl_F_1 hx) (kr_F_1_2 hx) ?_
      refine z_iload_n (i := 1) 1 d_Tr_lay_20 rfl rfl ?_
      refine z_iload_n (i := 3) 3 d_Tr_lay_21 rfl rfl ?_
      refine z_iast (c := 8) (m := 4) d_Tr_lay_22 rfl (ks_F_8 hx) (kl_F_8 hx) rfl (by decide) c3 ?_
      refine z_iconst (n := 0) d_Tr_lay_23 (by decide) ?_
      refine z_istore (ls' := [(4, (0, 0)), (0, (2, 1)), (1, (0, a1)), (2, (0, a2)), (3, (0, a3))]) d_Tr_lay_24 rfl rfl ?_
      refine z_sub (ls' := [(0, (2, 1)), (1, (0, a1)), (4, (0, 0))]) [1, 2, 0] rfl ?_
      exact h
set_option maxRecDepth 8000 in
theorem b_Tr_lay_26 {X : z_X} {N : Nat} {σ g : z_G} {Q : z_P} {x1 x4 : Int} (hx : z_lay X N σ 0 z_SF z_RF) (h : ((60 ≤ x4) → Q 0 g) ∧ (¬ (60 ≤ x4) → ((0 ≤ x1 ∧ x1 < 4) ∧ (∃ k1 : Nat, σ 2 x1 = (k1 : Int) ∧ z_sh X k1 = (2, 60) ∧ k1 < N ∧ ((0 ≤ x4 ∧ x4 < 60) ∧ ((-2147483648 ≤ (x4 + 1) ∧ (x4 + 1) ≤ 2147483647) ∧ L_Tr_lay_26 X N σ x1 (x4 + 1) (z_up g k1 x4 0) Q)))))) : L_Tr_lay_26 X N σ x1 x4 g Q := by
  refine z_iload 2 d_Tr_lay_26 rfl ?_
  refine z_bipush (n := 60) d_Tr_lay_28 (by decide) (by decide) ?_
  refine z_icmp_ge (tgt := 49) d_Tr_lay_30 (by decide) (fun c1 => ?_) (fun c1 => ?_)
  · have h := h.1 c1
    exact z_vret d_Tr_lay_49 rfl (by decide) (by decide) ⟨rfl, rfl, h⟩
  · have h := h.2 c1
    refine z_aload_n (i := 0) (c := 1) 0 d_Tr_lay_33 rfl rfl rfl ?_
    refine z_getr (c := 1) (kI := 0) (r2 := 2) d_Tr_lay_34 fd_Tr_rows fl_Tr_11 rfl rfl rfl (ks_F_1 hx) (kl_F_1 hx) (kr_F_1_0 hx) ?_
    refine z_iload_n (i := 1) 1 d_Tr_lay_37 rfl rfl ?_
    obtain ⟨c2, h⟩ := h
    obtain ⟨k1, qk1, ek1, lk1, h⟩ := h
    refine z_aald5 (c := 2) (m := 4) (r2 := ((k1 : Nat) : Int)) d_Tr_lay_38 rfl (ks_F_2 hx) (kl_F_2 hx) rfl (by decide) c2 qk1 ?_
    refine z_iload 2 d_Tr_lay_39 rfl ?_
    refine z_lconst (v := 0) d_Tr_lay_41 (by decide) (by decide) ?_
    obtain ⟨c3, h⟩ := h
    refine z_last (c := k1) (m := 60) d_Tr_lay_42 rfl ek1 lk1 rfl (by decide) c3 ?_
    obtain ⟨c4, h⟩ := h
    refine z_iinc (n := 1) (ls' := [(4, (0, x4 + 1)), (0, (2, 1)), (1, (0, x1))]) 2 d_Tr_lay_43 rfl c4 rfl rfl ?_
    refine z_goto (tgt := 26) d_Tr_lay_46 (by decide) ?_
    refine z_sub (ls' := [(0, (2, 1)), (1, (0, x1)), (4, (0, x4 + 1))]) [1, 2, 0] rfl ?_
    exact h
theorem d_Tr_sortOf_0 : decode (z_c m_Tr_sortOf) 0 = .ok (.aload_n 0, 1) := by decide +kernel
theorem d_Tr_sortOf_1 : decode (z_c m_Tr_sortOf) 1 = .ok (.iload_n 1, 1) := by decide +kernel
theorem d_Tr_sortOf_2 : decode (z_c m_Tr_sortOf) 2 = .ok (.invokevirtual 21, 3) := by decide +kernel
theorem d_Tr_sortOf_5 : decode (z_c m_Tr_sortOf) 5 = .ok (.ifCond .eq 12, 3) := by decide +kernel
theorem d_Tr_sortOf_8 : decode (z_c m_Tr_sortOf) 8 = .ok (.aload_n 0, 1) := by decide +kernel
theorem d_Tr_sortOf_9 : decode (z_c m_Tr_sortOf) 9 = .ok (.getfield 14, 3) := by decide +kernel
theorem d_Tr_sortOf_12 : decode (z_c m_Tr_sortOf) 12 = .ok (.iload_n 1, 1) := by decide +kernel
theorem d_Tr_sortOf_13 : decode (z_c m_Tr_sortOf) 13 = .ok (.iaload, 1) := by decide +kernel
theorem d_Tr_sortOf_14 : decode (z_c m_Tr_sortOf) 14 = .ok (.goto 4, 3) := by decide +kernel
theorem d_Tr_sortOf_17 : decode (z_c m_Tr_sortOf) 17 = .ok (.iconst (-1), 1) := by decide +kernel
theorem d_Tr_sortOf_18 : decode (z_c m_Tr_sortOf) 18 = .ok (.ireturn, 1) := by decide +kernel
set_option maxRecDepth 8000 in
theorem b_Tr_sortOf_0 {X : z_X} {N : Nat} {σ g : z_G} {Q : z_P} {a1 : Int} (hx : z_lay X N σ 0 z_SF z_RF) (h : ((a1 < 0) → Q (-1) g) ∧ (¬ (a1 < 0) → (((4 ≤ a1) → Q (-1) g) ∧ (¬ (4 ≤ a1) → ((0 ≤ a1 ∧ a1 < 4) ∧ Q (g 7 a1) g))))) : z_O X 2 m_Tr_sortOf [(2, 1), (0, a1)] N σ g Q := by
  refine z_Oenter mi_Tr_sortOf rfl (fun _ => ?_)
  show z_U X 2 m_Tr_sortOf 0 [(0, (2, 1)), (1, (0, a1))] [] N σ g Q
  refine z_aload_n (i := 0) (c := 1) 0 d_Tr_sortOf_0 rfl rfl rfl ?_
  refine z_iload_n (i := 1) 1 d_Tr_sortOf_1 rfl rfl ?_
  refine z_cV (c := 1) (as := [(0, a1)]) (d' := 1) (st := []) d_Tr_sortOf_2 mi_Tr_isTray ml_Tr_21 mv_Tr_isTray se_Tr_isTray rfl rfl rfl rfl (ks_F_1 hx) rfl rfl (kl_F_1 hx) rfl rfl (b_Tr_isTray_0 hx ?_)
  refine ⟨fun c1 => ?_, fun c1 => ?_⟩
  · have h := h.1 c1
    intro _
    show z_U X 2 m_Tr_sortOf 5 [(0, (2, 1)), (1, (0, a1))] [(0, 0)] N σ g Q
    refine z_if_eq (tgt := 17) d_Tr_sortOf_5 (by decide) (fun _ => ?_) (fun c => absurd (by decide) c)
    refine z_iconst (n := (-1)) d_Tr_sortOf_17 (by decide) ?_
    exact z_iret d_Tr_sortOf_18 rfl (by decide) (by decide) ⟨rfl, rfl, h⟩
  · have h := h.2 c1
    refine ⟨fun c2 => ?_, fun c2 => ?_⟩
    · have h := h.1 c2
      intro _
      show z_U X 2 m_Tr_sortOf 5 [(0, (2, 1)), (1, (0, a1))] [(0, 0)] N σ g Q
      refine z_if_eq (tgt := 17) d_Tr_sortOf_5 (by decide) (fun _ => ?_) (fun c => absurd (by decide) c)
      refine z_iconst (n := (-1)) d_Tr_sortOf_17 (by decide) ?_
      exact z_iret d_Tr_sortOf_18 rfl (by decide) (by decide) ⟨rfl, rfl, h⟩
    · have h := h.2 c2
      intro _
      show z_U X 2 m_Tr_sortOf 5 [(0, (2, 1)), (1, (0, a1))] [(0, 1)] N σ g Q
      refine z_if_eq (tgt := 17) d_Tr_sortOf_5 (by decide) (fun c => absurd c (by decide)) (fun _ => ?_)
      refine z_aload_n (i := 0) (c := 1) 0 d_Tr_sortOf_8 rfl rfl rfl ?_
      refine z_getr (c := 1) (kI := 1) (r2 := 7) d_Tr_sortOf_9 fd_Tr_sorts fl_Tr_14 rfl rfl rfl (ks_F_1 hx) (kl_F_1 hx) (kr_F_1_1 hx) ?_
      refine z_iload_n (i := 1) 1 d_Tr_sortOf_12 rfl rfl ?_
      obtain ⟨c3, h⟩ := h
      refine z_iald (c := 7) (m := 4) d_Tr_sortOf_13 rfl (ks_F_7 hx) (kl_F_7 hx) rfl (by decide) c3 ?_
      refine z_goto (tgt := 18) d_Tr_sortOf_14 (by decide) ?_
      exact z_iret d_Tr_sortOf_18 rfl (by decide) (by decide) ⟨rfl, rfl, h⟩
theorem d_Vi_enter_0 : decode (z_c m_Vi_enter) 0 = .ok (.aload_n 1, 1) := by decide +kernel
theorem d_Vi_enter_1 : decode (z_c m_Vi_enter) 1 = .ok (.invokevirtual 29, 3) := by decide +kernel
theorem d_Vi_enter_4 : decode (z_c m_Vi_enter) 4 = .ok (.aload_n 1, 1) := by decide +kernel
theorem d_Vi_enter_5 : decode (z_c m_Vi_enter) 5 = .ok (.invokevirtual 35, 3) := by decide +kernel
theorem d_Vi_enter_8 : decode (z_c m_Vi_enter) 8 = .ok (.invokestatic 38, 3) := by decide +kernel
theorem d_Vi_enter_11 : decode (z_c m_Vi_enter) 11 = .ok (.istore_n 2, 1) := by decide +kernel
theorem d_Vi_enter_12 : decode (z_c m_Vi_enter) 12 = .ok (.aload_n 0, 1) := by decide +kernel
theorem d_Vi_enter_13 : decode (z_c m_Vi_enter) 13 = .ok (.iload_n 2, 1) := by decide +kernel
theorem d_Vi_enter_14 : decode (z_c m_Vi_enter) 14 = .ok (.invokevirtual 42, 3) := by decide +kernel
theorem d_Vi_enter_17 : decode (z_c m_Vi_enter) 17 = .ok (.istore_n 3, 1) := by decide +kernel
theorem d_Vi_enter_18 : decode (z_c m_Vi_enter) 18 = .ok (.aload_n 0, 1) := by decide +kernel
theorem d_Vi_enter_19 : decode (z_c m_Vi_enter) 19 = .ok (.getfield 21, 3) := by decide +kernel
theorem d_Vi_enter_22 : decode (z_c m_Vi_enter) 22 = .ok (.sipush 200, 3) := by decide +kernel
theorem d_Vi_enter_25 : decode (z_c m_Vi_enter) 25 = .ok (.if_icmp .ge 21, 3) := by decide +kernel
theorem d_Vi_enter_28 : decode (z_c m_Vi_enter) 28 = .ok (.iload_n 3, 1) := by decide +kernel
theorem d_Vi_enter_29 : decode (z_c m_Vi_enter) 29 = .ok (.aload_n 0, 1) := by decide +kernel
theorem d_Vi_enter_30 : decode (z_c m_Vi_enter) 30 = .ok (.getfield 21, 3) := by decide +kernel
theorem d_Vi_enter_33 : decode (z_c m_Vi_enter) 33 = .ok (.if_icmp .ge 14, 3) := by decide +kernel
theorem d_Vi_enter_36 : decode (z_c m_Vi_enter) 36 = .ok (.aload_n 0, 1) := by decide +kernel
theorem d_Vi_enter_37 : decode (z_c m_Vi_enter) 37 = .ok (.getfield 9, 3) := by decide +kernel
theorem d_Vi_enter_40 : decode (z_c m_Vi_enter) 40 = .ok (.iload_n 3, 1) := by decide +kernel
theorem d_Vi_enter_41 : decode (z_c m_Vi_enter) 41 = .ok (.iaload, 1) := by decide +kernel
theorem d_Vi_enter_42 : decode (z_c m_Vi_enter) 42 = .ok (.iload_n 2, 1) := by decide +kernel
theorem d_Vi_enter_43 : decode (z_c m_Vi_enter) 43 = .ok (.if_icmp .ne 4, 3) := by decide +kernel
theorem d_Vi_enter_46 : decode (z_c m_Vi_enter) 46 = .ok (.return_, 1) := by decide +kernel
theorem d_Vi_enter_47 : decode (z_c m_Vi_enter) 47 = .ok (.aload_n 0, 1) := by decide +kernel
theorem d_Vi_enter_48 : decode (z_c m_Vi_enter) 48 = .ok (.getfield 21, 3) := by decide +kernel
theorem d_Vi_enter_51 : decode (z_c m_Vi_enter) 51 = .ok (.istore 4, 2) := by decide +kernel
theorem d_Vi_enter_53 : decode (z_c m_Vi_enter) 53 = .ok (.iload 4, 2) := by decide +kernel
theorem d_Vi_enter_55 : decode (z_c m_Vi_enter) 55 = .ok (.iload_n 3, 1) := by decide +kernel
theorem d_Vi_enter_56 : decode (z_c m_Vi_enter) 56 = .ok (.if_icmp .le 25, 3) := by decide +kernel
theorem d_Vi_enter_59 : decode (z_c m_Vi_enter) 59 = .ok (.aload_n 0, 1) := by decide +kernel
theorem d_Vi_enter_60 : decode (z_c m_Vi_enter) 60 = .ok (.getfield 9, 3) := by decide +kernel
theorem d_Vi_enter_63 : decode (z_c m_Vi_enter) 63 = .ok (.iload 4, 2) := by decide +kernel
theorem d_Vi_enter_65 : decode (z_c m_Vi_enter) 65 = .ok (.aload_n 0, 1) := by decide +kernel
theorem d_Vi_enter_66 : decode (z_c m_Vi_enter) 66 = .ok (.getfield 9, 3) := by decide +kernel
theorem d_Vi_enter_69 : decode (z_c m_Vi_enter) 69 = .ok (.iload 4, 2) := by decide +kernel
theorem d_Vi_enter_71 : decode (z_c m_Vi_enter) 71 = .ok (.iconst 1, 1) := by decide +kernel
theorem d_Vi_enter_72 : decode (z_c m_Vi_enter) 72 = .ok (.isub, 1) := by decide +kernel
theorem d_Vi_enter_73 : decode (z_c m_Vi_enter) 73 = .ok (.iaload, 1) := by decide +kernel
theorem d_Vi_enter_74 : decode (z_c m_Vi_enter) 74 = .ok (.iastore, 1) := by decide +kernel
theorem d_Vi_enter_75 : decode (z_c m_Vi_enter) 75 = .ok (.iinc 4 (-1), 3) := by decide +kernel
theorem d_Vi_enter_78 : decode (z_c m_Vi_enter) 78 = .ok (.goto (-25), 3) := by decide +kernel
theorem d_Vi_enter_81 : decode (z_c m_Vi_enter) 81 = .ok (.aload_n 0, 1) := by decide +kernel
theorem d_Vi_enter_82 : decode (z_c m_Vi_enter) 82 = .ok (.getfield 9, 3) := by decide +kernel
theorem d_Vi_enter_85 : decode (z_c m_Vi_enter) 85 = .ok (.iload_n 3, 1) := by decide +kernel
theorem d_Vi_enter_86 : decode (z_c m_Vi_enter) 86 = .ok (.iload_n 2, 1) := by decide +kernel
theorem d_Vi_enter_87 : decode (z_c m_Vi_enter) 87 = .ok (.iastore, 1) := by decide +kernel
theorem d_Vi_enter_88 : decode (z_c m_Vi_enter) 88 = .ok (.aload_n 0, 1) := by decide +kernel
theorem d_Vi_enter_89 : decode (z_c m_Vi_enter) 89 = .ok (.dup, 1) := by decide +kernel
theorem d_Vi_enter_90 : decode (z_c m_Vi_enter) 90 = .ok (.getfield 21, 3) := by decide +kernel
theorem d_Vi_enter_93 : decode (z_c m_Vi_enter) 93 = .ok (.iconst 1, 1) := by decide +kernel
theorem d_Vi_enter_94 : decode (z_c m_Vi_enter) 94 = .ok (.iadd, 1) := by decide +kernel
theorem d_Vi_enter_95 : decode (z_c m_Vi_enter) 95 = .ok (.putfield 21, 3) := by decide +kernel
theorem d_Vi_enter_98 : decode (z_c m_Vi_enter) 98 = .ok (.return_, 1) := by decide +kernel
abbrev L_Vi_enter_53 (X : z_X) (N : Nat) (σ : z_G) (x2 x3 x4 : Int) (o : Nat) (g : z_G) (Q : z_P) : Prop := z_U X 2 m_Vi_enter 53 [(0, (2, ((o : Nat) : Int))), (2, (0, x2)), (3, (0, x3)), (4, (0, x4))] [] N σ g Q
set_option maxRecDepth 8000 in
theorem b_Vi_enter_0 {X : z_X} {N : Nat} {σ g : z_G} {Q : z_P} {o p1 : Nat} (ho : z_lay X N σ o z_SVi z_RVi) (hp1 : z_lay X N σ p1 z_SSp z_RSp) (h : (-2147483648 ≤ ((g p1 0) + (g p1 2)) ∧ ((g p1 0) + (g p1 2)) ≤ 2147483647) ∧ ((-2147483648 ≤ ((g p1 1) + (g p1 3)) ∧ ((g p1 1) + (g p1 3)) ≤ 2147483647) ∧ ((-2147483648 ≤ (((g p1 0) + (g p1 2)) * 10000) ∧ (((g p1 0) + (g p1 2)) * 10000) ≤ 2147483647) ∧ ((-2147483648 ≤ ((((g p1 0) + (g p1 2)) * 10000) + ((g p1 1) + (g p1 3))) ∧ ((((g p1 0) + (g p1 2)) * 10000) + ((g p1 1) + (g p1 3))) ≤ 2147483647) ∧ (z_O X 1 m_Vi_placeOf [(2, ((o : Nat) : Int)), (0, (((g p1 0) + (g p1 2)) * 10000) + ((g p1 1) + (g p1 3)))] N σ g (fun r0 g0 => (((200 ≤ (g0 o 1)) → Q 0 g0) ∧ (¬ (200 ≤ (g0 o 1)) → ((((g0 o 1) ≤ r0) → L_Vi_enter_53 X N σ ((((g p1 0) + (g p1 2)) * 10000) + ((g p1 1) + (g p1 3))) r0 (g0 o 1) o g0 Q) ∧ (¬ ((g0 o 1) ≤ r0) → ((0 ≤ r0 ∧ r0 < 200) ∧ ((((g0 (o + 1) r0) = ((((g p1 0) + (g p1 2)) * 10000) + ((g p1 1) + (g p1 3)))) → Q 0 g0) ∧ (¬ ((g0 (o + 1) r0) = ((((g p1 0) + (g p1 2)) * 10000) + ((g p1 1) + (g p1 3)))) → L_Vi_enter_53 X N σ ((((g p1 0) + (g p1 2)) * 10000) + ((g p1 1) + (g p1 3))) r0 (g0 o 1) o g0 Q))))))))))))) : z_O X 2 m_Vi_enter [(2, ((o : Nat) : Int)), (2, ((p1 : Nat) : Int))] N σ g Q := by
  refine z_Oenter mi_Vi_enter rfl (fun _ => ?_)
  show z_U X 2 m_Vi_enter 0 [(0, (2, ((o : Nat) : Int))), (1, (2, ((p1 : Nat) : Int)))] [] N σ g Q
  refine z_aload_n (i := 1) (c := p1) 1 d_Vi_enter_0 rfl rfl rfl ?_
  refine z_cV (c := p1) (as := []) (d' := 1) (st := []) d_Vi_enter_1 mi_Sp_ownTop ml_Vi_29 mv_Sp_ownTop se_Sp_ownTop rfl rfl rfl rfl (ks_Sp_0 hp1) rfl rfl (kl_Sp_0 hp1) rfl rfl (b_Sp_ownTop_0 hp1 ?_)
  obtain ⟨c1, h⟩ := h
  refine ⟨c1, ?_⟩
  intro _
  show z_U X 2 m_Vi_enter 4 [(0, (2, ((o : Nat) : Int))), (1, (2, ((p1 : Nat) : Int)))] [(0, (g p1 0) + (g p1 2))] N σ g Q
  refine z_aload_n (i := 1) (c := p1) 1 d_Vi_enter_4 rfl rfl rfl ?_
  refine z_cV (c := p1) (as := []) (d' := 1) (st := [(0, (g p1 0) + (g p1 2))]) d_Vi_enter_5 mi_Sp_ownBottom ml_Vi_35 mv_Sp_ownBottom se_Sp_ownBottom rfl rfl rfl rfl (ks_Sp_0 hp1) rfl rfl (kl_Sp_0 hp1) rfl rfl (b_Sp_ownBottom_0 hp1 ?_)
  obtain ⟨c2, h⟩ := h
  refine ⟨c2, ?_⟩
  intro _
  show z_U X 2 m_Vi_enter 8 [(0, (2, ((o : Nat) : Int))), (1, (2, ((p1 : Nat) : Int)))] [(0, (g p1 1) + (g p1 3)), (0, (g p1 0) + (g p1 2))] N σ g Q
  refine z_cS (as := [(0, (g p1 0) + (g p1 2)), (0, (g p1 1) + (g p1 3))]) (d' := 1) (st := []) d_Vi_enter_8 mi_Vi_keyOf ml_Vi_38 ms_Vi_keyOf rfl rfl rfl rfl rfl (b_Vi_keyOf_0  ?_)
  obtain ⟨c3, h⟩ := h
  refine ⟨c3, ?_⟩
  obtain ⟨c4, h⟩ := h
  refine ⟨c4, ?_⟩
  intro _
  show z_U X 2 m_Vi_enter 11 [(0, (2, ((o : Nat) : Int))), (1, (2, ((p1 : Nat) : Int)))] [(0, (((g p1 0) + (g p1 2)) * 10000) + ((g p1 1) + (g p1 3)))] N σ g Q
  refine z_istore_n (i := 2) (ls' := [(2, (0, (((g p1 0) + (g p1 2)) * 10000) + ((g p1 1) + (g p1 3)))), (0, (2, ((o : Nat) : Int))), (1, (2, ((p1 : Nat) : Int)))]) d_Vi_enter_11 rfl rfl rfl ?_
  refine z_aload_n (i := 0) (c := o) 1 d_Vi_enter_12 rfl rfl rfl ?_
  refine z_iload_n (i := 2) 0 d_Vi_enter_13 rfl rfl ?_
  refine z_cV (c := o) (as := [(0, (((g p1 0) + (g p1 2)) * 10000) + ((g p1 1) + (g p1 3)))]) (d' := 1) (st := []) d_Vi_enter_14 mi_Vi_placeOf ml_Vi_42 mv_Vi_placeOf se_Vi_placeOf rfl rfl rfl rfl (ks_Vi_0 ho) rfl rfl (kl_Vi_0 ho) rfl rfl (z_Omono h (fun r0 g0 _ h hro => ?_))
  show z_U X 2 m_Vi_enter 17 [(2, (0, (((g p1 0) + (g p1 2)) * 10000) + ((g p1 1) + (g p1 3)))), (0, (2, ((o : Nat) : Int))), (1, (2, ((p1 : Nat) : Int)))] [(0, r0)] N σ g0 Q
  refine z_istore_n (i := 3) (ls' := [(3, (0, r0)), (2, (0, (((g p1 0) + (g p1 2)) * 10000) + ((g p1 1) + (g p1 3)))), (0, (2, ((o : Nat) : Int))), (1, (2, ((p1 : Nat) : Int)))]) d_Vi_enter_17 rfl rfl rfl ?_
  refine z_aload_n (i := 0) (c := o) 2 d_Vi_enter_18 rfl rfl rfl ?_
  refine z_geti (c := o) (kI := 1) d_Vi_enter_19 fd_Vi_many fl_Vi_21 (Or.inl rfl) rfl rfl (ks_Vi_0 ho) (kl_Vi_0 ho) ?_
  refine z_sipush (n := 200) d_Vi_enter_22 (by decide) (by decide) ?_
  refine z_icmp_ge (tgt := 46) d_Vi_enter_25 (by decide) (fun c5 => ?_) (fun c5 => ?_)
  · have h := h.1 c5
    exact z_vret d_Vi_enter_46 rfl (by decide) (by decide) ⟨rfl, rfl, h⟩
  · have h := h.2 c5
    refine z_iload_n (i := 3) 0 d_Vi_enter_28 rfl rfl ?_
    refine z_aload_n (i := 0) (c := o) 2 d_Vi_enter_29 rfl rfl rfl ?_
    refine z_geti (c := o) (kI := 1) d_Vi_enter_30 fd_Vi_many fl_Vi_21 (Or.inl rfl) rfl rfl (ks_Vi_0 ho) (kl_Vi_0 ho) ?_
    refine z_icmp_ge (tgt := 47) d_Vi_enter_33 (by decide) (fun c6 => ?_) (fun c6 => ?_)
    · have h := h.1 c6
      refine z_aload_n (i := 0) (c := o) 2 d_Vi_enter_47 rfl rfl rfl ?_
      refine z_geti (c := o) (kI := 1) d_Vi_enter_48 fd_Vi_many fl_Vi_21 (Or.inl rfl) rfl rfl (ks_Vi_0 ho) (kl_Vi_0 ho) ?_
      refine z_istore (ls' := [(4, (0, g0 o 1)), (3, (0, r0)), (2, (0, (((g p1 0) + (g p1 2)) * 10000) + ((g p1 1) + (g p1 3)))), (0, (2, ((o : Nat) : Int))), (1, (2, ((p1 : Nat) : Int)))]) d_Vi_enter_51 rfl rfl ?_
      refine z_sub (ls' := [(0, (2, ((o : Nat) : Int))), (2, (0, (((g p1 0) + (g p1 2)) * 10000) + ((g p1 1) + (g p1 3)))), (3, (0, r0)), (4, (0, g0 o 1))]) [3, 2, 1, 0] rfl ?_
      exact h
    · have h := h.2 c6
      refine z_aload_n (i := 0) (c := o) 2 d_Vi_enter_36 rfl rfl rfl ?_
      refine z_getr (c := o) (kI := 0) (r2 := ((o + 1 : Nat) : Int)) d_Vi_enter_37 fd_Vi_keys fl_Vi_9 rfl rfl rfl (ks_Vi_0 ho) (kl_Vi_0 ho) (kr_Vi_0_0 ho) ?_
      refine z_iload_n (i := 3) 0 d_Vi_enter_40 rfl rfl ?_
      obtain ⟨c7, h⟩ := h
      refine z_iald (c := (o + 1)) (m := 200) d_Vi_enter_41 rfl (ks_Vi_1 ho) (kl_Vi_1 ho) rfl (by decide) c7 ?_
      refine z_iload_n (i := 2) 1 d_Vi_enter_42 rfl rfl ?_
      refine z_icmp_ne (tgt := 47) d_Vi_enter_43 (by decide) (fun c8 => ?_) (fun c8 => ?_)
      · have h := h.2 c8
        refine z_aload_n (i := 0) (c := o) 2 d_Vi_enter_47 rfl rfl rfl ?_
        refine z_geti (c := o) (kI := 1) d_Vi_enter_48 fd_Vi_many fl_Vi_21 (Or.inl rfl) rfl rfl (ks_Vi_0 ho) (kl_Vi_0 ho) ?_
        refine z_istore (ls' := [(4, (0, g0 o 1)), (3, (0, r0)), (2, (0, (((g p1 0) + (g p1 2)) * 10000) + ((g p1 1) + (g p1 3)))), (0, (2, ((o : Nat) : Int))), (1, (2, ((p1 : Nat) : Int)))]) d_Vi_enter_51 rfl rfl ?_
        refine z_sub (ls' := [(0, (2, ((o : Nat) : Int))), (2, (0, (((g p1 0) + (g p1 2)) * 10000) + ((g p1 1) + (g p1 3)))), (3, (0, r0)), (4, (0, g0 o 1))]) [3, 2, 1, 0] rfl ?_
        exact h
      · have h := h.1 c8
        exact z_vret d_Vi_enter_46 rfl (by decide) (by decide) ⟨rfl, rfl, h⟩
set_option maxRecDepth 8000 in
theorem b_Vi_enter_53 {X : z_X} {N : Nat} {σ g : z_G} {Q : z_P} {x2 x3 x4 : Int} {o p1 : Nat} (ho : z_lay X N σ o z_SVi z_RVi) (hp1 : z_lay X N σ p1 z_SSp z_RSp) (h : ((x4 ≤ x3) → ((0 ≤ x3 ∧ x3 < 200) ∧ ((-2147483648 ≤ ((g o 1) + 1) ∧ ((g o 1) + 1) ≤ 2147483647) ∧ Q 0 (z_up (z_up g (o + 1) x3 x2) o 1 ((g o 1) + 1))))) ∧ (¬ (x4 ≤ x3) → ((-2147483648 ≤ (x4 - 1) ∧ (x4 - 1) ≤ 2147483647) ∧ ((0 ≤ (x4 - 1) ∧ (x4 - 1) < 200) ∧ ((0 ≤ x4 ∧ x4 < 200) ∧ ((-2147483648 ≤ (x4 + (-1)) ∧ (x4 + (-1)) ≤ 2147483647) ∧ L_Vi_enter_53 X N σ x2 x3 (x4 + (-1)) o (z_up g (o + 1) x4 (g (o + 1) (x4 - 1))) Q)))))) : L_Vi_enter_53 X N σ x2 x3 x4 o g Q := by
  refine z_iload 3 d_Vi_enter_53 rfl ?_
  refine z_iload_n (i := 3) 2 d_Vi_enter_55 rfl rfl ?_
  refine z_icmp_le (tgt := 81) d_Vi_enter_56 (by decide) (fun c1 => ?_) (fun c1 => ?_)
  · have h := h.1 c1
    refine z_aload_n (i := 0) (c := o) 0 d_Vi_enter_81 rfl rfl rfl ?_
    refine z_getr (c := o) (kI := 0) (r2 := ((o + 1 : Nat) : Int)) d_Vi_enter_82 fd_Vi_keys fl_Vi_9 rfl rfl rfl (ks_Vi_0 ho) (kl_Vi_0 ho) (kr_Vi_0_0 ho) ?_
    refine z_iload_n (i := 3) 2 d_Vi_enter_85 rfl rfl ?_
    refine z_iload_n (i := 2) 1 d_Vi_enter_86 rfl rfl ?_
    obtain ⟨c2, h⟩ := h
    refine z_iast (c := (o + 1)) (m := 200) d_Vi_enter_87 rfl (ks_Vi_1 ho) (kl_Vi_1 ho) rfl (by decide) c2 ?_
    refine z_aload_n (i := 0) (c := o) 0 d_Vi_enter_88 rfl rfl rfl ?_
    refine z_dup d_Vi_enter_89 rfl ?_
    refine z_geti (c := o) (kI := 1) d_Vi_enter_90 fd_Vi_many fl_Vi_21 (Or.inl rfl) rfl rfl (ks_Vi_0 ho) (kl_Vi_0 ho) ?_
    refine z_ti (b := g o 1) (by simp [z_up]) ?_
    refine z_iconst (n := 1) d_Vi_enter_93 (by decide) ?_
    obtain ⟨c3, h⟩ := h
    refine z_iadd d_Vi_enter_94 c3 ?_
    refine z_puti (c := o) (kI := 1) d_Vi_enter_95 fd_Vi_many fl_Vi_21 pf_Vi_many rfl rfl rfl rfl (ks_Vi_0 ho) (kl_Vi_0 ho) ?_
    exact z_vret d_Vi_enter_98 rfl (by decide) (by decide) ⟨rfl, rfl, h⟩
  · have h := h.2 c1
    refine z_aload_n (i := 0) (c := o) 0 d_Vi_enter_59 rfl rfl rfl ?_
    refine z_getr (c := o) (kI := 0) (r2 := ((o + 1 : Nat) : Int)) d_Vi_enter_60 fd_Vi_keys fl_Vi_9 rfl rfl rfl (ks_Vi_0 ho) (kl_Vi_0 ho) (kr_Vi_0_0 ho) ?_
    refine z_iload 3 d_Vi_enter_63 rfl ?_
    refine z_aload_n (i := 0) (c := o) 0 d_Vi_enter_65 rfl rfl rfl ?_
    refine z_getr (c := o) (kI := 0) (r2 := ((o + 1 : Nat) : Int)) d_Vi_enter_66 fd_Vi_keys fl_Vi_9 rfl rfl rfl (ks_Vi_0 ho) (kl_Vi_0 ho) (kr_Vi_0_0 ho) ?_
    refine z_iload 3 d_Vi_enter_69 rfl ?_
    refine z_iconst (n := 1) d_Vi_enter_71 (by decide) ?_
    obtain ⟨c4, h⟩ := h
    refine z_isub d_Vi_enter_72 c4 ?_
    obtain ⟨c5, h⟩ := h
    refine z_iald (c := (o + 1)) (m := 200) d_Vi_enter_73 rfl (ks_Vi_1 ho) (kl_Vi_1 ho) rfl (by decide) c5 ?_
    obtain ⟨c6, h⟩ := h
    refine z_iast (c := (o + 1)) (m := 200) d_Vi_enter_74 rfl (ks_Vi_1 ho) (kl_Vi_1 ho) rfl (by decide) c6 ?_
    obtain ⟨c7, h⟩ := h
    refine z_iinc (n := (-1)) (ls' := [(4, (0, x4 + (-1))), (0, (2, ((o : Nat) : Int))), (2, (0, x2)), (3, (0, x3))]) 3 d_Vi_enter_75 rfl c7 rfl rfl ?_
    refine z_goto (tgt := 53) d_Vi_enter_78 (by decide) ?_
    refine z_sub (ls' := [(0, (2, ((o : Nat) : Int))), (2, (0, x2)), (3, (0, x3)), (4, (0, x4 + (-1)))]) [1, 2, 3, 0] rfl ?_
    exact h
theorem d_Vi_holds_0 : decode (z_c m_Vi_holds) 0 = .ok (.iload_n 1, 1) := by decide +kernel
theorem d_Vi_holds_1 : decode (z_c m_Vi_holds) 1 = .ok (.iload_n 2, 1) := by decide +kernel
theorem d_Vi_holds_2 : decode (z_c m_Vi_holds) 2 = .ok (.invokestatic 38, 3) := by decide +kernel
theorem d_Vi_holds_5 : decode (z_c m_Vi_holds) 5 = .ok (.istore_n 3, 1) := by decide +kernel
theorem d_Vi_holds_6 : decode (z_c m_Vi_holds) 6 = .ok (.aload_n 0, 1) := by decide +kernel
theorem d_Vi_holds_7 : decode (z_c m_Vi_holds) 7 = .ok (.iload_n 3, 1) := by decide +kernel
theorem d_Vi_holds_8 : decode (z_c m_Vi_holds) 8 = .ok (.invokevirtual 42, 3) := by decide +kernel
theorem d_Vi_holds_11 : decode (z_c m_Vi_holds) 11 = .ok (.istore 4, 2) := by decide +kernel
theorem d_Vi_holds_13 : decode (z_c m_Vi_holds) 13 = .ok (.iload 4, 2) := by decide +kernel
theorem d_Vi_holds_15 : decode (z_c m_Vi_holds) 15 = .ok (.aload_n 0, 1) := by decide +kernel
theorem d_Vi_holds_16 : decode (z_c m_Vi_holds) 16 = .ok (.getfield 21, 3) := by decide +kernel
theorem d_Vi_holds_19 : decode (z_c m_Vi_holds) 19 = .ok (.if_icmp .ge 18, 3) := by decide +kernel
theorem d_Vi_holds_22 : decode (z_c m_Vi_holds) 22 = .ok (.aload_n 0, 1) := by decide +kernel
theorem d_Vi_holds_23 : decode (z_c m_Vi_holds) 23 = .ok (.getfield 9, 3) := by decide +kernel
theorem d_Vi_holds_26 : decode (z_c m_Vi_holds) 26 = .ok (.iload 4, 2) := by decide +kernel
theorem d_Vi_holds_28 : decode (z_c m_Vi_holds) 28 = .ok (.iaload, 1) := by decide +kernel
theorem d_Vi_holds_29 : decode (z_c m_Vi_holds) 29 = .ok (.iload_n 3, 1) := by decide +kernel
theorem d_Vi_holds_30 : decode (z_c m_Vi_holds) 30 = .ok (.if_icmp .ne 7, 3) := by decide +kernel
theorem d_Vi_holds_33 : decode (z_c m_Vi_holds) 33 = .ok (.iconst 1, 1) := by decide +kernel
theorem d_Vi_holds_34 : decode (z_c m_Vi_holds) 34 = .ok (.goto 4, 3) := by decide +kernel
theorem d_Vi_holds_37 : decode (z_c m_Vi_holds) 37 = .ok (.iconst 0, 1) := by decide +kernel
theorem d_Vi_holds_38 : decode (z_c m_Vi_holds) 38 = .ok (.ireturn, 1) := by decide +kernel
set_option maxRecDepth 8000 in
theorem b_Vi_holds_0 {X : z_X} {N : Nat} {σ g : z_G} {Q : z_P} {a1 a2 : Int} {o : Nat} (ho : z_lay X N σ o z_SVi z_RVi) (h : (-2147483648 ≤ (a1 * 10000) ∧ (a1 * 10000) ≤ 2147483647) ∧ ((-2147483648 ≤ ((a1 * 10000) + a2) ∧ ((a1 * 10000) + a2) ≤ 2147483647) ∧ (z_O X 1 m_Vi_placeOf [(2, ((o : Nat) : Int)), (0, (a1 * 10000) + a2)] N σ g (fun r0 g0 => ((((g0 o 1) ≤ r0) → Q 0 g0) ∧ (¬ ((g0 o 1) ≤ r0) → ((0 ≤ r0 ∧ r0 < 200) ∧ ((((g0 (o + 1) r0) = ((a1 * 10000) + a2)) → Q 1 g0) ∧ (¬ ((g0 (o + 1) r0) = ((a1 * 10000) + a2)) → Q 0 g0))))))))) : z_O X 2 m_Vi_holds [(2, ((o : Nat) : Int)), (0, a1), (0, a2)] N σ g Q := by
  refine z_Oenter mi_Vi_holds rfl (fun _ => ?_)
  show z_U X 2 m_Vi_holds 0 [(0, (2, ((o : Nat) : Int))), (1, (0, a1)), (2, (0, a2))] [] N σ g Q
  refine z_iload_n (i := 1) 1 d_Vi_holds_0 rfl rfl ?_
  refine z_iload_n (i := 2) 2 d_Vi_holds_1 rfl rfl ?_
  refine z_cS (as := [(0, a1), (0, a2)]) (d' := 1) (st := []) d_Vi_holds_2 mi_Vi_keyOf ml_Vi_38 ms_Vi_keyOf rfl rfl rfl rfl rfl (b_Vi_keyOf_0  ?_)
  obtain ⟨c1, h⟩ := h
  refine ⟨c1, ?_⟩
  obtain ⟨c2, h⟩ := h
  refine ⟨c2, ?_⟩
  intro _
  show z_U X 2 m_Vi_holds 5 [(0, (2, ((o : Nat) : Int))), (1, (0, a1)), (2, (0, a2))] [(0, (a1 * 10000) + a2)] N σ g Q
  refine z_istore_n (i := 3) (ls' := [(3, (0, (a1 * 10000) + a2)), (0, (2, ((o : Nat) : Int))), (1, (0, a1)), (2, (0, a2))]) d_Vi_holds_5 rfl rfl rfl ?_
  refine z_aload_n (i := 0) (c := o) 1 d_Vi_holds_6 rfl rfl rfl ?_
  refine z_iload_n (i := 3) 0 d_Vi_holds_7 rfl rfl ?_
  refine z_cV (c := o) (as := [(0, (a1 * 10000) + a2)]) (d' := 1) (st := []) d_Vi_holds_8 mi_Vi_placeOf ml_Vi_42 mv_Vi_placeOf se_Vi_placeOf rfl rfl rfl rfl (ks_Vi_0 ho) rfl rfl (kl_Vi_0 ho) rfl rfl (z_Omono h (fun r0 g0 _ h hro => ?_))
  show z_U X 2 m_Vi_holds 11 [(3, (0, (a1 * 10000) + a2)), (0, (2, ((o : Nat) : Int))), (1, (0, a1)), (2, (0, a2))] [(0, r0)] N σ g0 Q
  refine z_istore (ls' := [(4, (0, r0)), (3, (0, (a1 * 10000) + a2)), (0, (2, ((o : Nat) : Int))), (1, (0, a1)), (2, (0, a2))]) d_Vi_holds_11 rfl rfl ?_
  refine z_iload 0 d_Vi_holds_13 rfl ?_
  refine z_aload_n (i := 0) (c := o) 2 d_Vi_holds_15 rfl rfl rfl ?_
  refine z_geti (c := o) (kI := 1) d_Vi_holds_16 fd_Vi_many fl_Vi_21 (Or.inl rfl) rfl rfl (ks_Vi_0 ho) (kl_Vi_0 ho) ?_
  refine z_icmp_ge (tgt := 37) d_Vi_holds_19 (by decide) (fun c3 => ?_) (fun c3 => ?_)
  · have h := h.1 c3
    refine z_iconst (n := 0) d_Vi_holds_37 (by decide) ?_
    exact z_zret d_Vi_holds_38 rfl (by decide) (by decide) (by decide) ⟨rfl, rfl, h⟩
  · have h := h.2 c3
    refine z_aload_n (i := 0) (c := o) 2 d_Vi_holds_22 rfl rfl rfl ?_
    refine z_getr (c := o) (kI := 0) (r2 := ((o + 1 : Nat) : Int)) d_Vi_holds_23 fd_Vi_keys fl_Vi_9 rfl rfl rfl (ks_Vi_0 ho) (kl_Vi_0 ho) (kr_Vi_0_0 ho) ?_
    refine z_iload 0 d_Vi_holds_26 rfl ?_
    obtain ⟨c4, h⟩ := h
    refine z_iald (c := (o + 1)) (m := 200) d_Vi_holds_28 rfl (ks_Vi_1 ho) (kl_Vi_1 ho) rfl (by decide) c4 ?_
    refine z_iload_n (i := 3) 1 d_Vi_holds_29 rfl rfl ?_
    refine z_icmp_ne (tgt := 37) d_Vi_holds_30 (by decide) (fun c5 => ?_) (fun c5 => ?_)
    · have h := h.2 c5
      refine z_iconst (n := 0) d_Vi_holds_37 (by decide) ?_
      exact z_zret d_Vi_holds_38 rfl (by decide) (by decide) (by decide) ⟨rfl, rfl, h⟩
    · have h := h.1 c5
      refine z_iconst (n := 1) d_Vi_holds_33 (by decide) ?_
      refine z_goto (tgt := 38) d_Vi_holds_34 (by decide) ?_
      exact z_zret d_Vi_holds_38 rfl (by decide) (by decide) (by decide) ⟨rfl, rfl, h⟩
theorem d_Bd_goAcross_0 : decode (z_c m_Bd_goAcross) 0 = .ok (.aload_n 0, 1) := by decide +kernel
theorem d_Bd_goAcross_1 : decode (z_c m_Bd_goAcross) 1 = .ok (.getfield 12, 3) := by decide +kernel
theorem d_Bd_goAcross_4 : decode (z_c m_Bd_goAcross) 4 = .ok (.invokevirtual 87, 3) := by decide +kernel
theorem d_Bd_goAcross_7 : decode (z_c m_Bd_goAcross) 7 = .ok (.aload_n 0, 1) := by decide +kernel
theorem d_Bd_goAcross_8 : decode (z_c m_Bd_goAcross) 8 = .ok (.getfield 28, 3) := by decide +kernel
theorem d_Bd_goAcross_11 : decode (z_c m_Bd_goAcross) 11 = .ok (.aload_n 0, 1) := by decide +kernel
theorem d_Bd_goAcross_12 : decode (z_c m_Bd_goAcross) 12 = .ok (.getfield 12, 3) := by decide +kernel
theorem d_Bd_goAcross_15 : decode (z_c m_Bd_goAcross) 15 = .ok (.invokevirtual 80, 3) := by decide +kernel
theorem d_Bd_goAcross_18 : decode (z_c m_Bd_goAcross) 18 = .ok (.return_, 1) := by decide +kernel
set_option maxRecDepth 8000 in
theorem b_Bd_goAcross_0 {X : z_X} {N : Nat} {σ g : z_G} {Q : z_P} {o : Nat} (ho : z_lay X N σ o z_SBd z_RBd) (h : z_O X 1 m_Sp_mirror [(2, ((o + 1 : Nat) : Int))] N σ g (fun r0 g0 => (z_O X 2 m_Vi_enter [(2, ((o + 6 : Nat) : Int)), (2, ((o + 1 : Nat) : Int))] N σ g0 (fun r1 g1 => Q 0 g1)))) : z_O X 3 m_Bd_goAcross [(2, ((o : Nat) : Int))] N σ g Q := by
  refine z_Oenter mi_Bd_goAcross rfl (fun _ => ?_)
  show z_U X 3 m_Bd_goAcross 0 [(0, (2, ((o : Nat) : Int)))] [] N σ g Q
  refine z_aload_n (i := 0) (c := o) 0 d_Bd_goAcross_0 rfl rfl rfl ?_
  refine z_getr (c := o) (kI := 2) (r2 := ((o + 1 : Nat) : Int)) d_Bd_goAcross_1 fd_Bd_walker fl_Bd_12 rfl rfl rfl (ks_Bd_0 ho) (kl_Bd_0 ho) (kr_Bd_0_2 ho) ?_
  refine z_cV (c := (o + 1)) (as := []) (d' := 1) (st := []) d_Bd_goAcross_4 mi_Sp_mirror ml_Bd_87 mv_Sp_mirror se_Sp_mirror rfl rfl rfl rfl (ks_Bd_1 ho) rfl rfl (kl_Bd_1 ho) rfl rfl (z_Omono h (fun r0 g0 _ h hro => ?_))
  show z_U X 3 m_Bd_goAcross 7 [(0, (2, ((o : Nat) : Int)))] [] N σ g0 Q
  refine z_aload_n (i := 0) (c := o) 0 d_Bd_goAcross_7 rfl rfl rfl ?_
  refine z_getr (c := o) (kI := 4) (r2 := ((o + 6 : Nat) : Int)) d_Bd_goAcross_8 fd_Bd_visits fl_Bd_28 rfl rfl rfl (ks_Bd_0 ho) (kl_Bd_0 ho) (kr_Bd_0_4 ho) ?_
  refine z_aload_n (i := 0) (c := o) 0 d_Bd_goAcross_11 rfl rfl rfl ?_
  refine z_getr (c := o) (kI := 2) (r2 := ((o + 1 : Nat) : Int)) d_Bd_goAcross_12 fd_Bd_walker fl_Bd_12 rfl rfl rfl (ks_Bd_0 ho) (kl_Bd_0 ho) (kr_Bd_0_2 ho) ?_
  refine z_cV (c := (o + 6)) (as := [(2, ((o + 1 : Nat) : Int))]) (d' := 2) (st := []) d_Bd_goAcross_15 mi_Vi_enter ml_Bd_80 mv_Vi_enter se_Vi_enter rfl rfl rfl rfl (ks_Bd_6 ho) rfl rfl (kl_Bd_6 ho) rfl rfl (z_Omono h (fun r1 g1 _ h hro => ?_))
  show z_U X 3 m_Bd_goAcross 18 [(0, (2, ((o : Nat) : Int)))] [] N σ g1 Q
  exact z_vret d_Bd_goAcross_18 rfl (by decide) (by decide) ⟨rfl, rfl, h⟩
theorem d_Bd_goDown_0 : decode (z_c m_Bd_goDown) 0 = .ok (.aload_n 0, 1) := by decide +kernel
theorem d_Bd_goDown_1 : decode (z_c m_Bd_goDown) 1 = .ok (.getfield 12, 3) := by decide +kernel
theorem d_Bd_goDown_4 : decode (z_c m_Bd_goDown) 4 = .ok (.iload_n 1, 1) := by decide +kernel
theorem d_Bd_goDown_5 : decode (z_c m_Bd_goDown) 5 = .ok (.invokevirtual 72, 3) := by decide +kernel
theorem d_Bd_goDown_8 : decode (z_c m_Bd_goDown) 8 = .ok (.sipush 9999, 3) := by decide +kernel
theorem d_Bd_goDown_11 : decode (z_c m_Bd_goDown) 11 = .ok (.if_icmp .le 5, 3) := by decide +kernel
theorem d_Bd_goDown_14 : decode (z_c m_Bd_goDown) 14 = .ok (.iconst 0, 1) := by decide +kernel
theorem d_Bd_goDown_15 : decode (z_c m_Bd_goDown) 15 = .ok (.ireturn, 1) := by decide +kernel
theorem d_Bd_goDown_16 : decode (z_c m_Bd_goDown) 16 = .ok (.aload_n 0, 1) := by decide +kernel
theorem d_Bd_goDown_17 : decode (z_c m_Bd_goDown) 17 = .ok (.getfield 12, 3) := by decide +kernel
theorem d_Bd_goDown_20 : decode (z_c m_Bd_goDown) 20 = .ok (.iload_n 1, 1) := by decide +kernel
theorem d_Bd_goDown_21 : decode (z_c m_Bd_goDown) 21 = .ok (.invokevirtual 76, 3) := by decide +kernel
theorem d_Bd_goDown_24 : decode (z_c m_Bd_goDown) 24 = .ok (.aload_n 0, 1) := by decide +kernel
theorem d_Bd_goDown_25 : decode (z_c m_Bd_goDown) 25 = .ok (.getfield 28, 3) := by decide +kernel
theorem d_Bd_goDown_28 : decode (z_c m_Bd_goDown) 28 = .ok (.aload_n 0, 1) := by decide +kernel
theorem d_Bd_goDown_29 : decode (z_c m_Bd_goDown) 29 = .ok (.getfield 12, 3) := by decide +kernel
theorem d_Bd_goDown_32 : decode (z_c m_Bd_goDown) 32 = .ok (.invokevirtual 80, 3) := by decide +kernel
theorem d_Bd_goDown_35 : decode (z_c m_Bd_goDown) 35 = .ok (.iconst 1, 1) := by decide +kernel
theorem d_Bd_goDown_36 : decode (z_c m_Bd_goDown) 36 = .ok (.ireturn, 1) := by decide +kernel
set_option maxRecDepth 8000 in
theorem b_Bd_goDown_0 {X : z_X} {N : Nat} {σ g : z_G} {Q : z_P} {a1 : Int} {o : Nat} (ho : z_lay X N σ o z_SBd z_RBd) (h : (-2147483648 ≤ ((g (o + 1) 1) + (g (o + 1) 3)) ∧ ((g (o + 1) 1) + (g (o + 1) 3)) ≤ 2147483647) ∧ (((a1 = 0) → ((-2147483648 ≤ (((g (o + 1) 1) + (g (o + 1) 3)) + (g (o + 1) 1)) ∧ (((g (o + 1) 1) + (g (o + 1) 3)) + (g (o + 1) 1)) ≤ 2147483647) ∧ ((((((g (o + 1) 1) + (g (o + 1) 3)) + (g (o + 1) 1)) ≤ 9999) → (z_O X 2 m_Sp_descend [(2, ((o + 1 : Nat) : Int)), (0, a1)] N σ g (fun r0 g0 => (z_O X 2 m_Vi_enter [(2, ((o + 6 : Nat) : Int)), (2, ((o + 1 : Nat) : Int))] N σ g0 (fun r1 g1 => Q 1 g1))))) ∧ (¬ ((((g (o + 1) 1) + (g (o + 1) 3)) + (g (o + 1) 1)) ≤ 9999) → Q 0 g)))) ∧ (¬ (a1 = 0) → ((-2147483648 ≤ (((g (o + 1) 1) + (g (o + 1) 3)) + (g (o + 1) 3)) ∧ (((g (o + 1) 1) + (g (o + 1) 3)) + (g (o + 1) 3)) ≤ 2147483647) ∧ ((((((g (o + 1) 1) + (g (o + 1) 3)) + (g (o + 1) 3)) ≤ 9999) → (z_O X 2 m_Sp_descend [(2, ((o + 1 : Nat) : Int)), (0, a1)] N σ g (fun r2 g2 => (z_O X 2 m_Vi_enter [(2, ((o + 6 : Nat) : Int)), (2, ((o + 1 : Nat) : Int))] N σ g2 (fun r3 g3 => Q 1 g3))))) ∧ (¬ ((((g (o + 1) 1) + (g (o + 1) 3)) + (g (o + 1) 3)) ≤ 9999) → Q 0 g)))))) : z_O X 3 m_Bd_goDown [(2, ((o : Nat) : Int)), (0, a1)] N σ g Q := by
  refine z_Oenter mi_Bd_goDown rfl (fun _ => ?_)
  show z_U X 3 m_Bd_goDown 0 [(0, (2, ((o : Nat) : Int))), (1, (0, a1))] [] N σ g Q
  refine z_aload_n (i := 0) (c := o) 0 d_Bd_goDown_0 rfl rfl rfl ?_
  refine z_getr (c := o) (kI := 2) (r2 := ((o + 1 : Nat) : Int)) d_Bd_goDown_1 fd_Bd_walker fl_Bd_12 rfl rfl rfl (ks_Bd_0 ho) (kl_Bd_0 ho) (kr_Bd_0_2 ho) ?_
  refine z_iload_n (i := 1) 1 d_Bd_goDown_4 rfl rfl ?_
  refine z_cV (c := (o + 1)) (as := [(0, a1)]) (d' := 2) (st := []) d_Bd_goDown_5 mi_Sp_bottomBehind ml_Bd_72 mv_Sp_bottomBehind se_Sp_bottomBehind rfl rfl rfl rfl (ks_Bd_1 ho) rfl rfl (kl_Bd_1 ho) rfl rfl (b_Sp_bottomBehind_0 (ky_Bd_1 ho) ?_)
  obtain ⟨c1, h⟩ := h
  refine ⟨c1, ?_⟩
  refine ⟨fun c2 => ?_, fun c2 => ?_⟩
  · have h := h.1 c2
    obtain ⟨c3, h⟩ := h
    refine ⟨c3, ?_⟩
    intro _
    show z_U X 3 m_Bd_goDown 8 [(0, (2, ((o : Nat) : Int))), (1, (0, a1))] [(0, ((g (o + 1) 1) + (g (o + 1) 3)) + (g (o + 1) 1))] N σ g Q
    refine z_sipush (n := 9999) d_Bd_goDown_8 (by decide) (by decide) ?_
    refine z_icmp_le (tgt := 16) d_Bd_goDown_11 (by decide) (fun c4 => ?_) (fun c4 => ?_)
    · have h := h.1 c4
      refine z_aload_n (i := 0) (c := o) 0 d_Bd_goDown_16 rfl rfl rfl ?_
      refine z_getr (c := o) (kI := 2) (r2 := ((o + 1 : Nat) : Int)) d_Bd_goDown_17 fd_Bd_walker fl_Bd_12 rfl rfl rfl (ks_Bd_0 ho) (kl_Bd_0 ho) (kr_Bd_0_2 ho) ?_
      refine z_iload_n (i := 1) 1 d_Bd_goDown_20 rfl rfl ?_
      refine z_cV (c := (o + 1)) (as := [(0, a1)]) (d' := 2) (st := []) d_Bd_goDown_21 mi_Sp_descend ml_Bd_76 mv_Sp_descend se_Sp_descend rfl rfl rfl rfl (ks_Bd_1 ho) rfl rfl (kl_Bd_1 ho) rfl rfl (z_Omono h (fun r0 g0 _ h hro => ?_))
      show z_U X 3 m_Bd_goDown 24 [(0, (2, ((o : Nat) : Int))), (1, (0, a1))] [] N σ g0 Q
      refine z_aload_n (i := 0) (c := o) 0 d_Bd_goDown_24 rfl rfl rfl ?_
      refine z_getr (c := o) (kI := 4) (r2 := ((o + 6 : Nat) : Int)) d_Bd_goDown_25 fd_Bd_visits fl_Bd_28 rfl rfl rfl (ks_Bd_0 ho) (kl_Bd_0 ho) (kr_Bd_0_4 ho) ?_
      refine z_aload_n (i := 0) (c := o) 0 d_Bd_goDown_28 rfl rfl rfl ?_
      refine z_getr (c := o) (kI := 2) (r2 := ((o + 1 : Nat) : Int)) d_Bd_goDown_29 fd_Bd_walker fl_Bd_12 rfl rfl rfl (ks_Bd_0 ho) (kl_Bd_0 ho) (kr_Bd_0_2 ho) ?_
      refine z_cV (c := (o + 6)) (as := [(2, ((o + 1 : Nat) : Int))]) (d' := 2) (st := []) d_Bd_goDown_32 mi_Vi_enter ml_Bd_80 mv_Vi_enter se_Vi_enter rfl rfl rfl rfl (ks_Bd_6 ho) rfl rfl (kl_Bd_6 ho) rfl rfl (z_Omono h (fun r1 g1 _ h hro => ?_))
      show z_U X 3 m_Bd_goDown 35 [(0, (2, ((o : Nat) : Int))), (1, (0, a1))] [] N σ g1 Q
      refine z_iconst (n := 1) d_Bd_goDown_35 (by decide) ?_
      exact z_zret d_Bd_goDown_36 rfl (by decide) (by decide) (by decide) ⟨rfl, rfl, h⟩
    · have h := h.2 c4
      refine z_iconst (n := 0) d_Bd_goDown_14 (by decide) ?_
      exact z_zret d_Bd_goDown_15 rfl (by decide) (by decide) (by decide) ⟨rfl, rfl, h⟩
  · have h := h.2 c2
    obtain ⟨c5, h⟩ := h
    refine ⟨c5, ?_⟩
    intro _
    show z_U X 3 m_Bd_goDown 8 [(0, (2, ((o : Nat) : Int))), (1, (0, a1))] [(0, ((g (o + 1) 1) + (g (o + 1) 3)) + (g (o + 1) 3))] N σ g Q
    refine z_sipush (n := 9999) d_Bd_goDown_8 (by decide) (by decide) ?_
    refine z_icmp_le (tgt := 16) d_Bd_goDown_11 (by decide) (fun c6 => ?_) (fun c6 => ?_)
    · have h := h.1 c6
      refine z_aload_n (i := 0) (c := o) 0 d_Bd_goDown_16 rfl rfl rfl ?_
      refine z_getr (c := o) (kI := 2) (r2 := ((o + 1 : Nat) : Int)) d_Bd_goDown_17 fd_Bd_walker fl_Bd_12 rfl rfl rfl (ks_Bd_0 ho) (kl_Bd_0 ho) (kr_Bd_0_2 ho) ?_
      refine z_iload_n (i := 1) 1 d_Bd_goDown_20 rfl rfl ?_
      refine z_cV (c := (o + 1)) (as := [(0, a1)]) (d' := 2) (st := []) d_Bd_goDown_21 mi_Sp_descend ml_Bd_76 mv_Sp_descend se_Sp_descend rfl rfl rfl rfl (ks_Bd_1 ho) rfl rfl (kl_Bd_1 ho) rfl rfl (z_Omono h (fun r2 g2 _ h hro => ?_))
      show z_U X 3 m_Bd_goDown 24 [(0, (2, ((o : Nat) : Int))), (1, (0, a1))] [] N σ g2 Q
      refine z_aload_n (i := 0) (c := o) 0 d_Bd_goDown_24 rfl rfl rfl ?_
      refine z_getr (c := o) (kI := 4) (r2 := ((o + 6 : Nat) : Int)) d_Bd_goDown_25 fd_Bd_visits fl_Bd_28 rfl rfl rfl (ks_Bd_0 ho) (kl_Bd_0 ho) (kr_Bd_0_4 ho) ?_
      refine z_aload_n (i := 0) (c := o) 0 d_Bd_goDown_28 rfl rfl rfl ?_
      refine z_getr (c := o) (kI := 2) (r2 := ((o + 1 : Nat) : Int)) d_Bd_goDown_29 fd_Bd_walker fl_Bd_12 rfl rfl rfl (ks_Bd_0 ho) (kl_Bd_0 ho) (kr_Bd_0_2 ho) ?_
      refine z_cV (c := (o + 6)) (as := [(2, ((o + 1 : Nat) : Int))]) (d' := 2) (st := []) d_Bd_goDown_32 mi_Vi_enter ml_Bd_80 mv_Vi_enter se_Vi_enter rfl rfl rfl rfl (ks_Bd_6 ho) rfl rfl (kl_Bd_6 ho) rfl rfl (z_Omono h (fun r3 g3 _ h hro => ?_))
      show z_U X 3 m_Bd_goDown 35 [(0, (2, ((o : Nat) : Int))), (1, (0, a1))] [] N σ g3 Q
      refine z_iconst (n := 1) d_Bd_goDown_35 (by decide) ?_
      exact z_zret d_Bd_goDown_36 rfl (by decide) (by decide) (by decide) ⟨rfl, rfl, h⟩
    · have h := h.2 c6
      refine z_iconst (n := 0) d_Bd_goDown_14 (by decide) ?_
      exact z_zret d_Bd_goDown_15 rfl (by decide) (by decide) (by decide) ⟨rfl, rfl, h⟩
theorem d_Bd_goTo_0 : decode (z_c m_Bd_goTo) 0 = .ok (.aload_n 0, 1) := by decide +kernel
theorem d_Bd_goTo_1 : decode (z_c m_Bd_goTo) 1 = .ok (.getfield 12, 3) := by decide +kernel
theorem d_Bd_goTo_4 : decode (z_c m_Bd_goTo) 4 = .ok (.aload_n 1, 1) := by decide +kernel
theorem d_Bd_goTo_5 : decode (z_c m_Bd_goTo) 5 = .ok (.invokevirtual 90, 3) := by decide +kernel
theorem d_Bd_goTo_8 : decode (z_c m_Bd_goTo) 8 = .ok (.aload_n 0, 1) := by decide +kernel
theorem d_Bd_goTo_9 : decode (z_c m_Bd_goTo) 9 = .ok (.getfield 28, 3) := by decide +kernel
theorem d_Bd_goTo_12 : decode (z_c m_Bd_goTo) 12 = .ok (.aload_n 0, 1) := by decide +kernel
theorem d_Bd_goTo_13 : decode (z_c m_Bd_goTo) 13 = .ok (.getfield 12, 3) := by decide +kernel
theorem d_Bd_goTo_16 : decode (z_c m_Bd_goTo) 16 = .ok (.invokevirtual 80, 3) := by decide +kernel
theorem d_Bd_goTo_19 : decode (z_c m_Bd_goTo) 19 = .ok (.return_, 1) := by decide +kernel
set_option maxRecDepth 8000 in
theorem b_Bd_goTo_0 {X : z_X} {N : Nat} {σ g : z_G} {Q : z_P} {o p1 : Nat} (ho : z_lay X N σ o z_SBd z_RBd) (hp1 : z_lay X N σ p1 z_SCh z_RCh) (h : z_O X 2 m_Sp_standOn [(2, ((o + 1 : Nat) : Int)), (2, ((p1 : Nat) : Int))] N σ g (fun r0 g0 => (z_O X 2 m_Vi_enter [(2, ((o + 6 : Nat) : Int)), (2, ((o + 1 : Nat) : Int))] N σ g0 (fun r1 g1 => Q 0 g1)))) : z_O X 3 m_Bd_goTo [(2, ((o : Nat) : Int)), (2, ((p1 : Nat) : Int))] N σ g Q := by
  refine z_Oenter mi_Bd_goTo rfl (fun _ => ?_)
  show z_U X 3 m_Bd_goTo 0 [(0, (2, ((o : Nat) : Int))), (1, (2, ((p1 : Nat) : Int)))] [] N σ g Q
  refine z_aload_n (i := 0) (c := o) 0 d_Bd_goTo_0 rfl rfl rfl ?_
  refine z_getr (c := o) (kI := 2) (r2 := ((o + 1 : Nat) : Int)) d_Bd_goTo_1 fd_Bd_walker fl_Bd_12 rfl rfl rfl (ks_Bd_0 ho) (kl_Bd_0 ho) (kr_Bd_0_2 ho) ?_
  refine z_aload_n (i := 1) (c := p1) 1 d_Bd_goTo_4 rfl rfl rfl ?_
  refine z_cV (c := (o + 1)) (as := [(2, ((p1 : Nat) : Int))]) (d' := 2) (st := []) d_Bd_goTo_5 mi_Sp_standOn ml_Bd_90 mv_Sp_standOn se_Sp_standOn rfl rfl rfl rfl (ks_Bd_1 ho) rfl rfl (kl_Bd_1 ho) rfl rfl (z_Omono h (fun r0 g0 _ h hro => ?_))
  show z_U X 3 m_Bd_goTo 8 [(0, (2, ((o : Nat) : Int))), (1, (2, ((p1 : Nat) : Int)))] [] N σ g0 Q
  refine z_aload_n (i := 0) (c := o) 0 d_Bd_goTo_8 rfl rfl rfl ?_
  refine z_getr (c := o) (kI := 4) (r2 := ((o + 6 : Nat) : Int)) d_Bd_goTo_9 fd_Bd_visits fl_Bd_28 rfl rfl rfl (ks_Bd_0 ho) (kl_Bd_0 ho) (kr_Bd_0_4 ho) ?_
  refine z_aload_n (i := 0) (c := o) 0 d_Bd_goTo_12 rfl rfl rfl ?_
  refine z_getr (c := o) (kI := 2) (r2 := ((o + 1 : Nat) : Int)) d_Bd_goTo_13 fd_Bd_walker fl_Bd_12 rfl rfl rfl (ks_Bd_0 ho) (kl_Bd_0 ho) (kr_Bd_0_2 ho) ?_
  refine z_cV (c := (o + 6)) (as := [(2, ((o + 1 : Nat) : Int))]) (d' := 2) (st := []) d_Bd_goTo_16 mi_Vi_enter ml_Bd_80 mv_Vi_enter se_Vi_enter rfl rfl rfl rfl (ks_Bd_6 ho) rfl rfl (kl_Bd_6 ho) rfl rfl (z_Omono h (fun r1 g1 _ h hro => ?_))
  show z_U X 3 m_Bd_goTo 19 [(0, (2, ((o : Nat) : Int))), (1, (2, ((p1 : Nat) : Int)))] [] N σ g1 Q
  exact z_vret d_Bd_goTo_19 rfl (by decide) (by decide) ⟨rfl, rfl, h⟩
theorem d_Bd_goUp_0 : decode (z_c m_Bd_goUp) 0 = .ok (.aload_n 0, 1) := by decide +kernel
theorem d_Bd_goUp_1 : decode (z_c m_Bd_goUp) 1 = .ok (.getfield 12, 3) := by decide +kernel
theorem d_Bd_goUp_4 : decode (z_c m_Bd_goUp) 4 = .ok (.invokevirtual 83, 3) := by decide +kernel
theorem d_Bd_goUp_7 : decode (z_c m_Bd_goUp) 7 = .ok (.ifCond .ne 5, 3) := by decide +kernel
theorem d_Bd_goUp_10 : decode (z_c m_Bd_goUp) 10 = .ok (.iconst 0, 1) := by decide +kernel
theorem d_Bd_goUp_11 : decode (z_c m_Bd_goUp) 11 = .ok (.ireturn, 1) := by decide +kernel
theorem d_Bd_goUp_12 : decode (z_c m_Bd_goUp) 12 = .ok (.aload_n 0, 1) := by decide +kernel
theorem d_Bd_goUp_13 : decode (z_c m_Bd_goUp) 13 = .ok (.getfield 28, 3) := by decide +kernel
theorem d_Bd_goUp_16 : decode (z_c m_Bd_goUp) 16 = .ok (.aload_n 0, 1) := by decide +kernel
theorem d_Bd_goUp_17 : decode (z_c m_Bd_goUp) 17 = .ok (.getfield 12, 3) := by decide +kernel
theorem d_Bd_goUp_20 : decode (z_c m_Bd_goUp) 20 = .ok (.invokevirtual 80, 3) := by decide +kernel
theorem d_Bd_goUp_23 : decode (z_c m_Bd_goUp) 23 = .ok (.iconst 1, 1) := by decide +kernel
theorem d_Bd_goUp_24 : decode (z_c m_Bd_goUp) 24 = .ok (.ireturn, 1) := by decide +kernel
set_option maxRecDepth 8000 in
theorem b_Bd_goUp_0 {X : z_X} {N : Nat} {σ g : z_G} {Q : z_P} {o : Nat} (ho : z_lay X N σ o z_SBd z_RBd) (h : z_O X 1 m_Sp_climb [(2, ((o + 1 : Nat) : Int))] N σ g (fun r0 g0 => (r0 = 0 ∨ r0 = 1) → (((r0 = 0) → Q 0 g0) ∧ (¬ (r0 = 0) → (z_O X 2 m_Vi_enter [(2, ((o + 6 : Nat) : Int)), (2, ((o + 1 : Nat) : Int))] N σ g0 (fun r1 g1 => Q 1 g1)))))) : z_O X 3 m_Bd_goUp [(2, ((o : Nat) : Int))] N σ g Q := by
  refine z_Oenter mi_Bd_goUp rfl (fun _ => ?_)
  show z_U X 3 m_Bd_goUp 0 [(0, (2, ((o : Nat) : Int)))] [] N σ g Q
  refine z_aload_n (i := 0) (c := o) 0 d_Bd_goUp_0 rfl rfl rfl ?_
  refine z_getr (c := o) (kI := 2) (r2 := ((o + 1 : Nat) : Int)) d_Bd_goUp_1 fd_Bd_walker fl_Bd_12 rfl rfl rfl (ks_Bd_0 ho) (kl_Bd_0 ho) (kr_Bd_0_2 ho) ?_
  refine z_cV (c := (o + 1)) (as := []) (d' := 1) (st := []) d_Bd_goUp_4 mi_Sp_climb ml_Bd_83 mv_Sp_climb se_Sp_climb rfl rfl rfl rfl (ks_Bd_1 ho) rfl rfl (kl_Bd_1 ho) rfl rfl (z_Omono h (fun r0 g0 _ h hro => ?_))
  have h := h (z_b01 hro)
  have hzr0 := z_b01 hro
  show z_U X 3 m_Bd_goUp 7 [(0, (2, ((o : Nat) : Int)))] [(0, r0)] N σ g0 Q
  refine z_if_ne (tgt := 12) d_Bd_goUp_7 (by decide) (fun c1 => ?_) (fun c1 => ?_)
  · have h := h.2 c1
    refine z_aload_n (i := 0) (c := o) 0 d_Bd_goUp_12 rfl rfl rfl ?_
    refine z_getr (c := o) (kI := 4) (r2 := ((o + 6 : Nat) : Int)) d_Bd_goUp_13 fd_Bd_visits fl_Bd_28 rfl rfl rfl (ks_Bd_0 ho) (kl_Bd_0 ho) (kr_Bd_0_4 ho) ?_
    refine z_aload_n (i := 0) (c := o) 0 d_Bd_goUp_16 rfl rfl rfl ?_
    refine z_getr (c := o) (kI := 2) (r2 := ((o + 1 : Nat) : Int)) d_Bd_goUp_17 fd_Bd_walker fl_Bd_12 rfl rfl rfl (ks_Bd_0 ho) (kl_Bd_0 ho) (kr_Bd_0_2 ho) ?_
    refine z_cV (c := (o + 6)) (as := [(2, ((o + 1 : Nat) : Int))]) (d' := 2) (st := []) d_Bd_goUp_20 mi_Vi_enter ml_Bd_80 mv_Vi_enter se_Vi_enter rfl rfl rfl rfl (ks_Bd_6 ho) rfl rfl (kl_Bd_6 ho) rfl rfl (z_Omono h (fun r1 g1 _ h hro => ?_))
    show z_U X 3 m_Bd_goUp 23 [(0, (2, ((o : Nat) : Int)))] [] N σ g1 Q
    refine z_iconst (n := 1) d_Bd_goUp_23 (by decide) ?_
    exact z_zret d_Bd_goUp_24 rfl (by decide) (by decide) (by decide) ⟨rfl, rfl, h⟩
  · have h := h.1 c1
    refine z_iconst (n := 0) d_Bd_goUp_10 (by decide) ?_
    exact z_zret d_Bd_goUp_11 rfl (by decide) (by decide) (by decide) ⟨rfl, rfl, h⟩
theorem d_Ch_take_0 : decode (z_c m_Ch_take) 0 = .ok (.iload_n 1, 1) := by decide +kernel
theorem d_Ch_take_1 : decode (z_c m_Ch_take) 1 = .ok (.iload_n 2, 1) := by decide +kernel
theorem d_Ch_take_2 : decode (z_c m_Ch_take) 2 = .ok (.invokestatic 28, 3) := by decide +kernel
theorem d_Ch_take_5 : decode (z_c m_Ch_take) 5 = .ok (.ifCond .ne 5, 3) := by decide +kernel
theorem d_Ch_take_8 : decode (z_c m_Ch_take) 8 = .ok (.iconst 0, 1) := by decide +kernel
theorem d_Ch_take_9 : decode (z_c m_Ch_take) 9 = .ok (.ireturn, 1) := by decide +kernel
theorem d_Ch_take_10 : decode (z_c m_Ch_take) 10 = .ok (.aload_n 0, 1) := by decide +kernel
theorem d_Ch_take_11 : decode (z_c m_Ch_take) 11 = .ok (.iload_n 1, 1) := by decide +kernel
theorem d_Ch_take_12 : decode (z_c m_Ch_take) 12 = .ok (.iload_n 2, 1) := by decide +kernel
theorem d_Ch_take_13 : decode (z_c m_Ch_take) 13 = .ok (.invokevirtual 32, 3) := by decide +kernel
theorem d_Ch_take_16 : decode (z_c m_Ch_take) 16 = .ok (.iconst 1, 1) := by decide +kernel
theorem d_Ch_take_17 : decode (z_c m_Ch_take) 17 = .ok (.ireturn, 1) := by decide +kernel
set_option maxRecDepth 8000 in
theorem b_Ch_take_0 {X : z_X} {N : Nat} {σ g : z_G} {Q : z_P} {a1 a2 : Int} {o : Nat} (ho : z_lay X N σ o z_SCh z_RCh) (h : ((a2 < 1) → Q 0 g) ∧ (¬ (a2 < 1) → (((9999 < a2) → Q 0 g) ∧ (¬ (9999 < a2) → (((a1 < 0) → Q 0 g) ∧ (¬ (a1 < 0) → (((a2 < a1) → Q 0 g) ∧ (¬ (a2 < a1) → (z_O X 2 m_Ch_unfold [(2, ((o : Nat) : Int)), (0, a1), (0, a2)] N σ g (fun r0 g0 => Q 1 g0)))))))))) : z_O X 3 m_Ch_take [(2, ((o : Nat) : Int)), (0, a1), (0, a2)] N σ g Q := by
  refine z_Oenter mi_Ch_take rfl (fun _ => ?_)
  show z_U X 3 m_Ch_take 0 [(0, (2, ((o : Nat) : Int))), (1, (0, a1)), (2, (0, a2))] [] N σ g Q
  refine z_iload_n (i := 1) 1 d_Ch_take_0 rfl rfl ?_
  refine z_iload_n (i := 2) 2 d_Ch_take_1 rfl rfl ?_
  refine z_cSN (as := [(0, a1), (0, a2)]) (d' := 1) (st := []) d_Ch_take_2 mi_F_isValue nl_Ch_28 ms_F_isValue rfl rfl rfl rfl rfl (b_F_isValue_0  ?_)
  refine ⟨fun c1 => ?_, fun c1 => ?_⟩
  · have h := h.1 c1
    intro _
    show z_U X 3 m_Ch_take 5 [(0, (2, ((o : Nat) : Int))), (1, (0, a1)), (2, (0, a2))] [(0, 0)] N σ g Q
    refine z_if_ne (tgt := 10) d_Ch_take_5 (by decide) (fun c => absurd (by decide) c) (fun _ => ?_)
    refine z_iconst (n := 0) d_Ch_take_8 (by decide) ?_
    exact z_zret d_Ch_take_9 rfl (by decide) (by decide) (by decide) ⟨rfl, rfl, h⟩
  · have h := h.2 c1
    refine ⟨fun c2 => ?_, fun c2 => ?_⟩
    · have h := h.1 c2
      intro _
      show z_U X 3 m_Ch_take 5 [(0, (2, ((o : Nat) : Int))), (1, (0, a1)), (2, (0, a2))] [(0, 0)] N σ g Q
      refine z_if_ne (tgt := 10) d_Ch_take_5 (by decide) (fun c => absurd (by decide) c) (fun _ => ?_)
      refine z_iconst (n := 0) d_Ch_take_8 (by decide) ?_
      exact z_zret d_Ch_take_9 rfl (by decide) (by decide) (by decide) ⟨rfl, rfl, h⟩
    · have h := h.2 c2
      refine ⟨fun c3 => ?_, fun c3 => ?_⟩
      · have h := h.1 c3
        intro _
        show z_U X 3 m_Ch_take 5 [(0, (2, ((o : Nat) : Int))), (1, (0, a1)), (2, (0, a2))] [(0, 0)] N σ g Q
        refine z_if_ne (tgt := 10) d_Ch_take_5 (by decide) (fun c => absurd (by decide) c) (fun _ => ?_)
        refine z_iconst (n := 0) d_Ch_take_8 (by decide) ?_
        exact z_zret d_Ch_take_9 rfl (by decide) (by decide) (by decide) ⟨rfl, rfl, h⟩
      · have h := h.2 c3
        refine ⟨fun c4 => ?_, fun c4 => ?_⟩
        · have h := h.1 c4
          intro _
          show z_U X 3 m_Ch_take 5 [(0, (2, ((o : Nat) : Int))), (1, (0, a1)), (2, (0, a2))] [(0, 0)] N σ g Q
          refine z_if_ne (tgt := 10) d_Ch_take_5 (by decide) (fun c => absurd (by decide) c) (fun _ => ?_)
          refine z_iconst (n := 0) d_Ch_take_8 (by decide) ?_
          exact z_zret d_Ch_take_9 rfl (by decide) (by decide) (by decide) ⟨rfl, rfl, h⟩
        · have h := h.2 c4
          intro _
          show z_U X 3 m_Ch_take 5 [(0, (2, ((o : Nat) : Int))), (1, (0, a1)), (2, (0, a2))] [(0, 1)] N σ g Q
          refine z_if_ne (tgt := 10) d_Ch_take_5 (by decide) (fun _ => ?_) (fun c => absurd c (by decide))
          refine z_aload_n (i := 0) (c := o) 0 d_Ch_take_10 rfl rfl rfl ?_
          refine z_iload_n (i := 1) 1 d_Ch_take_11 rfl rfl ?_
          refine z_iload_n (i := 2) 2 d_Ch_take_12 rfl rfl ?_
          refine z_cV (c := o) (as := [(0, a1), (0, a2)]) (d' := 2) (st := []) d_Ch_take_13 mi_Ch_unfold ml_Ch_32 mv_Ch_unfold se_Ch_unfold rfl rfl rfl rfl (ks_Ch_0 ho) rfl rfl (kl_Ch_0 ho) rfl rfl (z_Omono h (fun r0 g0 _ h hro => ?_))
          show z_U X 3 m_Ch_take 16 [(0, (2, ((o : Nat) : Int))), (1, (0, a1)), (2, (0, a2))] [] N σ g0 Q
          refine z_iconst (n := 1) d_Ch_take_16 (by decide) ?_
          exact z_zret d_Ch_take_17 rfl (by decide) (by decide) (by decide) ⟨rfl, rfl, h⟩
theorem d_F_here_0 : decode (z_c m_F_here) 0 = .ok (.aload_n 0, 1) := by decide +kernel
theorem d_F_here_1 : decode (z_c m_F_here) 1 = .ok (.aload_n 0, 1) := by decide +kernel
theorem d_F_here_2 : decode (z_c m_F_here) 2 = .ok (.getfield 67, 3) := by decide +kernel
theorem d_F_here_5 : decode (z_c m_F_here) 5 = .ok (.getfield 217, 3) := by decide +kernel
theorem d_F_here_8 : decode (z_c m_F_here) 8 = .ok (.invokevirtual 282, 3) := by decide +kernel
theorem d_F_here_11 : decode (z_c m_F_here) 11 = .ok (.i2l, 1) := by decide +kernel
theorem d_F_here_12 : decode (z_c m_F_here) 12 = .ok (.aload_n 0, 1) := by decide +kernel
theorem d_F_here_13 : decode (z_c m_F_here) 13 = .ok (.getfield 67, 3) := by decide +kernel
theorem d_F_here_16 : decode (z_c m_F_here) 16 = .ok (.getfield 217, 3) := by decide +kernel
theorem d_F_here_19 : decode (z_c m_F_here) 19 = .ok (.invokevirtual 285, 3) := by decide +kernel
theorem d_F_here_22 : decode (z_c m_F_here) 22 = .ok (.i2l, 1) := by decide +kernel
theorem d_F_here_23 : decode (z_c m_F_here) 23 = .ok (.invokevirtual 233, 3) := by decide +kernel
theorem d_F_here_26 : decode (z_c m_F_here) 26 = .ok (.ireturn, 1) := by decide +kernel
set_option maxRecDepth 8000 in
theorem b_F_here_0 {X : z_X} {N : Nat} {σ g : z_G} {Q : z_P} (hx : z_lay X N σ 0 z_SF z_RF) (h : (-2147483648 ≤ ((g 24 0) + (g 24 2)) ∧ ((g 24 0) + (g 24 2)) ≤ 2147483647) ∧ ((-2147483648 ≤ ((g 24 1) + (g 24 3)) ∧ ((g 24 1) + (g 24 3)) ≤ 2147483647) ∧ (z_O X 2 m_F_tell [(2, 0), (1, (g 24 0) + (g 24 2)), (1, (g 24 1) + (g 24 3))] N σ g (fun r0 g0 => (r0 = 0 ∨ r0 = 1) → Q r0 g0)))) : z_O X 3 m_F_here [(2, 0)] N σ g Q := by
  refine z_Oenter mi_F_here rfl (fun _ => ?_)
  show z_U X 3 m_F_here 0 [(0, (2, 0))] [] N σ g Q
  refine z_aload_n (i := 0) (c := 0) 0 d_F_here_0 rfl rfl rfl ?_
  refine z_aload_n (i := 0) (c := 0) 0 d_F_here_1 rfl rfl rfl ?_
  refine z_getr (c := 0) (kI := 11) (r2 := 23) d_F_here_2 fd_F_board fl_F_67 rfl rfl rfl (ks_F_0 hx) (kl_F_0 hx) (kr_F_0_11 hx) ?_
  refine z_getr (c := 23) (kI := 2) (r2 := 24) d_F_here_5 fd_Bd_walker fl_F_217 rfl rfl rfl (ks_F_23 hx) (kl_F_23 hx) (kr_F_23_2 hx) ?_
  refine z_cV (c := 24) (as := []) (d' := 1) (st := [(2, 0)]) d_F_here_8 mi_Sp_ownTop ml_F_282 mv_Sp_ownTop se_Sp_ownTop rfl rfl rfl rfl (ks_F_24 hx) rfl rfl (kl_F_24 hx) rfl rfl (b_Sp_ownTop_0 (ky_F_24 hx) ?_)
  obtain ⟨c1, h⟩ := h
  refine ⟨c1, ?_⟩
  intro _
  show z_U X 3 m_F_here 11 [(0, (2, 0))] [(0, (g 24 0) + (g 24 2)), (2, 0)] N σ g Q
  refine z_i2l d_F_here_11 ?_
  refine z_aload_n (i := 0) (c := 0) 0 d_F_here_12 rfl rfl rfl ?_
  refine z_getr (c := 0) (kI := 11) (r2 := 23) d_F_here_13 fd_F_board fl_F_67 rfl rfl rfl (ks_F_0 hx) (kl_F_0 hx) (kr_F_0_11 hx) ?_
  refine z_getr (c := 23) (kI := 2) (r2 := 24) d_F_here_16 fd_Bd_walker fl_F_217 rfl rfl rfl (ks_F_23 hx) (kl_F_23 hx) (kr_F_23_2 hx) ?_
  refine z_cV (c := 24) (as := []) (d' := 1) (st := [(1, (g 24 0) + (g 24 2)), (2, 0)]) d_F_here_19 mi_Sp_ownBottom ml_F_285 mv_Sp_ownBottom se_Sp_ownBottom rfl rfl rfl rfl (ks_F_24 hx) rfl rfl (kl_F_24 hx) rfl rfl (b_Sp_ownBottom_0 (ky_F_24 hx) ?_)
  obtain ⟨c2, h⟩ := h
  refine ⟨c2, ?_⟩
  intro _
  show z_U X 3 m_F_here 22 [(0, (2, 0))] [(0, (g 24 1) + (g 24 3)), (1, (g 24 0) + (g 24 2)), (2, 0)] N σ g Q
  refine z_i2l d_F_here_22 ?_
  refine z_cV (c := 0) (as := [(1, (g 24 0) + (g 24 2)), (1, (g 24 1) + (g 24 3))]) (d' := 2) (st := []) d_F_here_23 mi_F_tell ml_F_233 mv_F_tell se_F_tell rfl rfl rfl rfl (ks_F_0 hx) rfl rfl (kl_F_0 hx) rfl rfl (z_Omono h (fun r0 g0 _ h hro => ?_))
  have h := h (z_b01 hro)
  have hzr0 := z_b01 hro
  show z_U X 3 m_F_here 26 [(0, (2, 0))] [(0, r0)] N σ g0 Q
  exact z_zret d_F_here_26 rfl (by decide) (by decide) hzr0 ⟨rfl, rfl, h⟩
theorem d_F_mark_0 : decode (z_c m_F_mark) 0 = .ok (.aload_n 0, 1) := by decide +kernel
theorem d_F_mark_1 : decode (z_c m_F_mark) 1 = .ok (.getfield 78, 3) := by decide +kernel
theorem d_F_mark_4 : decode (z_c m_F_mark) 4 = .ok (.aload_n 0, 1) := by decide +kernel
theorem d_F_mark_5 : decode (z_c m_F_mark) 5 = .ok (.getfield 74, 3) := by decide +kernel
theorem d_F_mark_8 : decode (z_c m_F_mark) 8 = .ok (.arraylength, 1) := by decide +kernel
theorem d_F_mark_9 : decode (z_c m_F_mark) 9 = .ok (.if_icmp .lt 9, 3) := by decide +kernel
theorem d_F_mark_12 : decode (z_c m_F_mark) 12 = .ok (.aload_n 0, 1) := by decide +kernel
theorem d_F_mark_13 : decode (z_c m_F_mark) 13 = .ok (.iconst 4, 1) := by decide +kernel
theorem d_F_mark_14 : decode (z_c m_F_mark) 14 = .ok (.invokevirtual 121, 3) := by decide +kernel
theorem d_F_mark_17 : decode (z_c m_F_mark) 17 = .ok (.ireturn, 1) := by decide +kernel
theorem d_F_mark_18 : decode (z_c m_F_mark) 18 = .ok (.aload_n 0, 1) := by decide +kernel
theorem d_F_mark_19 : decode (z_c m_F_mark) 19 = .ok (.getfield 74, 3) := by decide +kernel
theorem d_F_mark_22 : decode (z_c m_F_mark) 22 = .ok (.aload_n 0, 1) := by decide +kernel
theorem d_F_mark_23 : decode (z_c m_F_mark) 23 = .ok (.getfield 78, 3) := by decide +kernel
theorem d_F_mark_26 : decode (z_c m_F_mark) 26 = .ok (.aaload, 1) := by decide +kernel
theorem d_F_mark_27 : decode (z_c m_F_mark) 27 = .ok (.aload_n 0, 1) := by decide +kernel
theorem d_F_mark_28 : decode (z_c m_F_mark) 28 = .ok (.getfield 67, 3) := by decide +kernel
theorem d_F_mark_31 : decode (z_c m_F_mark) 31 = .ok (.invokevirtual 163, 3) := by decide +kernel
theorem d_F_mark_34 : decode (z_c m_F_mark) 34 = .ok (.aload_n 0, 1) := by decide +kernel
theorem d_F_mark_35 : decode (z_c m_F_mark) 35 = .ok (.dup, 1) := by decide +kernel
theorem d_F_mark_36 : decode (z_c m_F_mark) 36 = .ok (.getfield 78, 3) := by decide +kernel
theorem d_F_mark_39 : decode (z_c m_F_mark) 39 = .ok (.iconst 1, 1) := by decide +kernel
theorem d_F_mark_40 : decode (z_c m_F_mark) 40 = .ok (.iadd, 1) := by decide +kernel
theorem d_F_mark_41 : decode (z_c m_F_mark) 41 = .ok (.putfield 78, 3) := by decide +kernel
theorem d_F_mark_44 : decode (z_c m_F_mark) 44 = .ok (.aload_n 0, 1) := by decide +kernel
theorem d_F_mark_45 : decode (z_c m_F_mark) 45 = .ok (.aload_n 0, 1) := by decide +kernel
theorem d_F_mark_46 : decode (z_c m_F_mark) 46 = .ok (.getfield 78, 3) := by decide +kernel
theorem d_F_mark_49 : decode (z_c m_F_mark) 49 = .ok (.invokevirtual 176, 3) := by decide +kernel
theorem d_F_mark_52 : decode (z_c m_F_mark) 52 = .ok (.ireturn, 1) := by decide +kernel
set_option maxRecDepth 8000 in
theorem b_F_mark_0 {X : z_X} {N : Nat} {σ g : z_G} {Q : z_P} (hx : z_lay X N σ 0 z_SF z_RF) (h : (((g 0 14) < 3) → ((0 ≤ (g 0 14) ∧ (g 0 14) < 3) ∧ (∃ k1 : Nat, σ 51 (g 0 14) = (k1 : Int) ∧ z_sh X k1 = (0, 0) ∧ k1 < N ∧ (z_O X 2 m_Bd_copyFrom [(2, ((k1 : Nat) : Int)), (2, 23)] N σ g (fun r0 g0 => ((-2147483648 ≤ ((g0 0 14) + 1) ∧ ((g0 0 14) + 1) ≤ 2147483647) ∧ Q ((g0 0 14) + 1) (z_up (z_up g0 0 14 ((g0 0 14) + 1)) 0 0 0))))))) ∧ (¬ ((g 0 14) < 3) → Q (-1) (z_up g 0 0 4))) : z_O X 3 m_F_mark [(2, 0)] N σ g Q := by
  refine z_Oenter mi_F_mark rfl (fun _ => ?_)
  show z_U X 3 m_F_mark 0 [(0, (2, 0))] [] N σ g Q
  refine z_aload_n (i := 0) (c := 0) 0 d_F_mark_0 rfl rfl rfl ?_
  refine z_geti (c := 0) (kI := 14) d_F_mark_1 fd_F_marked fl_F_78 (Or.inl rfl) rfl rfl (ks_F_0 hx) (kl_F_0 hx) ?_
  refine z_aload_n (i := 0) (c := 0) 0 d_F_mark_4 rfl rfl rfl ?_
  refine z_getr (c := 0) (kI := 13) (r2 := 51) d_F_mark_5 fd_F_marks fl_F_74 rfl rfl rfl (ks_F_0 hx) (kl_F_0 hx) (kr_F_0_13 hx) ?_
  refine z_alen (c := 51) (m := 3) (cA := z_A X 6) d_F_mark_8 rfl (ks_F_51 hx) (kl_F_51 hx) rfl (by decide) rfl ?_
  refine z_icmp_lt (tgt := 18) d_F_mark_9 (by decide) (fun c1 => ?_) (fun c1 => ?_)
  · have h := h.1 c1
    refine z_aload_n (i := 0) (c := 0) 0 d_F_mark_18 rfl rfl rfl ?_
    refine z_getr (c := 0) (kI := 13) (r2 := 51) d_F_mark_19 fd_F_marks fl_F_74 rfl rfl rfl (ks_F_0 hx) (kl_F_0 hx) (kr_F_0_13 hx) ?_
    refine z_aload_n (i := 0) (c := 0) 0 d_F_mark_22 rfl rfl rfl ?_
    refine z_geti (c := 0) (kI := 14) d_F_mark_23 fd_F_marked fl_F_78 (Or.inl rfl) rfl rfl (ks_F_0 hx) (kl_F_0 hx) ?_
    obtain ⟨c2, h⟩ := h
    obtain ⟨k1, qk1, ek1, lk1, h⟩ := h
    refine z_aald6 (c := 51) (m := 3) (r2 := ((k1 : Nat) : Int)) d_F_mark_26 rfl (ks_F_51 hx) (kl_F_51 hx) rfl (by decide) c2 qk1 ?_
    refine z_aload_n (i := 0) (c := 0) 0 d_F_mark_27 rfl rfl rfl ?_
    refine z_getr (c := 0) (kI := 11) (r2 := 23) d_F_mark_28 fd_F_board fl_F_67 rfl rfl rfl (ks_F_0 hx) (kl_F_0 hx) (kr_F_0_11 hx) ?_
    refine z_cV (c := k1) (as := [(2, 23)]) (d' := 2) (st := []) d_F_mark_31 mi_Bd_copyFrom ml_F_163 mv_Bd_copyFrom se_Bd_copyFrom rfl rfl rfl rfl ek1 rfl rfl lk1 rfl rfl (z_Omono h (fun r0 g0 _ h hro => ?_))
    show z_U X 3 m_F_mark 34 [(0, (2, 0))] [] N σ g0 Q
    refine z_aload_n (i := 0) (c := 0) 0 d_F_mark_34 rfl rfl rfl ?_
    refine z_dup d_F_mark_35 rfl ?_
    refine z_geti (c := 0) (kI := 14) d_F_mark_36 fd_F_marked fl_F_78 (Or.inl rfl) rfl rfl (ks_F_0 hx) (kl_F_0 hx) ?_
    refine z_iconst (n := 1) d_F_mark_39 (by decide) ?_
    obtain ⟨c3, h⟩ := h
    refine z_iadd d_F_mark_40 c3 ?_
    refine z_puti (c := 0) (kI := 14) d_F_mark_41 fd_F_marked fl_F_78 pf_F_marked rfl rfl rfl rfl (ks_F_0 hx) (kl_F_0 hx) ?_
    refine z_aload_n (i := 0) (c := 0) 0 d_F_mark_44 rfl rfl rfl ?_
    refine z_aload_n (i := 0) (c := 0) 0 d_F_mark_45 rfl rfl rfl ?_
    refine z_geti (c := 0) (kI := 14) d_F_mark_46 fd_F_marked fl_F_78 (Or.inl rfl) rfl rfl (ks_F_0 hx) (kl_F_0 hx) ?_
    refine z_ti (b := (g0 0 14) + 1) (by simp [z_up]) ?_
    refine z_cV (c := 0) (as := [(0, (g0 0 14) + 1)]) (d' := 1) (st := []) d_F_mark_49 mi_F_give ml_F_176 mv_F_give se_F_give rfl rfl rfl rfl (ks_F_0 hx) rfl rfl (kl_F_0 hx) rfl rfl (b_F_give_0 hx ?_)
    intro _
    show z_U X 3 m_F_mark 52 [(0, (2, 0))] [(0, (g0 0 14) + 1)] N σ (z_up (z_up g0 0 14 ((g0 0 14) + 1)) 0 0 0) Q
    exact z_iret d_F_mark_52 rfl (by decide) (by decide) ⟨rfl, rfl, h⟩
  · have h := h.2 c1
    refine z_aload_n (i := 0) (c := 0) 0 d_F_mark_12 rfl rfl rfl ?_
    refine z_iconst (n := 4) d_F_mark_13 (by decide) ?_
    refine z_cV (c := 0) (as := [(0, 4)]) (d' := 1) (st := []) d_F_mark_14 mi_F_none ml_F_121 mv_F_none se_F_none rfl rfl rfl rfl (ks_F_0 hx) rfl rfl (kl_F_0 hx) rfl rfl (b_F_none_0 hx ?_)
    intro _
    show z_U X 3 m_F_mark 17 [(0, (2, 0))] [(0, (-1))] N σ (z_up g 0 0 4) Q
    exact z_iret d_F_mark_17 rfl (by decide) (by decide) ⟨rfl, rfl, h⟩
theorem d_F_part_0 : decode (z_c m_F_part) 0 = .ok (.iload_n 1, 1) := by decide +kernel
theorem d_F_part_1 : decode (z_c m_F_part) 1 = .ok (.iconst 1, 1) := by decide +kernel
theorem d_F_part_2 : decode (z_c m_F_part) 2 = .ok (.if_icmp .lt 10, 3) := by decide +kernel
theorem d_F_part_5 : decode (z_c m_F_part) 5 = .ok (.iload_n 1, 1) := by decide +kernel
theorem d_F_part_6 : decode (z_c m_F_part) 6 = .ok (.sipush 200, 3) := by decide +kernel
theorem d_F_part_9 : decode (z_c m_F_part) 9 = .ok (.if_icmp .le 9, 3) := by decide +kernel
theorem d_F_part_12 : decode (z_c m_F_part) 12 = .ok (.aload_n 0, 1) := by decide +kernel
theorem d_F_part_13 : decode (z_c m_F_part) 13 = .ok (.iconst 1, 1) := by decide +kernel
theorem d_F_part_14 : decode (z_c m_F_part) 14 = .ok (.invokevirtual 102, 3) := by decide +kernel
theorem d_F_part_17 : decode (z_c m_F_part) 17 = .ok (.ireturn, 1) := by decide +kernel
theorem d_F_part_18 : decode (z_c m_F_part) 18 = .ok (.aload_n 0, 1) := by decide +kernel
theorem d_F_part_19 : decode (z_c m_F_part) 19 = .ok (.aload_n 0, 1) := by decide +kernel
theorem d_F_part_20 : decode (z_c m_F_part) 20 = .ok (.getfield 43, 3) := by decide +kernel
theorem d_F_part_23 : decode (z_c m_F_part) 23 = .ok (.iload_n 1, 1) := by decide +kernel
theorem d_F_part_24 : decode (z_c m_F_part) 24 = .ok (.aload_n 0, 1) := by decide +kernel
theorem d_F_part_25 : decode (z_c m_F_part) 25 = .ok (.getfield 67, 3) := by decide +kernel
theorem d_F_part_28 : decode (z_c m_F_part) 28 = .ok (.getfield 197, 3) := by decide +kernel
theorem d_F_part_31 : decode (z_c m_F_part) 31 = .ok (.invokestatic 402, 3) := by decide +kernel
theorem d_F_part_34 : decode (z_c m_F_part) 34 = .ok (.invokevirtual 207, 3) := by decide +kernel
theorem d_F_part_37 : decode (z_c m_F_part) 37 = .ok (.i2l, 1) := by decide +kernel
theorem d_F_part_38 : decode (z_c m_F_part) 38 = .ok (.aload_n 0, 1) := by decide +kernel
theorem d_F_part_39 : decode (z_c m_F_part) 39 = .ok (.getfield 43, 3) := by decide +kernel
theorem d_F_part_42 : decode (z_c m_F_part) 42 = .ok (.aload_n 0, 1) := by decide +kernel
theorem d_F_part_43 : decode (z_c m_F_part) 43 = .ok (.getfield 67, 3) := by decide +kernel
theorem d_F_part_46 : decode (z_c m_F_part) 46 = .ok (.getfield 197, 3) := by decide +kernel
theorem d_F_part_49 : decode (z_c m_F_part) 49 = .ok (.invokevirtual 207, 3) := by decide +kernel
theorem d_F_part_52 : decode (z_c m_F_part) 52 = .ok (.i2l, 1) := by decide +kernel
theorem d_F_part_53 : decode (z_c m_F_part) 53 = .ok (.invokevirtual 233, 3) := by decide +kernel
theorem d_F_part_56 : decode (z_c m_F_part) 56 = .ok (.ireturn, 1) := by decide +kernel
set_option maxRecDepth 8000 in
theorem b_F_part_0 {X : z_X} {N : Nat} {σ g : z_G} {Q : z_P} {a1 : Int} (hx : z_lay X N σ 0 z_SF z_RF) (h : ((a1 < 1) → Q 0 (z_up g 0 0 1)) ∧ (¬ (a1 < 1) → (((a1 ≤ 200) → ((((g 23 0) < a1) → (z_O X 2 m_Rw_valuesOf [(2, 15), (0, g 23 0)] N σ g (fun r0 g0 => (z_O X 2 m_Rw_valuesOf [(2, 15), (0, g0 23 0)] N σ g0 (fun r1 g1 => (z_O X 2 m_F_tell [(2, 0), (1, r0), (1, r1)] N σ g1 (fun r2 g2 => (r2 = 0 ∨ r2 = 1) → Q r2 g2))))))) ∧ (¬ ((g 23 0) < a1) → (z_O X 2 m_Rw_valuesOf [(2, 15), (0, a1)] N σ g (fun r3 g3 => (z_O X 2 m_Rw_valuesOf [(2, 15), (0, g3 23 0)] N σ g3 (fun r4 g4 => (z_O X 2 m_F_tell [(2, 0), (1, r3), (1, r4)] N σ g4 (fun r5 g5 => (r5 = 0 ∨ r5 = 1) → Q r5 g5))))))))) ∧ (¬ (a1 ≤ 200) → Q 0 (z_up g 0 0 1))))) : z_O X 3 m_F_part [(2, 0), (0, a1)] N σ g Q := by
  refine z_Oenter mi_F_part rfl (fun _ => ?_)
  show z_U X 3 m_F_part 0 [(0, (2, 0)), (1, (0, a1))] [] N σ g Q
  refine z_iload_n (i := 1) 1 d_F_part_0 rfl rfl ?_
  refine z_iconst (n := 1) d_F_part_1 (by decide) ?_
  refine z_icmp_lt (tgt := 12) d_F_part_2 (by decide) (fun c1 => ?_) (fun c1 => ?_)
  · have h := h.1 c1
    refine z_aload_n (i := 0) (c := 0) 0 d_F_part_12 rfl rfl rfl ?_
    refine z_iconst (n := 1) d_F_part_13 (by decide) ?_
    refine z_cV (c := 0) (as := [(0, 1)]) (d' := 1) (st := []) d_F_part_14 mi_F_refuse ml_F_102 mv_F_refuse se_F_refuse rfl rfl rfl rfl (ks_F_0 hx) rfl rfl (kl_F_0 hx) rfl rfl (b_F_refuse_0 hx ?_)
    intro _
    show z_U X 3 m_F_part 17 [(0, (2, 0)), (1, (0, a1))] [(0, 0)] N σ (z_up g 0 0 1) Q
    exact z_zret d_F_part_17 rfl (by decide) (by decide) (by decide) ⟨rfl, rfl, h⟩
  · have h := h.2 c1
    refine z_iload_n (i := 1) 1 d_F_part_5 rfl rfl ?_
    refine z_sipush (n := 200) d_F_part_6 (by decide) (by decide) ?_
    refine z_icmp_le (tgt := 18) d_F_part_9 (by decide) (fun c2 => ?_) (fun c2 => ?_)
    · have h := h.1 c2
      refine z_aload_n (i := 0) (c := 0) 0 d_F_part_18 rfl rfl rfl ?_
      refine z_aload_n (i := 0) (c := 0) 0 d_F_part_19 rfl rfl rfl ?_
      refine z_getr (c := 0) (kI := 7) (r2 := 15) d_F_part_20 fd_F_row fl_F_43 rfl rfl rfl (ks_F_0 hx) (kl_F_0 hx) (kr_F_0_7 hx) ?_
      refine z_iload_n (i := 1) 1 d_F_part_23 rfl rfl ?_
      refine z_aload_n (i := 0) (c := 0) 0 d_F_part_24 rfl rfl rfl ?_
      refine z_getr (c := 0) (kI := 11) (r2 := 23) d_F_part_25 fd_F_board fl_F_67 rfl rfl rfl (ks_F_0 hx) (kl_F_0 hx) (kr_F_0_11 hx) ?_
      refine z_geti (c := 23) (kI := 0) d_F_part_28 fd_Bd_order fl_F_197 (Or.inl rfl) rfl rfl (ks_F_23 hx) (kl_F_23 hx) ?_
      refine z_mmin d_F_part_31 kmm_min_F_402 kms_min kmi kmc_min (by decide) (Nat.le_of_ble_eq_true rfl) (fun c3 => ?_) (fun c3 => ?_)
      · have h := h.1 c3
        refine z_cV (c := 15) (as := [(0, g 23 0)]) (d' := 2) (st := [(2, 0)]) d_F_part_34 mi_Rw_valuesOf ml_F_207 mv_Rw_valuesOf se_Rw_valuesOf rfl rfl rfl rfl (ks_F_15 hx) rfl rfl (kl_F_15 hx) rfl rfl (z_Omono h (fun r0 g0 _ h hro => ?_))
        show z_U X 3 m_F_part 37 [(0, (2, 0)), (1, (0, a1))] [(0, r0), (2, 0)] N σ g0 Q
        refine z_i2l d_F_part_37 ?_
        refine z_aload_n (i := 0) (c := 0) 0 d_F_part_38 rfl rfl rfl ?_
        refine z_getr (c := 0) (kI := 7) (r2 := 15) d_F_part_39 fd_F_row fl_F_43 rfl rfl rfl (ks_F_0 hx) (kl_F_0 hx) (kr_F_0_7 hx) ?_
        refine z_aload_n (i := 0) (c := 0) 0 d_F_part_42 rfl rfl rfl ?_
        refine z_getr (c := 0) (kI := 11) (r2 := 23) d_F_part_43 fd_F_board fl_F_67 rfl rfl rfl (ks_F_0 hx) (kl_F_0 hx) (kr_F_0_11 hx) ?_
        refine z_geti (c := 23) (kI := 0) d_F_part_46 fd_Bd_order fl_F_197 (Or.inl rfl) rfl rfl (ks_F_23 hx) (kl_F_23 hx) ?_
        refine z_cV (c := 15) (as := [(0, g0 23 0)]) (d' := 2) (st := [(1, r0), (2, 0)]) d_F_part_49 mi_Rw_valuesOf ml_F_207 mv_Rw_valuesOf se_Rw_valuesOf rfl rfl rfl rfl (ks_F_15 hx) rfl rfl (kl_F_15 hx) rfl rfl (z_Omono h (fun r1 g1 _ h hro => ?_))
        show z_U X 3 m_F_part 52 [(0, (2, 0)), (1, (0, a1))] [(0, r1), (1, r0), (2, 0)] N σ g1 Q
        refine z_i2l d_F_part_52 ?_
        refine z_cV (c := 0) (as := [(1, r0), (1, r1)]) (d' := 2) (st := []) d_F_part_53 mi_F_tell ml_F_233 mv_F_tell se_F_tell rfl rfl rfl rfl (ks_F_0 hx) rfl rfl (kl_F_0 hx) rfl rfl (z_Omono h (fun r2 g2 _ h hro => ?_))
        have h := h (z_b01 hro)
        have hzr2 := z_b01 hro
        show z_U X 3 m_F_part 56 [(0, (2, 0)), (1, (0, a1))] [(0, r2)] N σ g2 Q
        exact z_zret d_F_part_56 rfl (by decide) (by decide) hzr2 ⟨rfl, rfl, h⟩
      · have h := h.2 c3
        refine z_cV (c := 15) (as := [(0, a1)]) (d' := 2) (st := [(2, 0)]) d_F_part_34 mi_Rw_valuesOf ml_F_207 mv_Rw_valuesOf se_Rw_valuesOf rfl rfl rfl rfl (ks_F_15 hx) rfl rfl (kl_F_15 hx) rfl rfl (z_Omono h (fun r3 g3 _ h hro => ?_))
        show z_U X 3 m_F_part 37 [(0, (2, 0)), (1, (0, a1))] [(0, r3), (2, 0)] N σ g3 Q
        refine z_i2l d_F_part_37 ?_
        refine z_aload_n (i := 0) (c := 0) 0 d_F_part_38 rfl rfl rfl ?_
        refine z_getr (c := 0) (kI := 7) (r2 := 15) d_F_part_39 fd_F_row fl_F_43 rfl rfl rfl (ks_F_0 hx) (kl_F_0 hx) (kr_F_0_7 hx) ?_
        refine z_aload_n (i := 0) (c := 0) 0 d_F_part_42 rfl rfl rfl ?_
        refine z_getr (c := 0) (kI := 11) (r2 := 23) d_F_part_43 fd_F_board fl_F_67 rfl rfl rfl (ks_F_0 hx) (kl_F_0 hx) (kr_F_0_11 hx) ?_
        refine z_geti (c := 23) (kI := 0) d_F_part_46 fd_Bd_order fl_F_197 (Or.inl rfl) rfl rfl (ks_F_23 hx) (kl_F_23 hx) ?_
        refine z_cV (c := 15) (as := [(0, g3 23 0)]) (d' := 2) (st := [(1, r3), (2, 0)]) d_F_part_49 mi_Rw_valuesOf ml_F_207 mv_Rw_valuesOf se_Rw_valuesOf rfl rfl rfl rfl (ks_F_15 hx) rfl rfl (kl_F_15 hx) rfl rfl (z_Omono h (fun r4 g4 _ h hro => ?_))
        show z_U X 3 m_F_part 52 [(0, (2, 0)), (1, (0, a1))] [(0, r4), (1, r3), (2, 0)] N σ g4 Q
        refine z_i2l d_F_part_52 ?_
        refine z_cV (c := 0) (as := [(1, r3), (1, r4)]) (d' := 2) (st := []) d_F_part_53 mi_F_tell ml_F_233 mv_F_tell se_F_tell rfl rfl rfl rfl (ks_F_0 hx) rfl rfl (kl_F_0 hx) rfl rfl (z_Omono h (fun r5 g5 _ h hro => ?_))
        have h := h (z_b01 hro)
        have hzr5 := z_b01 hro
        show z_U X 3 m_F_part 56 [(0, (2, 0)), (1, (0, a1))] [(0, r5)] N σ g5 Q
        exact z_zret d_F_part_56 rfl (by decide) (by decide) hzr5 ⟨rfl, rfl, h⟩
    · have h := h.2 c2
      refine z_aload_n (i := 0) (c := 0) 0 d_F_part_12 rfl rfl rfl ?_
      refine z_iconst (n := 1) d_F_part_13 (by decide) ?_
      refine z_cV (c := 0) (as := [(0, 1)]) (d' := 1) (st := []) d_F_part_14 mi_F_refuse ml_F_102 mv_F_refuse se_F_refuse rfl rfl rfl rfl (ks_F_0 hx) rfl rfl (kl_F_0 hx) rfl rfl (b_F_refuse_0 hx ?_)
      intro _
      show z_U X 3 m_F_part 17 [(0, (2, 0)), (1, (0, a1))] [(0, 0)] N σ (z_up g 0 0 1) Q
      exact z_zret d_F_part_17 rfl (by decide) (by decide) (by decide) ⟨rfl, rfl, h⟩
theorem d_F_rule_0 : decode (z_c m_F_rule) 0 = .ok (.iload_n 1, 1) := by decide +kernel
theorem d_F_rule_1 : decode (z_c m_F_rule) 1 = .ok (.ifCond .ne 19, 3) := by decide +kernel
theorem d_F_rule_4 : decode (z_c m_F_rule) 4 = .ok (.iload_n 2, 1) := by decide +kernel
theorem d_F_rule_5 : decode (z_c m_F_rule) 5 = .ok (.iconst 1, 1) := by decide +kernel
theorem d_F_rule_6 : decode (z_c m_F_rule) 6 = .ok (.if_icmp .lt 14, 3) := by decide +kernel
theorem d_F_rule_9 : decode (z_c m_F_rule) 9 = .ok (.iload_n 2, 1) := by decide +kernel
theorem d_F_rule_10 : decode (z_c m_F_rule) 10 = .ok (.sipush 200, 3) := by decide +kernel
theorem d_F_rule_13 : decode (z_c m_F_rule) 13 = .ok (.if_icmp .gt 7, 3) := by decide +kernel
theorem d_F_rule_16 : decode (z_c m_F_rule) 16 = .ok (.iconst 1, 1) := by decide +kernel
theorem d_F_rule_17 : decode (z_c m_F_rule) 17 = .ok (.goto 4, 3) := by decide +kernel
theorem d_F_rule_20 : decode (z_c m_F_rule) 20 = .ok (.iconst 0, 1) := by decide +kernel
theorem d_F_rule_21 : decode (z_c m_F_rule) 21 = .ok (.istore_n 3, 1) := by decide +kernel
theorem d_F_rule_22 : decode (z_c m_F_rule) 22 = .ok (.iload_n 1, 1) := by decide +kernel
theorem d_F_rule_23 : decode (z_c m_F_rule) 23 = .ok (.iconst 1, 1) := by decide +kernel
theorem d_F_rule_24 : decode (z_c m_F_rule) 24 = .ok (.if_icmp .ne 17, 3) := by decide +kernel
theorem d_F_rule_27 : decode (z_c m_F_rule) 27 = .ok (.iload_n 2, 1) := by decide +kernel
theorem d_F_rule_28 : decode (z_c m_F_rule) 28 = .ok (.ifCond .lt 13, 3) := by decide +kernel
theorem d_F_rule_31 : decode (z_c m_F_rule) 31 = .ok (.iload_n 2, 1) := by decide +kernel
theorem d_F_rule_32 : decode (z_c m_F_rule) 32 = .ok (.bipush 16, 2) := by decide +kernel
theorem d_F_rule_34 : decode (z_c m_F_rule) 34 = .ok (.if_icmp .gt 7, 3) := by decide +kernel
theorem d_F_rule_37 : decode (z_c m_F_rule) 37 = .ok (.iconst 1, 1) := by decide +kernel
theorem d_F_rule_38 : decode (z_c m_F_rule) 38 = .ok (.goto 4, 3) := by decide +kernel
theorem d_F_rule_41 : decode (z_c m_F_rule) 41 = .ok (.iconst 0, 1) := by decide +kernel
theorem d_F_rule_42 : decode (z_c m_F_rule) 42 = .ok (.istore 4, 2) := by decide +kernel
theorem d_F_rule_44 : decode (z_c m_F_rule) 44 = .ok (.iload_n 3, 1) := by decide +kernel
theorem d_F_rule_45 : decode (z_c m_F_rule) 45 = .ok (.ifCond .ne 14, 3) := by decide +kernel
theorem d_F_rule_48 : decode (z_c m_F_rule) 48 = .ok (.iload 4, 2) := by decide +kernel
theorem d_F_rule_50 : decode (z_c m_F_rule) 50 = .ok (.ifCond .ne 9, 3) := by decide +kernel
theorem d_F_rule_53 : decode (z_c m_F_rule) 53 = .ok (.aload_n 0, 1) := by decide +kernel
theorem d_F_rule_54 : decode (z_c m_F_rule) 54 = .ok (.iconst 1, 1) := by decide +kernel
theorem d_F_rule_55 : decode (z_c m_F_rule) 55 = .ok (.invokevirtual 121, 3) := by decide +kernel
theorem d_F_rule_58 : decode (z_c m_F_rule) 58 = .ok (.ireturn, 1) := by decide +kernel
theorem d_F_rule_59 : decode (z_c m_F_rule) 59 = .ok (.iload_n 2, 1) := by decide +kernel
theorem d_F_rule_60 : decode (z_c m_F_rule) 60 = .ok (.iload_n 3, 1) := by decide +kernel
theorem d_F_rule_61 : decode (z_c m_F_rule) 61 = .ok (.ifCond .eq 13, 3) := by decide +kernel
theorem d_F_rule_64 : decode (z_c m_F_rule) 64 = .ok (.aload_n 0, 1) := by decide +kernel
theorem d_F_rule_65 : decode (z_c m_F_rule) 65 = .ok (.getfield 67, 3) := by decide +kernel
theorem d_F_rule_68 : decode (z_c m_F_rule) 68 = .ok (.getfield 197, 3) := by decide +kernel
theorem d_F_rule_71 : decode (z_c m_F_rule) 71 = .ok (.goto 10, 3) := by decide +kernel
theorem d_F_rule_74 : decode (z_c m_F_rule) 74 = .ok (.aload_n 0, 1) := by decide +kernel
theorem d_F_rule_75 : decode (z_c m_F_rule) 75 = .ok (.getfield 67, 3) := by decide +kernel
theorem d_F_rule_78 : decode (z_c m_F_rule) 78 = .ok (.getfield 200, 3) := by decide +kernel
theorem d_F_rule_81 : decode (z_c m_F_rule) 81 = .ok (.if_icmp .ne 10, 3) := by decide +kernel
theorem d_F_rule_84 : decode (z_c m_F_rule) 84 = .ok (.aload_n 0, 1) := by decide +kernel
theorem d_F_rule_85 : decode (z_c m_F_rule) 85 = .ok (.bipush 7, 2) := by decide +kernel
theorem d_F_rule_87 : decode (z_c m_F_rule) 87 = .ok (.invokevirtual 121, 3) := by decide +kernel
theorem d_F_rule_90 : decode (z_c m_F_rule) 90 = .ok (.ireturn, 1) := by decide +kernel
theorem d_F_rule_91 : decode (z_c m_F_rule) 91 = .ok (.iload_n 3, 1) := by decide +kernel
theorem d_F_rule_92 : decode (z_c m_F_rule) 92 = .ok (.ifCond .eq 14, 3) := by decide +kernel
theorem d_F_rule_95 : decode (z_c m_F_rule) 95 = .ok (.aload_n 0, 1) := by decide +kernel
theorem d_F_rule_96 : decode (z_c m_F_rule) 96 = .ok (.getfield 67, 3) := by decide +kernel
theorem d_F_rule_99 : decode (z_c m_F_rule) 99 = .ok (.iload_n 2, 1) := by decide +kernel
theorem d_F_rule_100 : decode (z_c m_F_rule) 100 = .ok (.putfield 197, 3) := by decide +kernel
theorem d_F_rule_103 : decode (z_c m_F_rule) 103 = .ok (.goto 11, 3) := by decide +kernel
theorem d_F_rule_106 : decode (z_c m_F_rule) 106 = .ok (.aload_n 0, 1) := by decide +kernel
theorem d_F_rule_107 : decode (z_c m_F_rule) 107 = .ok (.getfield 67, 3) := by decide +kernel
theorem d_F_rule_110 : decode (z_c m_F_rule) 110 = .ok (.iload_n 2, 1) := by decide +kernel
theorem d_F_rule_111 : decode (z_c m_F_rule) 111 = .ok (.putfield 200, 3) := by decide +kernel
theorem d_F_rule_114 : decode (z_c m_F_rule) 114 = .ok (.aload_n 0, 1) := by decide +kernel
theorem d_F_rule_115 : decode (z_c m_F_rule) 115 = .ok (.aload_n 0, 1) := by decide +kernel
theorem d_F_rule_116 : decode (z_c m_F_rule) 116 = .ok (.getfield 43, 3) := by decide +kernel
theorem d_F_rule_119 : decode (z_c m_F_rule) 119 = .ok (.aload_n 0, 1) := by decide +kernel
theorem d_F_rule_120 : decode (z_c m_F_rule) 120 = .ok (.getfield 67, 3) := by decide +kernel
theorem d_F_rule_123 : decode (z_c m_F_rule) 123 = .ok (.getfield 197, 3) := by decide +kernel
theorem d_F_rule_126 : decode (z_c m_F_rule) 126 = .ok (.invokevirtual 207, 3) := by decide +kernel
theorem d_F_rule_129 : decode (z_c m_F_rule) 129 = .ok (.invokevirtual 176, 3) := by decide +kernel
theorem d_F_rule_132 : decode (z_c m_F_rule) 132 = .ok (.ireturn, 1) := by decide +kernel
set_option maxRecDepth 8000 in
theorem b_F_rule_0 {X : z_X} {N : Nat} {σ g : z_G} {Q : z_P} {a1 a2 : Int} (hx : z_lay X N σ 0 z_SF z_RF) (h : ((a1 = 0) → (((a2 < 1) → (((a1 = 1) → (((a2 < 0) → Q (-1) (z_up g 0 0 1)) ∧ (¬ (a2 < 0) → (((16 < a2) → Q (-1) (z_up g 0 0 1)) ∧ (¬ (16 < a2) → (((a2 = (g 23 1)) → Q (-1) (z_up g 0 0 7)) ∧ (¬ (a2 = (g 23 1)) → (z_O X 2 m_Rw_valuesOf [(2, 15), (0, g 23 0)] N σ (z_up g 23 1 a2) (fun r1 g1 => Q r1 (z_up g1 0 0 0)))))))))) ∧ (¬ (a1 = 1) → Q (-1) (z_up g 0 0 1)))) ∧ (¬ (a2 < 1) → (((200 < a2) → (((a1 = 1) → (((a2 < 0) → Q (-1) (z_up g 0 0 1)) ∧ (¬ (a2 < 0) → (((16 < a2) → Q (-1) (z_up g 0 0 1)) ∧ (¬ (16 < a2) → (((a2 = (g 23 1)) → Q (-1) (z_up g 0 0 7)) ∧ (¬ (a2 = (g 23 1)) → (z_O X 2 m_Rw_valuesOf [(2, 15), (0, g 23 0)] N σ (z_up g 23 1 a2) (fun r2 g2 => Q r2 (z_up g2 0 0 0)))))))))) ∧ (¬ (a1 = 1) → Q (-1) (z_up g 0 0 1)))) ∧ (¬ (200 < a2) → (((a1 = 1) → (((a2 < 0) → (((a2 = (g 23 0)) → Q (-1) (z_up g 0 0 7)) ∧ (¬ (a2 = (g 23 0)) → (z_O X 2 m_Rw_valuesOf [(2, 15), (0, a2)] N σ (z_up g 23 0 a2) (fun r4 g4 => Q r4 (z_up g4 0 0 0)))))) ∧ (¬ (a2 < 0) → (((16 < a2) → (((a2 = (g 23 0)) → Q (-1) (z_up g 0 0 7)) ∧ (¬ (a2 = (g 23 0)) → (z_O X 2 m_Rw_valuesOf [(2, 15), (0, a2)] N σ (z_up g 23 0 a2) (fun r5 g5 => Q r5 (z_up g5 0 0 0)))))) ∧ (¬ (16 < a2) → (((a2 = (g 23 0)) → Q (-1) (z_up g 0 0 7)) ∧ (¬ (a2 = (g 23 0)) → (z_O X 2 m_Rw_valuesOf [(2, 15), (0, a2)] N σ (z_up g 23 0 a2) (fun r6 g6 => Q r6 (z_up g6 0 0 0)))))))))) ∧ (¬ (a1 = 1) → (((a2 = (g 23 0)) → Q (-1) (z_up g 0 0 7)) ∧ (¬ (a2 = (g 23 0)) → (z_O X 2 m_Rw_valuesOf [(2, 15), (0, a2)] N σ (z_up g 23 0 a2) (fun r3 g3 => Q r3 (z_up g3 0 0 0)))))))))))) ∧ (¬ (a1 = 0) → (((a1 = 1) → (((a2 < 0) → Q (-1) (z_up g 0 0 1)) ∧ (¬ (a2 < 0) → (((16 < a2) → Q (-1) (z_up g 0 0 1)) ∧ (¬ (16 < a2) → (((a2 = (g 23 1)) → Q (-1) (z_up g 0 0 7)) ∧ (¬ (a2 = (g 23 1)) → (z_O X 2 m_Rw_valuesOf [(2, 15), (0, g 23 0)] N σ (z_up g 23 1 a2) (fun r0 g0 => Q r0 (z_up g0 0 0 0)))))))))) ∧ (¬ (a1 = 1) → Q (-1) (z_up g 0 0 1))))) : z_O X 3 m_F_rule [(2, 0), (0, a1), (0, a2)] N σ g Q := by
  refine z_Oenter mi_F_rule rfl (fun _ => ?_)
  show z_U X 3 m_F_rule 0 [(0, (2, 0)), (1, (0, a1)), (2, (0, a2))] [] N σ g Q
  refine z_iload_n (i := 1) 1 d_F_rule_0 rfl rfl ?_
  refine z_if_ne (tgt := 20) d_F_rule_1 (by decide) (fun c1 => ?_) (fun c1 => ?_)
  · have h := h.2 c1
    refine z_iconst (n := 0) d_F_rule_20 (by decide) ?_
    refine z_istore_n (i := 3) (ls' := [(3, (0, 0)), (0, (2, 0)), (1, (0, a1)), (2, (0, a2))]) d_F_rule_21 rfl rfl rfl ?_
    refine z_iload_n (i := 1) 2 d_F_rule_22 rfl rfl ?_
    refine z_iconst (n := 1) d_F_rule_23 (by decide) ?_
    refine z_icmp_ne (tgt := 41) d_F_rule_24 (by decide) (fun c2 => ?_) (fun c2 => ?_)
    · have h := h.2 c2
      refine z_iconst (n := 0) d_F_rule_41 (by decide) ?_
      refine z_istore (ls' := [(4, (0, 0)), (3, (0, 0)), (0, (2, 0)), (1, (0, a1)), (2, (0, a2))]) d_F_rule_42 rfl rfl ?_
      refine z_iload_n (i := 3) 1 d_F_rule_44 rfl rfl ?_
      refine z_if_ne (tgt := 59) d_F_rule_45 (by decide) (fun c => absurd (by decide) c) (fun _ => ?_)
      refine z_iload 0 d_F_rule_48 rfl ?_
      refine z_if_ne (tgt := 59) d_F_rule_50 (by decide) (fun c => absurd (by decide) c) (fun _ => ?_)
      refine z_aload_n (i := 0) (c := 0) 2 d_F_rule_53 rfl rfl rfl ?_
      refine z_iconst (n := 1) d_F_rule_54 (by decide) ?_
      refine z_cV (c := 0) (as := [(0, 1)]) (d' := 1) (st := []) d_F_rule_55 mi_F_none ml_F_121 mv_F_none se_F_none rfl rfl rfl rfl (ks_F_0 hx) rfl rfl (kl_F_0 hx) rfl rfl (b_F_none_0 hx ?_)
      intro _
      show z_U X 3 m_F_rule 58 [(4, (0, 0)), (3, (0, 0)), (0, (2, 0)), (1, (0, a1)), (2, (0, a2))] [(0, (-1))] N σ (z_up g 0 0 1) Q
      exact z_iret d_F_rule_58 rfl (by decide) (by decide) ⟨rfl, rfl, h⟩
    · have h := h.1 c2
      refine z_iload_n (i := 2) 3 d_F_rule_27 rfl rfl ?_
      refine z_if_lt (tgt := 41) d_F_rule_28 (by decide) (fun c3 => ?_) (fun c3 => ?_)
      · have h := h.1 c3
        refine z_iconst (n := 0) d_F_rule_41 (by decide) ?_
        refine z_istore (ls' := [(4, (0, 0)), (3, (0, 0)), (0, (2, 0)), (1, (0, a1)), (2, (0, a2))]) d_F_rule_42 rfl rfl ?_
        refine z_iload_n (i := 3) 1 d_F_rule_44 rfl rfl ?_
        refine z_if_ne (tgt := 59) d_F_rule_45 (by decide) (fun c => absurd (by decide) c) (fun _ => ?_)
        refine z_iload 0 d_F_rule_48 rfl ?_
        refine z_if_ne (tgt := 59) d_F_rule_50 (by decide) (fun c => absurd (by decide) c) (fun _ => ?_)
        refine z_aload_n (i := 0) (c := 0) 2 d_F_rule_53 rfl rfl rfl ?_
        refine z_iconst (n := 1) d_F_rule_54 (by decide) ?_
        refine z_cV (c := 0) (as := [(0, 1)]) (d' := 1) (st := []) d_F_rule_55 mi_F_none ml_F_121 mv_F_none se_F_none rfl rfl rfl rfl (ks_F_0 hx) rfl rfl (kl_F_0 hx) rfl rfl (b_F_none_0 hx ?_)
        intro _
        show z_U X 3 m_F_rule 58 [(4, (0, 0)), (3, (0, 0)), (0, (2, 0)), (1, (0, a1)), (2, (0, a2))] [(0, (-1))] N σ (z_up g 0 0 1) Q
        exact z_iret d_F_rule_58 rfl (by decide) (by decide) ⟨rfl, rfl, h⟩
      · have h := h.2 c3
        refine z_iload_n (i := 2) 3 d_F_rule_31 rfl rfl ?_
        refine z_bipush (n := 16) d_F_rule_32 (by decide) (by decide) ?_
        refine z_icmp_gt (tgt := 41) d_F_rule_34 (by decide) (fun c4 => ?_) (fun c4 => ?_)
        · have h := h.1 c4
          refine z_iconst (n := 0) d_F_rule_41 (by decide) ?_
          refine z_istore (ls' := [(4, (0, 0)), (3, (0, 0)), (0, (2, 0)), (1, (0, a1)), (2, (0, a2))]) d_F_rule_42 rfl rfl ?_
          refine z_iload_n (i := 3) 1 d_F_rule_44 rfl rfl ?_
          refine z_if_ne (tgt := 59) d_F_rule_45 (by decide) (fun c => absurd (by decide) c) (fun _ => ?_)
          refine z_iload 0 d_F_rule_48 rfl ?_
          refine z_if_ne (tgt := 59) d_F_rule_50 (by decide) (fun c => absurd (by decide) c) (fun _ => ?_)
          refine z_aload_n (i := 0) (c := 0) 2 d_F_rule_53 rfl rfl rfl ?_
          refine z_iconst (n := 1) d_F_rule_54 (by decide) ?_
          refine z_cV (c := 0) (as := [(0, 1)]) (d' := 1) (st := []) d_F_rule_55 mi_F_none ml_F_121 mv_F_none se_F_none rfl rfl rfl rfl (ks_F_0 hx) rfl rfl (kl_F_0 hx) rfl rfl (b_F_none_0 hx ?_)
          intro _
          show z_U X 3 m_F_rule 58 [(4, (0, 0)), (3, (0, 0)), (0, (2, 0)), (1, (0, a1)), (2, (0, a2))] [(0, (-1))] N σ (z_up g 0 0 1) Q
          exact z_iret d_F_rule_58 rfl (by decide) (by decide) ⟨rfl, rfl, h⟩
        · have h := h.2 c4
          refine z_iconst (n := 1) d_F_rule_37 (by decide) ?_
          refine z_goto (tgt := 42) d_F_rule_38 (by decide) ?_
          refine z_istore (ls' := [(4, (0, 1)), (3, (0, 0)), (0, (2, 0)), (1, (0, a1)), (2, (0, a2))]) d_F_rule_42 rfl rfl ?_
          refine z_iload_n (i := 3) 1 d_F_rule_44 rfl rfl ?_
          refine z_if_ne (tgt := 59) d_F_rule_45 (by decide) (fun c => absurd (by decide) c) (fun _ => ?_)
          refine z_iload 0 d_F_rule_48 rfl ?_
          refine z_if_ne (tgt := 59) d_F_rule_50 (by decide) (fun _ => ?_) (fun c => absurd c (by decide))
          refine z_iload_n (i := 2) 4 d_F_rule_59 rfl rfl ?_
          refine z_iload_n (i := 3) 1 d_F_rule_60 rfl rfl ?_
          refine z_if_eq (tgt := 74) d_F_rule_61 (by decide) (fun _ => ?_) (fun c => absurd (by decide) c)
          refine z_aload_n (i := 0) (c := 0) 2 d_F_rule_74 rfl rfl rfl ?_
          refine z_getr (c := 0) (kI := 11) (r2 := 23) d_F_rule_75 fd_F_board fl_F_67 rfl rfl rfl (ks_F_0 hx) (kl_F_0 hx) (kr_F_0_11 hx) ?_
          refine z_geti (c := 23) (kI := 1) d_F_rule_78 fd_Bd_odds fl_F_200 (Or.inl rfl) rfl rfl (ks_F_23 hx) (kl_F_23 hx) ?_
          refine z_icmp_ne (tgt := 91) d_F_rule_81 (by decide) (fun c5 => ?_) (fun c5 => ?_)
          · have h := h.2 c5
            refine z_iload_n (i := 3) 1 d_F_rule_91 rfl rfl ?_
            refine z_if_eq (tgt := 106) d_F_rule_92 (by decide) (fun _ => ?_) (fun c => absurd (by decide) c)
            refine z_aload_n (i := 0) (c := 0) 2 d_F_rule_106 rfl rfl rfl ?_
            refine z_getr (c := 0) (kI := 11) (r2 := 23) d_F_rule_107 fd_F_board fl_F_67 rfl rfl rfl (ks_F_0 hx) (kl_F_0 hx) (kr_F_0_11 hx) ?_
            refine z_iload_n (i := 2) 4 d_F_rule_110 rfl rfl ?_
            refine z_puti (c := 23) (kI := 1) d_F_rule_111 fd_Bd_odds fl_F_200 pf_Bd_odds rfl rfl rfl rfl (ks_F_23 hx) (kl_F_23 hx) ?_
            refine z_aload_n (i := 0) (c := 0) 2 d_F_rule_114 rfl rfl rfl ?_
            refine z_aload_n (i := 0) (c := 0) 2 d_F_rule_115 rfl rfl rfl ?_
            refine z_getr (c := 0) (kI := 7) (r2 := 15) d_F_rule_116 fd_F_row fl_F_43 rfl rfl rfl (ks_F_0 hx) (kl_F_0 hx) (kr_F_0_7 hx) ?_
            refine z_aload_n (i := 0) (c := 0) 2 d_F_rule_119 rfl rfl rfl ?_
            refine z_getr (c := 0) (kI := 11) (r2 := 23) d_F_rule_120 fd_F_board fl_F_67 rfl rfl rfl (ks_F_0 hx) (kl_F_0 hx) (kr_F_0_11 hx) ?_
            refine z_geti (c := 23) (kI := 0) d_F_rule_123 fd_Bd_order fl_F_197 (Or.inl rfl) rfl rfl (ks_F_23 hx) (kl_F_23 hx) ?_
            refine z_ti (b := g 23 0) (by simp [z_up]) ?_
            refine z_cV (c := 15) (as := [(0, g 23 0)]) (d' := 2) (st := [(2, 0)]) d_F_rule_126 mi_Rw_valuesOf ml_F_207 mv_Rw_valuesOf se_Rw_valuesOf rfl rfl rfl rfl (ks_F_15 hx) rfl rfl (kl_F_15 hx) rfl rfl (z_Omono h (fun r0 g0 _ h hro => ?_))
            show z_U X 3 m_F_rule 129 [(4, (0, 1)), (3, (0, 0)), (0, (2, 0)), (1, (0, a1)), (2, (0, a2))] [(0, r0), (2, 0)] N σ g0 Q
            refine z_cV (c := 0) (as := [(0, r0)]) (d' := 1) (st := []) d_F_rule_129 mi_F_give ml_F_176 mv_F_give se_F_give rfl rfl rfl rfl (ks_F_0 hx) rfl rfl (kl_F_0 hx) rfl rfl (b_F_give_0 hx ?_)
            intro _
            show z_U X 3 m_F_rule 132 [(4, (0, 1)), (3, (0, 0)), (0, (2, 0)), (1, (0, a1)), (2, (0, a2))] [(0, r0)] N σ (z_up g0 0 0 0) Q
            exact z_iret d_F_rule_132 rfl (by decide) (by decide) ⟨rfl, rfl, h⟩
          · have h := h.1 c5
            refine z_aload_n (i := 0) (c := 0) 2 d_F_rule_84 rfl rfl rfl ?_
            refine z_bipush (n := 7) d_F_rule_85 (by decide) (by decide) ?_
            refine z_cV (c := 0) (as := [(0, 7)]) (d' := 1) (st := []) d_F_rule_87 mi_F_none ml_F_121 mv_F_none se_F_none rfl rfl rfl rfl (ks_F_0 hx) rfl rfl (kl_F_0 hx) rfl rfl (b_F_none_0 hx ?_)
            intro _
            show z_U X 3 m_F_rule 90 [(4, (0, 1)), (3, (0, 0)), (0, (2, 0)), (1, (0, a1)), (2, (0, a2))] [(0, (-1))] N σ (z_up g 0 0 7) Q
            exact z_iret d_F_rule_90 rfl (by decide) (by decide) ⟨rfl, rfl, h⟩
  · have h := h.1 c1
    refine z_iload_n (i := 2) 2 d_F_rule_4 rfl rfl ?_
    refine z_iconst (n := 1) d_F_rule_5 (by decide) ?_
    refine z_icmp_lt (tgt := 20) d_F_rule_6 (by decide) (fun c6 => ?_) (fun c6 => ?_)
    · have h := h.1 c6
      refine z_iconst (n := 0) d_F_rule_20 (by decide) ?_
      refine z_istore_n (i := 3) (ls' := [(3, (0, 0)), (0, (2, 0)), (1, (0, a1)), (2, (0, a2))]) d_F_rule_21 rfl rfl rfl ?_
      refine z_iload_n (i := 1) 2 d_F_rule_22 rfl rfl ?_
      refine z_iconst (n := 1) d_F_rule_23 (by decide) ?_
      refine z_icmp_ne (tgt := 41) d_F_rule_24 (by decide) (fun c7 => ?_) (fun c7 => ?_)
      · have h := h.2 c7
        refine z_iconst (n := 0) d_F_rule_41 (by decide) ?_
        refine z_istore (ls' := [(4, (0, 0)), (3, (0, 0)), (0, (2, 0)), (1, (0, a1)), (2, (0, a2))]) d_F_rule_42 rfl rfl ?_
        refine z_iload_n (i := 3) 1 d_F_rule_44 rfl rfl ?_
        refine z_if_ne (tgt := 59) d_F_rule_45 (by decide) (fun c => absurd (by decide) c) (fun _ => ?_)
        refine z_iload 0 d_F_rule_48 rfl ?_
        refine z_if_ne (tgt := 59) d_F_rule_50 (by decide) (fun c => absurd (by decide) c) (fun _ => ?_)
        refine z_aload_n (i := 0) (c := 0) 2 d_F_rule_53 rfl rfl rfl ?_
        refine z_iconst (n := 1) d_F_rule_54 (by decide) ?_
        refine z_cV (c := 0) (as := [(0, 1)]) (d' := 1) (st := []) d_F_rule_55 mi_F_none ml_F_121 mv_F_none se_F_none rfl rfl rfl rfl (ks_F_0 hx) rfl rfl (kl_F_0 hx) rfl rfl (b_F_none_0 hx ?_)
        intro _
        show z_U X 3 m_F_rule 58 [(4, (0, 0)), (3, (0, 0)), (0, (2, 0)), (1, (0, a1)), (2, (0, a2))] [(0, (-1))] N σ (z_up g 0 0 1) Q
        exact z_iret d_F_rule_58 rfl (by decide) (by decide) ⟨rfl, rfl, h⟩
      · have h := h.1 c7
        refine z_iload_n (i := 2) 3 d_F_rule_27 rfl rfl ?_
        refine z_if_lt (tgt := 41) d_F_rule_28 (by decide) (fun c8 => ?_) (fun c8 => ?_)
        · have h := h.1 c8
          refine z_iconst (n := 0) d_F_rule_41 (by decide) ?_
          refine z_istore (ls' := [(4, (0, 0)), (3, (0, 0)), (0, (2, 0)), (1, (0, a1)), (2, (0, a2))]) d_F_rule_42 rfl rfl ?_
          refine z_iload_n (i := 3) 1 d_F_rule_44 rfl rfl ?_
          refine z_if_ne (tgt := 59) d_F_rule_45 (by decide) (fun c => absurd (by decide) c) (fun _ => ?_)
          refine z_iload 0 d_F_rule_48 rfl ?_
          refine z_if_ne (tgt := 59) d_F_rule_50 (by decide) (fun c => absurd (by decide) c) (fun _ => ?_)
          refine z_aload_n (i := 0) (c := 0) 2 d_F_rule_53 rfl rfl rfl ?_
          refine z_iconst (n := 1) d_F_rule_54 (by decide) ?_
          refine z_cV (c := 0) (as := [(0, 1)]) (d' := 1) (st := []) d_F_rule_55 mi_F_none ml_F_121 mv_F_none se_F_none rfl rfl rfl rfl (ks_F_0 hx) rfl rfl (kl_F_0 hx) rfl rfl (b_F_none_0 hx ?_)
          intro _
          show z_U X 3 m_F_rule 58 [(4, (0, 0)), (3, (0, 0)), (0, (2, 0)), (1, (0, a1)), (2, (0, a2))] [(0, (-1))] N σ (z_up g 0 0 1) Q
          exact z_iret d_F_rule_58 rfl (by decide) (by decide) ⟨rfl, rfl, h⟩
        · have h := h.2 c8
          refine z_iload_n (i := 2) 3 d_F_rule_31 rfl rfl ?_
          refine z_bipush (n := 16) d_F_rule_32 (by decide) (by decide) ?_
          refine z_icmp_gt (tgt := 41) d_F_rule_34 (by decide) (fun c9 => ?_) (fun c9 => ?_)
          · have h := h.1 c9
            refine z_iconst (n := 0) d_F_rule_41 (by decide) ?_
            refine z_istore (ls' := [(4, (0, 0)), (3, (0, 0)), (0, (2, 0)), (1, (0, a1)), (2, (0, a2))]) d_F_rule_42 rfl rfl ?_
            refine z_iload_n (i := 3) 1 d_F_rule_44 rfl rfl ?_
            refine z_if_ne (tgt := 59) d_F_rule_45 (by decide) (fun c => absurd (by decide) c) (fun _ => ?_)
            refine z_iload 0 d_F_rule_48 rfl ?_
            refine z_if_ne (tgt := 59) d_F_rule_50 (by decide) (fun c => absurd (by decide) c) (fun _ => ?_)
            refine z_aload_n (i := 0) (c := 0) 2 d_F_rule_53 rfl rfl rfl ?_
            refine z_iconst (n := 1) d_F_rule_54 (by decide) ?_
            refine z_cV (c := 0) (as := [(0, 1)]) (d' := 1) (st := []) d_F_rule_55 mi_F_none ml_F_121 mv_F_none se_F_none rfl rfl rfl rfl (ks_F_0 hx) rfl rfl (kl_F_0 hx) rfl rfl (b_F_none_0 hx ?_)
            intro _
            show z_U X 3 m_F_rule 58 [(4, (0, 0)), (3, (0, 0)), (0, (2, 0)), (1, (0, a1)), (2, (0, a2))] [(0, (-1))] N σ (z_up g 0 0 1) Q
            exact z_iret d_F_rule_58 rfl (by decide) (by decide) ⟨rfl, rfl, h⟩
          · have h := h.2 c9
            refine z_iconst (n := 1) d_F_rule_37 (by decide) ?_
            refine z_goto (tgt := 42) d_F_rule_38 (by decide) ?_
            refine z_istore (ls' := [(4, (0, 1)), (3, (0, 0)), (0, (2, 0)), (1, (0, a1)), (2, (0, a2))]) d_F_rule_42 rfl rfl ?_
            refine z_iload_n (i := 3) 1 d_F_rule_44 rfl rfl ?_
            refine z_if_ne (tgt := 59) d_F_rule_45 (by decide) (fun c => absurd (by decide) c) (fun _ => ?_)
            refine z_iload 0 d_F_rule_48 rfl ?_
            refine z_if_ne (tgt := 59) d_F_rule_50 (by decide) (fun _ => ?_) (fun c => absurd c (by decide))
            refine z_iload_n (i := 2) 4 d_F_rule_59 rfl rfl ?_
            refine z_iload_n (i := 3) 1 d_F_rule_60 rfl rfl ?_
            refine z_if_eq (tgt := 74) d_F_rule_61 (by decide) (fun _ => ?_) (fun c => absurd (by decide) c)
            refine z_aload_n (i := 0) (c := 0) 2 d_F_rule_74 rfl rfl rfl ?_
            refine z_getr (c := 0) (kI := 11) (r2 := 23) d_F_rule_75 fd_F_board fl_F_67 rfl rfl rfl (ks_F_0 hx) (kl_F_0 hx) (kr_F_0_11 hx) ?_
            refine z_geti (c := 23) (kI := 1) d_F_rule_78 fd_Bd_odds fl_F_200 (Or.inl rfl) rfl rfl (ks_F_23 hx) (kl_F_23 hx) ?_
            refine z_icmp_ne (tgt := 91) d_F_rule_81 (by decide) (fun c10 => ?_) (fun c10 => ?_)
            · have h := h.2 c10
              refine z_iload_n (i := 3) 1 d_F_rule_91 rfl rfl ?_
              refine z_if_eq (tgt := 106) d_F_rule_92 (by decide) (fun _ => ?_) (fun c => absurd (by decide) c)
              refine z_aload_n (i := 0) (c := 0) 2 d_F_rule_106 rfl rfl rfl ?_
              refine z_getr (c := 0) (kI := 11) (r2 := 23) d_F_rule_107 fd_F_board fl_F_67 rfl rfl rfl (ks_F_0 hx) (kl_F_0 hx) (kr_F_0_11 hx) ?_
              refine z_iload_n (i := 2) 4 d_F_rule_110 rfl rfl ?_
              refine z_puti (c := 23) (kI := 1) d_F_rule_111 fd_Bd_odds fl_F_200 pf_Bd_odds rfl rfl rfl rfl (ks_F_23 hx) (kl_F_23 hx) ?_
              refine z_aload_n (i := 0) (c := 0) 2 d_F_rule_114 rfl rfl rfl ?_
              refine z_aload_n (i := 0) (c := 0) 2 d_F_rule_115 rfl rfl rfl ?_
              refine z_getr (c := 0) (kI := 7) (r2 := 15) d_F_rule_116 fd_F_row fl_F_43 rfl rfl rfl (ks_F_0 hx) (kl_F_0 hx) (kr_F_0_7 hx) ?_
              refine z_aload_n (i := 0) (c := 0) 2 d_F_rule_119 rfl rfl rfl ?_
              refine z_getr (c := 0) (kI := 11) (r2 := 23) d_F_rule_120 fd_F_board fl_F_67 rfl rfl rfl (ks_F_0 hx) (kl_F_0 hx) (kr_F_0_11 hx) ?_
              refine z_geti (c := 23) (kI := 0) d_F_rule_123 fd_Bd_order fl_F_197 (Or.inl rfl) rfl rfl (ks_F_23 hx) (kl_F_23 hx) ?_
              refine z_ti (b := g 23 0) (by simp [z_up]) ?_
              refine z_cV (c := 15) (as := [(0, g 23 0)]) (d' := 2) (st := [(2, 0)]) d_F_rule_126 mi_Rw_valuesOf ml_F_207 mv_Rw_valuesOf se_Rw_valuesOf rfl rfl rfl rfl (ks_F_15 hx) rfl rfl (kl_F_15 hx) rfl rfl (z_Omono h (fun r1 g1 _ h hro => ?_))
              show z_U X 3 m_F_rule 129 [(4, (0, 1)), (3, (0, 0)), (0, (2, 0)), (1, (0, a1)), (2, (0, a2))] [(0, r1), (2, 0)] N σ g1 Q
              refine z_cV (c := 0) (as := [(0, r1)]) (d' := 1) (st := []) d_F_rule_129 mi_F_give ml_F_176 mv_F_give se_F_give rfl rfl rfl rfl (ks_F_0 hx) rfl rfl (kl_F_0 hx) rfl rfl (b_F_give_0 hx ?_)
              intro _
              show z_U X 3 m_F_rule 132 [(4, (0, 1)), (3, (0, 0)), (0, (2, 0)), (1, (0, a1)), (2, (0, a2))] [(0, r1)] N σ (z_up g1 0 0 0) Q
              exact z_iret d_F_rule_132 rfl (by decide) (by decide) ⟨rfl, rfl, h⟩
            · have h := h.1 c10
              refine z_aload_n (i := 0) (c := 0) 2 d_F_rule_84 rfl rfl rfl ?_
              refine z_bipush (n := 7) d_F_rule_85 (by decide) (by decide) ?_
              refine z_cV (c := 0) (as := [(0, 7)]) (d' := 1) (st := []) d_F_rule_87 mi_F_none ml_F_121 mv_F_none se_F_none rfl rfl rfl rfl (ks_F_0 hx) rfl rfl (kl_F_0 hx) rfl rfl (b_F_none_0 hx ?_)
              intro _
              show z_U X 3 m_F_rule 90 [(4, (0, 1)), (3, (0, 0)), (0, (2, 0)), (1, (0, a1)), (2, (0, a2))] [(0, (-1))] N σ (z_up g 0 0 7) Q
              exact z_iret d_F_rule_90 rfl (by decide) (by decide) ⟨rfl, rfl, h⟩
    · have h := h.2 c6
      refine z_iload_n (i := 2) 2 d_F_rule_9 rfl rfl ?_
      refine z_sipush (n := 200) d_F_rule_10 (by decide) (by decide) ?_
      refine z_icmp_gt (tgt := 20) d_F_rule_13 (by decide) (fun c11 => ?_) (fun c11 => ?_)
      · have h := h.1 c11
        refine z_iconst (n := 0) d_F_rule_20 (by decide) ?_
        refine z_istore_n (i := 3) (ls' := [(3, (0, 0)), (0, (2, 0)), (1, (0, a1)), (2, (0, a2))]) d_F_rule_21 rfl rfl rfl ?_
        refine z_iload_n (i := 1) 2 d_F_rule_22 rfl rfl ?_
        refine z_iconst (n := 1) d_F_rule_23 (by decide) ?_
        refine z_icmp_ne (tgt := 41) d_F_rule_24 (by decide) (fun c12 => ?_) (fun c12 => ?_)
        · have h := h.2 c12
          refine z_iconst (n := 0) d_F_rule_41 (by decide) ?_
          refine z_istore (ls' := [(4, (0, 0)), (3, (0, 0)), (0, (2, 0)), (1, (0, a1)), (2, (0, a2))]) d_F_rule_42 rfl rfl ?_
          refine z_iload_n (i := 3) 1 d_F_rule_44 rfl rfl ?_
          refine z_if_ne (tgt := 59) d_F_rule_45 (by decide) (fun c => absurd (by decide) c) (fun _ => ?_)
          refine z_iload 0 d_F_rule_48 rfl ?_
          refine z_if_ne (tgt := 59) d_F_rule_50 (by decide) (fun c => absurd (by decide) c) (fun _ => ?_)
          refine z_aload_n (i := 0) (c := 0) 2 d_F_rule_53 rfl rfl rfl ?_
          refine z_iconst (n := 1) d_F_rule_54 (by decide) ?_
          refine z_cV (c := 0) (as := [(0, 1)]) (d' := 1) (st := []) d_F_rule_55 mi_F_none ml_F_121 mv_F_none se_F_none rfl rfl rfl rfl (ks_F_0 hx) rfl rfl (kl_F_0 hx) rfl rfl (b_F_none_0 hx ?_)
          intro _
          show z_U X 3 m_F_rule 58 [(4, (0, 0)), (3, (0, 0)), (0, (2, 0)), (1, (0, a1)), (2, (0, a2))] [(0, (-1))] N σ (z_up g 0 0 1) Q
          exact z_iret d_F_rule_58 rfl (by decide) (by decide) ⟨rfl, rfl, h⟩
        · have h := h.1 c12
          refine z_iload_n (i := 2) 3 d_F_rule_27 rfl rfl ?_
          refine z_if_lt (tgt := 41) d_F_rule_28 (by decide) (fun c13 => ?_) (fun c13 => ?_)
          · have h := h.1 c13
            refine z_iconst (n := 0) d_F_rule_41 (by decide) ?_
            refine z_istore (ls' := [(4, (0, 0)), (3, (0, 0)), (0, (2, 0)), (1, (0, a1)), (2, (0, a2))]) d_F_rule_42 rfl rfl ?_
            refine z_iload_n (i := 3) 1 d_F_rule_44 rfl rfl ?_
            refine z_if_ne (tgt := 59) d_F_rule_45 (by decide) (fun c => absurd (by decide) c) (fun _ => ?_)
            refine z_iload 0 d_F_rule_48 rfl ?_
            refine z_if_ne (tgt := 59) d_F_rule_50 (by decide) (fun c => absurd (by decide) c) (fun _ => ?_)
            refine z_aload_n (i := 0) (c := 0) 2 d_F_rule_53 rfl rfl rfl ?_
            refine z_iconst (n := 1) d_F_rule_54 (by decide) ?_
            refine z_cV (c := 0) (as := [(0, 1)]) (d' := 1) (st := []) d_F_rule_55 mi_F_none ml_F_121 mv_F_none se_F_none rfl rfl rfl rfl (ks_F_0 hx) rfl rfl (kl_F_0 hx) rfl rfl (b_F_none_0 hx ?_)
            intro _
            show z_U X 3 m_F_rule 58 [(4, (0, 0)), (3, (0, 0)), (0, (2, 0)), (1, (0, a1)), (2, (0, a2))] [(0, (-1))] N σ (z_up g 0 0 1) Q
            exact z_iret d_F_rule_58 rfl (by decide) (by decide) ⟨rfl, rfl, h⟩
          · have h := h.2 c13
            refine z_iload_n (i := 2) 3 d_F_rule_31 rfl rfl ?_
            refine z_bipush (n := 16) d_F_rule_32 (by decide) (by decide) ?_
            refine z_icmp_gt (tgt := 41) d_F_rule_34 (by decide) (fun c14 => ?_) (fun c14 => ?_)
            · have h := h.1 c14
              refine z_iconst (n := 0) d_F_rule_41 (by decide) ?_
              refine z_istore (ls' := [(4, (0, 0)), (3, (0, 0)), (0, (2, 0)), (1, (0, a1)), (2, (0, a2))]) d_F_rule_42 rfl rfl ?_
              refine z_iload_n (i := 3) 1 d_F_rule_44 rfl rfl ?_
              refine z_if_ne (tgt := 59) d_F_rule_45 (by decide) (fun c => absurd (by decide) c) (fun _ => ?_)
              refine z_iload 0 d_F_rule_48 rfl ?_
              refine z_if_ne (tgt := 59) d_F_rule_50 (by decide) (fun c => absurd (by decide) c) (fun _ => ?_)
              refine z_aload_n (i := 0) (c := 0) 2 d_F_rule_53 rfl rfl rfl ?_
              refine z_iconst (n := 1) d_F_rule_54 (by decide) ?_
              refine z_cV (c := 0) (as := [(0, 1)]) (d' := 1) (st := []) d_F_rule_55 mi_F_none ml_F_121 mv_F_none se_F_none rfl rfl rfl rfl (ks_F_0 hx) rfl rfl (kl_F_0 hx) rfl rfl (b_F_none_0 hx ?_)
              intro _
              show z_U X 3 m_F_rule 58 [(4, (0, 0)), (3, (0, 0)), (0, (2, 0)), (1, (0, a1)), (2, (0, a2))] [(0, (-1))] N σ (z_up g 0 0 1) Q
              exact z_iret d_F_rule_58 rfl (by decide) (by decide) ⟨rfl, rfl, h⟩
            · have h := h.2 c14
              refine z_iconst (n := 1) d_F_rule_37 (by decide) ?_
              refine z_goto (tgt := 42) d_F_rule_38 (by decide) ?_
              refine z_istore (ls' := [(4, (0, 1)), (3, (0, 0)), (0, (2, 0)), (1, (0, a1)), (2, (0, a2))]) d_F_rule_42 rfl rfl ?_
              refine z_iload_n (i := 3) 1 d_F_rule_44 rfl rfl ?_
              refine z_if_ne (tgt := 59) d_F_rule_45 (by decide) (fun c => absurd (by decide) c) (fun _ => ?_)
              refine z_iload 0 d_F_rule_48 rfl ?_
              refine z_if_ne (tgt := 59) d_F_rule_50 (by decide) (fun _ => ?_) (fun c => absurd c (by decide))
              refine z_iload_n (i := 2) 4 d_F_rule_59 rfl rfl ?_
              refine z_iload_n (i := 3) 1 d_F_rule_60 rfl rfl ?_
              refine z_if_eq (tgt := 74) d_F_rule_61 (by decide) (fun _ => ?_) (fun c => absurd (by decide) c)
              refine z_aload_n (i := 0) (c := 0) 2 d_F_rule_74 rfl rfl rfl ?_
              refine z_getr (c := 0) (kI := 11) (r2 := 23) d_F_rule_75 fd_F_board fl_F_67 rfl rfl rfl (ks_F_0 hx) (kl_F_0 hx) (kr_F_0_11 hx) ?_
              refine z_geti (c := 23) (kI := 1) d_F_rule_78 fd_Bd_odds fl_F_200 (Or.inl rfl) rfl rfl (ks_F_23 hx) (kl_F_23 hx) ?_
              refine z_icmp_ne (tgt := 91) d_F_rule_81 (by decide) (fun c15 => ?_) (fun c15 => ?_)
              · have h := h.2 c15
                refine z_iload_n (i := 3) 1 d_F_rule_91 rfl rfl ?_
                refine z_if_eq (tgt := 106) d_F_rule_92 (by decide) (fun _ => ?_) (fun c => absurd (by decide) c)
                refine z_aload_n (i := 0) (c := 0) 2 d_F_rule_106 rfl rfl rfl ?_
                refine z_getr (c := 0) (kI := 11) (r2 := 23) d_F_rule_107 fd_F_board fl_F_67 rfl rfl rfl (ks_F_0 hx) (kl_F_0 hx) (kr_F_0_11 hx) ?_
                refine z_iload_n (i := 2) 4 d_F_rule_110 rfl rfl ?_
                refine z_puti (c := 23) (kI := 1) d_F_rule_111 fd_Bd_odds fl_F_200 pf_Bd_odds rfl rfl rfl rfl (ks_F_23 hx) (kl_F_23 hx) ?_
                refine z_aload_n (i := 0) (c := 0) 2 d_F_rule_114 rfl rfl rfl ?_
                refine z_aload_n (i := 0) (c := 0) 2 d_F_rule_115 rfl rfl rfl ?_
                refine z_getr (c := 0) (kI := 7) (r2 := 15) d_F_rule_116 fd_F_row fl_F_43 rfl rfl rfl (ks_F_0 hx) (kl_F_0 hx) (kr_F_0_7 hx) ?_
                refine z_aload_n (i := 0) (c := 0) 2 d_F_rule_119 rfl rfl rfl ?_
                refine z_getr (c := 0) (kI := 11) (r2 := 23) d_F_rule_120 fd_F_board fl_F_67 rfl rfl rfl (ks_F_0 hx) (kl_F_0 hx) (kr_F_0_11 hx) ?_
                refine z_geti (c := 23) (kI := 0) d_F_rule_123 fd_Bd_order fl_F_197 (Or.inl rfl) rfl rfl (ks_F_23 hx) (kl_F_23 hx) ?_
                refine z_ti (b := g 23 0) (by simp [z_up]) ?_
                refine z_cV (c := 15) (as := [(0, g 23 0)]) (d' := 2) (st := [(2, 0)]) d_F_rule_126 mi_Rw_valuesOf ml_F_207 mv_Rw_valuesOf se_Rw_valuesOf rfl rfl rfl rfl (ks_F_15 hx) rfl rfl (kl_F_15 hx) rfl rfl (z_Omono h (fun r2 g2 _ h hro => ?_))
                show z_U X 3 m_F_rule 129 [(4, (0, 1)), (3, (0, 0)), (0, (2, 0)), (1, (0, a1)), (2, (0, a2))] [(0, r2), (2, 0)] N σ g2 Q
                refine z_cV (c := 0) (as := [(0, r2)]) (d' := 1) (st := []) d_F_rule_129 mi_F_give ml_F_176 mv_F_give se_F_give rfl rfl rfl rfl (ks_F_0 hx) rfl rfl (kl_F_0 hx) rfl rfl (b_F_give_0 hx ?_)
                intro _
                show z_U X 3 m_F_rule 132 [(4, (0, 1)), (3, (0, 0)), (0, (2, 0)), (1, (0, a1)), (2, (0, a2))] [(0, r2)] N σ (z_up g2 0 0 0) Q
                exact z_iret d_F_rule_132 rfl (by decide) (by decide) ⟨rfl, rfl, h⟩
              · have h := h.1 c15
                refine z_aload_n (i := 0) (c := 0) 2 d_F_rule_84 rfl rfl rfl ?_
                refine z_bipush (n := 7) d_F_rule_85 (by decide) (by decide) ?_
                refine z_cV (c := 0) (as := [(0, 7)]) (d' := 1) (st := []) d_F_rule_87 mi_F_none ml_F_121 mv_F_none se_F_none rfl rfl rfl rfl (ks_F_0 hx) rfl rfl (kl_F_0 hx) rfl rfl (b_F_none_0 hx ?_)
                intro _
                show z_U X 3 m_F_rule 90 [(4, (0, 1)), (3, (0, 0)), (0, (2, 0)), (1, (0, a1)), (2, (0, a2))] [(0, (-1))] N σ (z_up g 0 0 7) Q
                exact z_iret d_F_rule_90 rfl (by decide) (by decide) ⟨rfl, rfl, h⟩
      · have h := h.2 c11
        refine z_iconst (n := 1) d_F_rule_16 (by decide) ?_
        refine z_goto (tgt := 21) d_F_rule_17 (by decide) ?_
        refine z_istore_n (i := 3) (ls' := [(3, (0, 1)), (0, (2, 0)), (1, (0, a1)), (2, (0, a2))]) d_F_rule_21 rfl rfl rfl ?_
        refine z_iload_n (i := 1) 2 d_F_rule_22 rfl rfl ?_
        refine z_iconst (n := 1) d_F_rule_23 (by decide) ?_
        refine z_icmp_ne (tgt := 41) d_F_rule_24 (by decide) (fun c16 => ?_) (fun c16 => ?_)
        · have h := h.2 c16
          refine z_iconst (n := 0) d_F_rule_41 (by decide) ?_
          refine z_istore (ls' := [(4, (0, 0)), (3, (0, 1)), (0, (2, 0)), (1, (0, a1)), (2, (0, a2))]) d_F_rule_42 rfl rfl ?_
          refine z_iload_n (i := 3) 1 d_F_rule_44 rfl rfl ?_
          refine z_if_ne (tgt := 59) d_F_rule_45 (by decide) (fun _ => ?_) (fun c => absurd c (by decide))
          refine z_iload_n (i := 2) 4 d_F_rule_59 rfl rfl ?_
          refine z_iload_n (i := 3) 1 d_F_rule_60 rfl rfl ?_
          refine z_if_eq (tgt := 74) d_F_rule_61 (by decide) (fun c => absurd c (by decide)) (fun _ => ?_)
          refine z_aload_n (i := 0) (c := 0) 2 d_F_rule_64 rfl rfl rfl ?_
          refine z_getr (c := 0) (kI := 11) (r2 := 23) d_F_rule_65 fd_F_board fl_F_67 rfl rfl rfl (ks_F_0 hx) (kl_F_0 hx) (kr_F_0_11 hx) ?_
          refine z_geti (c := 23) (kI := 0) d_F_rule_68 fd_Bd_order fl_F_197 (Or.inl rfl) rfl rfl (ks_F_23 hx) (kl_F_23 hx) ?_
          refine z_goto (tgt := 81) d_F_rule_71 (by decide) ?_
          refine z_icmp_ne (tgt := 91) d_F_rule_81 (by decide) (fun c17 => ?_) (fun c17 => ?_)
          · have h := h.2 c17
            refine z_iload_n (i := 3) 1 d_F_rule_91 rfl rfl ?_
            refine z_if_eq (tgt := 106) d_F_rule_92 (by decide) (fun c => absurd c (by decide)) (fun _ => ?_)
            refine z_aload_n (i := 0) (c := 0) 2 d_F_rule_95 rfl rfl rfl ?_
            refine z_getr (c := 0) (kI := 11) (r2 := 23) d_F_rule_96 fd_F_board fl_F_67 rfl rfl rfl (ks_F_0 hx) (kl_F_0 hx) (kr_F_0_11 hx) ?_
            refine z_iload_n (i := 2) 4 d_F_rule_99 rfl rfl ?_
            refine z_puti (c := 23) (kI := 0) d_F_rule_100 fd_Bd_order fl_F_197 pf_Bd_order rfl rfl rfl rfl (ks_F_23 hx) (kl_F_23 hx) ?_
            refine z_goto (tgt := 114) d_F_rule_103 (by decide) ?_
            refine z_aload_n (i := 0) (c := 0) 2 d_F_rule_114 rfl rfl rfl ?_
            refine z_aload_n (i := 0) (c := 0) 2 d_F_rule_115 rfl rfl rfl ?_
            refine z_getr (c := 0) (kI := 7) (r2 := 15) d_F_rule_116 fd_F_row fl_F_43 rfl rfl rfl (ks_F_0 hx) (kl_F_0 hx) (kr_F_0_7 hx) ?_
            refine z_aload_n (i := 0) (c := 0) 2 d_F_rule_119 rfl rfl rfl ?_
            refine z_getr (c := 0) (kI := 11) (r2 := 23) d_F_rule_120 fd_F_board fl_F_67 rfl rfl rfl (ks_F_0 hx) (kl_F_0 hx) (kr_F_0_11 hx) ?_
            refine z_geti (c := 23) (kI := 0) d_F_rule_123 fd_Bd_order fl_F_197 (Or.inl rfl) rfl rfl (ks_F_23 hx) (kl_F_23 hx) ?_
            refine z_ti (b := a2) (by simp [z_up]) ?_
            refine z_cV (c := 15) (as := [(0, a2)]) (d' := 2) (st := [(2, 0)]) d_F_rule_126 mi_Rw_valuesOf ml_F_207 mv_Rw_valuesOf se_Rw_valuesOf rfl rfl rfl rfl (ks_F_15 hx) rfl rfl (kl_F_15 hx) rfl rfl (z_Omono h (fun r3 g3 _ h hro => ?_))
            show z_U X 3 m_F_rule 129 [(4, (0, 0)), (3, (0, 1)), (0, (2, 0)), (1, (0, a1)), (2, (0, a2))] [(0, r3), (2, 0)] N σ g3 Q
            refine z_cV (c := 0) (as := [(0, r3)]) (d' := 1) (st := []) d_F_rule_129 mi_F_give ml_F_176 mv_F_give se_F_give rfl rfl rfl rfl (ks_F_0 hx) rfl rfl (kl_F_0 hx) rfl rfl (b_F_give_0 hx ?_)
            intro _
            show z_U X 3 m_F_rule 132 [(4, (0, 0)), (3, (0, 1)), (0, (2, 0)), (1, (0, a1)), (2, (0, a2))] [(0, r3)] N σ (z_up g3 0 0 0) Q
            exact z_iret d_F_rule_132 rfl (by decide) (by decide) ⟨rfl, rfl, h⟩
          · have h := h.1 c17
            refine z_aload_n (i := 0) (c := 0) 2 d_F_rule_84 rfl rfl rfl ?_
            refine z_bipush (n := 7) d_F_rule_85 (by decide) (by decide) ?_
            refine z_cV (c := 0) (as := [(0, 7)]) (d' := 1) (st := []) d_F_rule_87 mi_F_none ml_F_121 mv_F_none se_F_none rfl rfl rfl rfl (ks_F_0 hx) rfl rfl (kl_F_0 hx) rfl rfl (b_F_none_0 hx ?_)
            intro _
            show z_U X 3 m_F_rule 90 [(4, (0, 0)), (3, (0, 1)), (0, (2, 0)), (1, (0, a1)), (2, (0, a2))] [(0, (-1))] N σ (z_up g 0 0 7) Q
            exact z_iret d_F_rule_90 rfl (by decide) (by decide) ⟨rfl, rfl, h⟩
        · have h := h.1 c16
          refine z_iload_n (i := 2) 3 d_F_rule_27 rfl rfl ?_
          refine z_if_lt (tgt := 41) d_F_rule_28 (by decide) (fun c18 => ?_) (fun c18 => ?_)
          · have h := h.1 c18
            refine z_iconst (n := 0) d_F_rule_41 (by decide) ?_
            refine z_istore (ls' := [(4, (0, 0)), (3, (0, 1)), (0, (2, 0)), (1, (0, a1)), (2, (0, a2))]) d_F_rule_42 rfl rfl ?_
            refine z_iload_n (i := 3) 1 d_F_rule_44 rfl rfl ?_
            refine z_if_ne (tgt := 59) d_F_rule_45 (by decide) (fun _ => ?_) (fun c => absurd c (by decide))
            refine z_iload_n (i := 2) 4 d_F_rule_59 rfl rfl ?_
            refine z_iload_n (i := 3) 1 d_F_rule_60 rfl rfl ?_
            refine z_if_eq (tgt := 74) d_F_rule_61 (by decide) (fun c => absurd c (by decide)) (fun _ => ?_)
            refine z_aload_n (i := 0) (c := 0) 2 d_F_rule_64 rfl rfl rfl ?_
            refine z_getr (c := 0) (kI := 11) (r2 := 23) d_F_rule_65 fd_F_board fl_F_67 rfl rfl rfl (ks_F_0 hx) (kl_F_0 hx) (kr_F_0_11 hx) ?_
            refine z_geti (c := 23) (kI := 0) d_F_rule_68 fd_Bd_order fl_F_197 (Or.inl rfl) rfl rfl (ks_F_23 hx) (kl_F_23 hx) ?_
            refine z_goto (tgt := 81) d_F_rule_71 (by decide) ?_
            refine z_icmp_ne (tgt := 91) d_F_rule_81 (by decide) (fun c19 => ?_) (fun c19 => ?_)
            · have h := h.2 c19
              refine z_iload_n (i := 3) 1 d_F_rule_91 rfl rfl ?_
              refine z_if_eq (tgt := 106) d_F_rule_92 (by decide) (fun c => absurd c (by decide)) (fun _ => ?_)
              refine z_aload_n (i := 0) (c := 0) 2 d_F_rule_95 rfl rfl rfl ?_
              refine z_getr (c := 0) (kI := 11) (r2 := 23) d_F_rule_96 fd_F_board fl_F_67 rfl rfl rfl (ks_F_0 hx) (kl_F_0 hx) (kr_F_0_11 hx) ?_
              refine z_iload_n (i := 2) 4 d_F_rule_99 rfl rfl ?_
              refine z_puti (c := 23) (kI := 0) d_F_rule_100 fd_Bd_order fl_F_197 pf_Bd_order rfl rfl rfl rfl (ks_F_23 hx) (kl_F_23 hx) ?_
              refine z_goto (tgt := 114) d_F_rule_103 (by decide) ?_
              refine z_aload_n (i := 0) (c := 0) 2 d_F_rule_114 rfl rfl rfl ?_
              refine z_aload_n (i := 0) (c := 0) 2 d_F_rule_115 rfl rfl rfl ?_
              refine z_getr (c := 0) (kI := 7) (r2 := 15) d_F_rule_116 fd_F_row fl_F_43 rfl rfl rfl (ks_F_0 hx) (kl_F_0 hx) (kr_F_0_7 hx) ?_
              refine z_aload_n (i := 0) (c := 0) 2 d_F_rule_119 rfl rfl rfl ?_
              refine z_getr (c := 0) (kI := 11) (r2 := 23) d_F_rule_120 fd_F_board fl_F_67 rfl rfl rfl (ks_F_0 hx) (kl_F_0 hx) (kr_F_0_11 hx) ?_
              refine z_geti (c := 23) (kI := 0) d_F_rule_123 fd_Bd_order fl_F_197 (Or.inl rfl) rfl rfl (ks_F_23 hx) (kl_F_23 hx) ?_
              refine z_ti (b := a2) (by simp [z_up]) ?_
              refine z_cV (c := 15) (as := [(0, a2)]) (d' := 2) (st := [(2, 0)]) d_F_rule_126 mi_Rw_valuesOf ml_F_207 mv_Rw_valuesOf se_Rw_valuesOf rfl rfl rfl rfl (ks_F_15 hx) rfl rfl (kl_F_15 hx) rfl rfl (z_Omono h (fun r4 g4 _ h hro => ?_))
              show z_U X 3 m_F_rule 129 [(4, (0, 0)), (3, (0, 1)), (0, (2, 0)), (1, (0, a1)), (2, (0, a2))] [(0, r4), (2, 0)] N σ g4 Q
              refine z_cV (c := 0) (as := [(0, r4)]) (d' := 1) (st := []) d_F_rule_129 mi_F_give ml_F_176 mv_F_give se_F_give rfl rfl rfl rfl (ks_F_0 hx) rfl rfl (kl_F_0 hx) rfl rfl (b_F_give_0 hx ?_)
              intro _
              show z_U X 3 m_F_rule 132 [(4, (0, 0)), (3, (0, 1)), (0, (2, 0)), (1, (0, a1)), (2, (0, a2))] [(0, r4)] N σ (z_up g4 0 0 0) Q
              exact z_iret d_F_rule_132 rfl (by decide) (by decide) ⟨rfl, rfl, h⟩
            · have h := h.1 c19
              refine z_aload_n (i := 0) (c := 0) 2 d_F_rule_84 rfl rfl rfl ?_
              refine z_bipush (n := 7) d_F_rule_85 (by decide) (by decide) ?_
              refine z_cV (c := 0) (as := [(0, 7)]) (d' := 1) (st := []) d_F_rule_87 mi_F_none ml_F_121 mv_F_none se_F_none rfl rfl rfl rfl (ks_F_0 hx) rfl rfl (kl_F_0 hx) rfl rfl (b_F_none_0 hx ?_)
              intro _
              show z_U X 3 m_F_rule 90 [(4, (0, 0)), (3, (0, 1)), (0, (2, 0)), (1, (0, a1)), (2, (0, a2))] [(0, (-1))] N σ (z_up g 0 0 7) Q
              exact z_iret d_F_rule_90 rfl (by decide) (by decide) ⟨rfl, rfl, h⟩
          · have h := h.2 c18
            refine z_iload_n (i := 2) 3 d_F_rule_31 rfl rfl ?_
            refine z_bipush (n := 16) d_F_rule_32 (by decide) (by decide) ?_
            refine z_icmp_gt (tgt := 41) d_F_rule_34 (by decide) (fun c20 => ?_) (fun c20 => ?_)
            · have h := h.1 c20
              refine z_iconst (n := 0) d_F_rule_41 (by decide) ?_
              refine z_istore (ls' := [(4, (0, 0)), (3, (0, 1)), (0, (2, 0)), (1, (0, a1)), (2, (0, a2))]) d_F_rule_42 rfl rfl ?_
              refine z_iload_n (i := 3) 1 d_F_rule_44 rfl rfl ?_
              refine z_if_ne (tgt := 59) d_F_rule_45 (by decide) (fun _ => ?_) (fun c => absurd c (by decide))
              refine z_iload_n (i := 2) 4 d_F_rule_59 rfl rfl ?_
              refine z_iload_n (i := 3) 1 d_F_rule_60 rfl rfl ?_
              refine z_if_eq (tgt := 74) d_F_rule_61 (by decide) (fun c => absurd c (by decide)) (fun _ => ?_)
              refine z_aload_n (i := 0) (c := 0) 2 d_F_rule_64 rfl rfl rfl ?_
              refine z_getr (c := 0) (kI := 11) (r2 := 23) d_F_rule_65 fd_F_board fl_F_67 rfl rfl rfl (ks_F_0 hx) (kl_F_0 hx) (kr_F_0_11 hx) ?_
              refine z_geti (c := 23) (kI := 0) d_F_rule_68 fd_Bd_order fl_F_197 (Or.inl rfl) rfl rfl (ks_F_23 hx) (kl_F_23 hx) ?_
              refine z_goto (tgt := 81) d_F_rule_71 (by decide) ?_
              refine z_icmp_ne (tgt := 91) d_F_rule_81 (by decide) (fun c21 => ?_) (fun c21 => ?_)
              · have h := h.2 c21
                refine z_iload_n (i := 3) 1 d_F_rule_91 rfl rfl ?_
                refine z_if_eq (tgt := 106) d_F_rule_92 (by decide) (fun c => absurd c (by decide)) (fun _ => ?_)
                refine z_aload_n (i := 0) (c := 0) 2 d_F_rule_95 rfl rfl rfl ?_
                refine z_getr (c := 0) (kI := 11) (r2 := 23) d_F_rule_96 fd_F_board fl_F_67 rfl rfl rfl (ks_F_0 hx) (kl_F_0 hx) (kr_F_0_11 hx) ?_
                refine z_iload_n (i := 2) 4 d_F_rule_99 rfl rfl ?_
                refine z_puti (c := 23) (kI := 0) d_F_rule_100 fd_Bd_order fl_F_197 pf_Bd_order rfl rfl rfl rfl (ks_F_23 hx) (kl_F_23 hx) ?_
                refine z_goto (tgt := 114) d_F_rule_103 (by decide) ?_
                refine z_aload_n (i := 0) (c := 0) 2 d_F_rule_114 rfl rfl rfl ?_
                refine z_aload_n (i := 0) (c := 0) 2 d_F_rule_115 rfl rfl rfl ?_
                refine z_getr (c := 0) (kI := 7) (r2 := 15) d_F_rule_116 fd_F_row fl_F_43 rfl rfl rfl (ks_F_0 hx) (kl_F_0 hx) (kr_F_0_7 hx) ?_
                refine z_aload_n (i := 0) (c := 0) 2 d_F_rule_119 rfl rfl rfl ?_
                refine z_getr (c := 0) (kI := 11) (r2 := 23) d_F_rule_120 fd_F_board fl_F_67 rfl rfl rfl (ks_F_0 hx) (kl_F_0 hx) (kr_F_0_11 hx) ?_
                refine z_geti (c := 23) (kI := 0) d_F_rule_123 fd_Bd_order fl_F_197 (Or.inl rfl) rfl rfl (ks_F_23 hx) (kl_F_23 hx) ?_
                refine z_ti (b := a2) (by simp [z_up]) ?_
                refine z_cV (c := 15) (as := [(0, a2)]) (d' := 2) (st := [(2, 0)]) d_F_rule_126 mi_Rw_valuesOf ml_F_207 mv_Rw_valuesOf se_Rw_valuesOf rfl rfl rfl rfl (ks_F_15 hx) rfl rfl (kl_F_15 hx) rfl rfl (z_Omono h (fun r5 g5 _ h hro => ?_))
                show z_U X 3 m_F_rule 129 [(4, (0, 0)), (3, (0, 1)), (0, (2, 0)), (1, (0, a1)), (2, (0, a2))] [(0, r5), (2, 0)] N σ g5 Q
                refine z_cV (c := 0) (as := [(0, r5)]) (d' := 1) (st := []) d_F_rule_129 mi_F_give ml_F_176 mv_F_give se_F_give rfl rfl rfl rfl (ks_F_0 hx) rfl rfl (kl_F_0 hx) rfl rfl (b_F_give_0 hx ?_)
                intro _
                show z_U X 3 m_F_rule 132 [(4, (0, 0)), (3, (0, 1)), (0, (2, 0)), (1, (0, a1)), (2, (0, a2))] [(0, r5)] N σ (z_up g5 0 0 0) Q
                exact z_iret d_F_rule_132 rfl (by decide) (by decide) ⟨rfl, rfl, h⟩
              · have h := h.1 c21
                refine z_aload_n (i := 0) (c := 0) 2 d_F_rule_84 rfl rfl rfl ?_
                refine z_bipush (n := 7) d_F_rule_85 (by decide) (by decide) ?_
                refine z_cV (c := 0) (as := [(0, 7)]) (d' := 1) (st := []) d_F_rule_87 mi_F_none ml_F_121 mv_F_none se_F_none rfl rfl rfl rfl (ks_F_0 hx) rfl rfl (kl_F_0 hx) rfl rfl (b_F_none_0 hx ?_)
                intro _
                show z_U X 3 m_F_rule 90 [(4, (0, 0)), (3, (0, 1)), (0, (2, 0)), (1, (0, a1)), (2, (0, a2))] [(0, (-1))] N σ (z_up g 0 0 7) Q
                exact z_iret d_F_rule_90 rfl (by decide) (by decide) ⟨rfl, rfl, h⟩
            · have h := h.2 c20
              refine z_iconst (n := 1) d_F_rule_37 (by decide) ?_
              refine z_goto (tgt := 42) d_F_rule_38 (by decide) ?_
              refine z_istore (ls' := [(4, (0, 1)), (3, (0, 1)), (0, (2, 0)), (1, (0, a1)), (2, (0, a2))]) d_F_rule_42 rfl rfl ?_
              refine z_iload_n (i := 3) 1 d_F_rule_44 rfl rfl ?_
              refine z_if_ne (tgt := 59) d_F_rule_45 (by decide) (fun _ => ?_) (fun c => absurd c (by decide))
              refine z_iload_n (i := 2) 4 d_F_rule_59 rfl rfl ?_
              refine z_iload_n (i := 3) 1 d_F_rule_60 rfl rfl ?_
              refine z_if_eq (tgt := 74) d_F_rule_61 (by decide) (fun c => absurd c (by decide)) (fun _ => ?_)
              refine z_aload_n (i := 0) (c := 0) 2 d_F_rule_64 rfl rfl rfl ?_
              refine z_getr (c := 0) (kI := 11) (r2 := 23) d_F_rule_65 fd_F_board fl_F_67 rfl rfl rfl (ks_F_0 hx) (kl_F_0 hx) (kr_F_0_11 hx) ?_
              refine z_geti (c := 23) (kI := 0) d_F_rule_68 fd_Bd_order fl_F_197 (Or.inl rfl) rfl rfl (ks_F_23 hx) (kl_F_23 hx) ?_
              refine z_goto (tgt := 81) d_F_rule_71 (by decide) ?_
              refine z_icmp_ne (tgt := 91) d_F_rule_81 (by decide) (fun c22 => ?_) (fun c22 => ?_)
              · have h := h.2 c22
                refine z_iload_n (i := 3) 1 d_F_rule_91 rfl rfl ?_
                refine z_if_eq (tgt := 106) d_F_rule_92 (by decide) (fun c => absurd c (by decide)) (fun _ => ?_)
                refine z_aload_n (i := 0) (c := 0) 2 d_F_rule_95 rfl rfl rfl ?_
                refine z_getr (c := 0) (kI := 11) (r2 := 23) d_F_rule_96 fd_F_board fl_F_67 rfl rfl rfl (ks_F_0 hx) (kl_F_0 hx) (kr_F_0_11 hx) ?_
                refine z_iload_n (i := 2) 4 d_F_rule_99 rfl rfl ?_
                refine z_puti (c := 23) (kI := 0) d_F_rule_100 fd_Bd_order fl_F_197 pf_Bd_order rfl rfl rfl rfl (ks_F_23 hx) (kl_F_23 hx) ?_
                refine z_goto (tgt := 114) d_F_rule_103 (by decide) ?_
                refine z_aload_n (i := 0) (c := 0) 2 d_F_rule_114 rfl rfl rfl ?_
                refine z_aload_n (i := 0) (c := 0) 2 d_F_rule_115 rfl rfl rfl ?_
                refine z_getr (c := 0) (kI := 7) (r2 := 15) d_F_rule_116 fd_F_row fl_F_43 rfl rfl rfl (ks_F_0 hx) (kl_F_0 hx) (kr_F_0_7 hx) ?_
                refine z_aload_n (i := 0) (c := 0) 2 d_F_rule_119 rfl rfl rfl ?_
                refine z_getr (c := 0) (kI := 11) (r2 := 23) d_F_rule_120 fd_F_board fl_F_67 rfl rfl rfl (ks_F_0 hx) (kl_F_0 hx) (kr_F_0_11 hx) ?_
                refine z_geti (c := 23) (kI := 0) d_F_rule_123 fd_Bd_order fl_F_197 (Or.inl rfl) rfl rfl (ks_F_23 hx) (kl_F_23 hx) ?_
                refine z_ti (b := a2) (by simp [z_up]) ?_
                refine z_cV (c := 15) (as := [(0, a2)]) (d' := 2) (st := [(2, 0)]) d_F_rule_126 mi_Rw_valuesOf ml_F_207 mv_Rw_valuesOf se_Rw_valuesOf rfl rfl rfl rfl (ks_F_15 hx) rfl rfl (kl_F_15 hx) rfl rfl (z_Omono h (fun r6 g6 _ h hro => ?_))
                show z_U X 3 m_F_rule 129 [(4, (0, 1)), (3, (0, 1)), (0, (2, 0)), (1, (0, a1)), (2, (0, a2))] [(0, r6), (2, 0)] N σ g6 Q
                refine z_cV (c := 0) (as := [(0, r6)]) (d' := 1) (st := []) d_F_rule_129 mi_F_give ml_F_176 mv_F_give se_F_give rfl rfl rfl rfl (ks_F_0 hx) rfl rfl (kl_F_0 hx) rfl rfl (b_F_give_0 hx ?_)
                intro _
                show z_U X 3 m_F_rule 132 [(4, (0, 1)), (3, (0, 1)), (0, (2, 0)), (1, (0, a1)), (2, (0, a2))] [(0, r6)] N σ (z_up g6 0 0 0) Q
                exact z_iret d_F_rule_132 rfl (by decide) (by decide) ⟨rfl, rfl, h⟩
              · have h := h.1 c22
                refine z_aload_n (i := 0) (c := 0) 2 d_F_rule_84 rfl rfl rfl ?_
                refine z_bipush (n := 7) d_F_rule_85 (by decide) (by decide) ?_
                refine z_cV (c := 0) (as := [(0, 7)]) (d' := 1) (st := []) d_F_rule_87 mi_F_none ml_F_121 mv_F_none se_F_none rfl rfl rfl rfl (ks_F_0 hx) rfl rfl (kl_F_0 hx) rfl rfl (b_F_none_0 hx ?_)
                intro _
                show z_U X 3 m_F_rule 90 [(4, (0, 1)), (3, (0, 1)), (0, (2, 0)), (1, (0, a1)), (2, (0, a2))] [(0, (-1))] N σ (z_up g 0 0 7) Q
                exact z_iret d_F_rule_90 rfl (by decide) (by decide) ⟨rfl, rfl, h⟩
theorem d_F_size_0 : decode (z_c m_F_size) 0 = .ok (.iload_n 1, 1) := by decide +kernel
theorem d_F_size_1 : decode (z_c m_F_size) 1 = .ok (.iconst 1, 1) := by decide +kernel
theorem d_F_size_2 : decode (z_c m_F_size) 2 = .ok (.if_icmp .lt 10, 3) := by decide +kernel
theorem d_F_size_5 : decode (z_c m_F_size) 5 = .ok (.iload_n 1, 1) := by decide +kernel
theorem d_F_size_6 : decode (z_c m_F_size) 6 = .ok (.sipush 200, 3) := by decide +kernel
theorem d_F_size_9 : decode (z_c m_F_size) 9 = .ok (.if_icmp .le 9, 3) := by decide +kernel
theorem d_F_size_12 : decode (z_c m_F_size) 12 = .ok (.aload_n 0, 1) := by decide +kernel
theorem d_F_size_13 : decode (z_c m_F_size) 13 = .ok (.iconst 1, 1) := by decide +kernel
theorem d_F_size_14 : decode (z_c m_F_size) 14 = .ok (.invokevirtual 121, 3) := by decide +kernel
theorem d_F_size_17 : decode (z_c m_F_size) 17 = .ok (.ireturn, 1) := by decide +kernel
theorem d_F_size_18 : decode (z_c m_F_size) 18 = .ok (.aload_n 0, 1) := by decide +kernel
theorem d_F_size_19 : decode (z_c m_F_size) 19 = .ok (.aload_n 0, 1) := by decide +kernel
theorem d_F_size_20 : decode (z_c m_F_size) 20 = .ok (.getfield 43, 3) := by decide +kernel
theorem d_F_size_23 : decode (z_c m_F_size) 23 = .ok (.iload_n 1, 1) := by decide +kernel
theorem d_F_size_24 : decode (z_c m_F_size) 24 = .ok (.invokevirtual 207, 3) := by decide +kernel
theorem d_F_size_27 : decode (z_c m_F_size) 27 = .ok (.invokevirtual 176, 3) := by decide +kernel
theorem d_F_size_30 : decode (z_c m_F_size) 30 = .ok (.ireturn, 1) := by decide +kernel
set_option maxRecDepth 8000 in
theorem b_F_size_0 {X : z_X} {N : Nat} {σ g : z_G} {Q : z_P} {a1 : Int} (hx : z_lay X N σ 0 z_SF z_RF) (h : ((a1 < 1) → Q (-1) (z_up g 0 0 1)) ∧ (¬ (a1 < 1) → (((a1 ≤ 200) → (z_O X 2 m_Rw_valuesOf [(2, 15), (0, a1)] N σ g (fun r0 g0 => Q r0 (z_up g0 0 0 0)))) ∧ (¬ (a1 ≤ 200) → Q (-1) (z_up g 0 0 1))))) : z_O X 3 m_F_size [(2, 0), (0, a1)] N σ g Q := by
  refine z_Oenter mi_F_size rfl (fun _ => ?_)
  show z_U X 3 m_F_size 0 [(0, (2, 0)), (1, (0, a1))] [] N σ g Q
  refine z_iload_n (i := 1) 1 d_F_size_0 rfl rfl ?_
  refine z_iconst (n := 1) d_F_size_1 (by decide) ?_
  refine z_icmp_lt (tgt := 12) d_F_size_2 (by decide) (fun c1 => ?_) (fun c1 => ?_)
  · have h := h.1 c1
    refine z_aload_n (i := 0) (c := 0) 0 d_F_size_12 rfl rfl rfl ?_
    refine z_iconst (n := 1) d_F_size_13 (by decide) ?_
    refine z_cV (c := 0) (as := [(0, 1)]) (d' := 1) (st := []) d_F_size_14 mi_F_none ml_F_121 mv_F_none se_F_none rfl rfl rfl rfl (ks_F_0 hx) rfl rfl (kl_F_0 hx) rfl rfl (b_F_none_0 hx ?_)
    intro _
    show z_U X 3 m_F_size 17 [(0, (2, 0)), (1, (0, a1))] [(0, (-1))] N σ (z_up g 0 0 1) Q
    exact z_iret d_F_size_17 rfl (by decide) (by decide) ⟨rfl, rfl, h⟩
  · have h := h.2 c1
    refine z_iload_n (i := 1) 1 d_F_size_5 rfl rfl ?_
    refine z_sipush (n := 200) d_F_size_6 (by decide) (by decide) ?_
    refine z_icmp_le (tgt := 18) d_F_size_9 (by decide) (fun c2 => ?_) (fun c2 => ?_)
    · have h := h.1 c2
      refine z_aload_n (i := 0) (c := 0) 0 d_F_size_18 rfl rfl rfl ?_
      refine z_aload_n (i := 0) (c := 0) 0 d_F_size_19 rfl rfl rfl ?_
      refine z_getr (c := 0) (kI := 7) (r2 := 15) d_F_size_20 fd_F_row fl_F_43 rfl rfl rfl (ks_F_0 hx) (kl_F_0 hx) (kr_F_0_7 hx) ?_
      refine z_iload_n (i := 1) 1 d_F_size_23 rfl rfl ?_
      refine z_cV (c := 15) (as := [(0, a1)]) (d' := 2) (st := [(2, 0)]) d_F_size_24 mi_Rw_valuesOf ml_F_207 mv_Rw_valuesOf se_Rw_valuesOf rfl rfl rfl rfl (ks_F_15 hx) rfl rfl (kl_F_15 hx) rfl rfl (z_Omono h (fun r0 g0 _ h hro => ?_))
      show z_U X 3 m_F_size 27 [(0, (2, 0)), (1, (0, a1))] [(0, r0), (2, 0)] N σ g0 Q
      refine z_cV (c := 0) (as := [(0, r0)]) (d' := 1) (st := []) d_F_size_27 mi_F_give ml_F_176 mv_F_give se_F_give rfl rfl rfl rfl (ks_F_0 hx) rfl rfl (kl_F_0 hx) rfl rfl (b_F_give_0 hx ?_)
      intro _
      show z_U X 3 m_F_size 30 [(0, (2, 0)), (1, (0, a1))] [(0, r0)] N σ (z_up g0 0 0 0) Q
      exact z_iret d_F_size_30 rfl (by decide) (by decide) ⟨rfl, rfl, h⟩
    · have h := h.2 c2
      refine z_aload_n (i := 0) (c := 0) 0 d_F_size_12 rfl rfl rfl ?_
      refine z_iconst (n := 1) d_F_size_13 (by decide) ?_
      refine z_cV (c := 0) (as := [(0, 1)]) (d' := 1) (st := []) d_F_size_14 mi_F_none ml_F_121 mv_F_none se_F_none rfl rfl rfl rfl (ks_F_0 hx) rfl rfl (kl_F_0 hx) rfl rfl (b_F_none_0 hx ?_)
      intro _
      show z_U X 3 m_F_size 17 [(0, (2, 0)), (1, (0, a1))] [(0, (-1))] N σ (z_up g 0 0 1) Q
      exact z_iret d_F_size_17 rfl (by decide) (by decide) ⟨rfl, rfl, h⟩
theorem d_F_takeRising_0 : decode (z_c m_F_takeRising) 0 = .ok (.iload_n 1, 1) := by decide +kernel
theorem d_F_takeRising_1 : decode (z_c m_F_takeRising) 1 = .ok (.iload_n 2, 1) := by decide +kernel
theorem d_F_takeRising_2 : decode (z_c m_F_takeRising) 2 = .ok (.invokestatic 288, 3) := by decide +kernel
theorem d_F_takeRising_5 : decode (z_c m_F_takeRising) 5 = .ok (.ifCond .eq 12, 3) := by decide +kernel
theorem d_F_takeRising_8 : decode (z_c m_F_takeRising) 8 = .ok (.iload_n 3, 1) := by decide +kernel
theorem d_F_takeRising_9 : decode (z_c m_F_takeRising) 9 = .ok (.iload 4, 2) := by decide +kernel
theorem d_F_takeRising_11 : decode (z_c m_F_takeRising) 11 = .ok (.invokestatic 288, 3) := by decide +kernel
theorem d_F_takeRising_14 : decode (z_c m_F_takeRising) 14 = .ok (.ifCond .ne 5, 3) := by decide +kernel
theorem d_F_takeRising_17 : decode (z_c m_F_takeRising) 17 = .ok (.iconst 0, 1) := by decide +kernel
theorem d_F_takeRising_18 : decode (z_c m_F_takeRising) 18 = .ok (.ireturn, 1) := by decide +kernel
theorem d_F_takeRising_19 : decode (z_c m_F_takeRising) 19 = .ok (.iload_n 1, 1) := by decide +kernel
theorem d_F_takeRising_20 : decode (z_c m_F_takeRising) 20 = .ok (.iload_n 2, 1) := by decide +kernel
theorem d_F_takeRising_21 : decode (z_c m_F_takeRising) 21 = .ok (.iload_n 3, 1) := by decide +kernel
theorem d_F_takeRising_22 : decode (z_c m_F_takeRising) 22 = .ok (.iload 4, 2) := by decide +kernel
theorem d_F_takeRising_24 : decode (z_c m_F_takeRising) 24 = .ok (.invokestatic 263, 3) := by decide +kernel
theorem d_F_takeRising_27 : decode (z_c m_F_takeRising) 27 = .ok (.lconst 0, 1) := by decide +kernel
theorem d_F_takeRising_28 : decode (z_c m_F_takeRising) 28 = .ok (.lcmp, 1) := by decide +kernel
theorem d_F_takeRising_29 : decode (z_c m_F_takeRising) 29 = .ok (.ifCond .gt 7, 3) := by decide +kernel
theorem d_F_takeRising_32 : decode (z_c m_F_takeRising) 32 = .ok (.iconst 1, 1) := by decide +kernel
theorem d_F_takeRising_33 : decode (z_c m_F_takeRising) 33 = .ok (.goto 4, 3) := by decide +kernel
theorem d_F_takeRising_36 : decode (z_c m_F_takeRising) 36 = .ok (.iconst 0, 1) := by decide +kernel
theorem d_F_takeRising_37 : decode (z_c m_F_takeRising) 37 = .ok (.istore 5, 2) := by decide +kernel
theorem d_F_takeRising_39 : decode (z_c m_F_takeRising) 39 = .ok (.aload_n 0, 1) := by decide +kernel
theorem d_F_takeRising_40 : decode (z_c m_F_takeRising) 40 = .ok (.getfield 50, 3) := by decide +kernel
theorem d_F_takeRising_43 : decode (z_c m_F_takeRising) 43 = .ok (.iload 5, 2) := by decide +kernel
theorem d_F_takeRising_45 : decode (z_c m_F_takeRising) 45 = .ok (.ifCond .eq 7, 3) := by decide +kernel
theorem d_F_takeRising_48 : decode (z_c m_F_takeRising) 48 = .ok (.iload_n 1, 1) := by decide +kernel
theorem d_F_takeRising_49 : decode (z_c m_F_takeRising) 49 = .ok (.goto 4, 3) := by decide +kernel
theorem d_F_takeRising_52 : decode (z_c m_F_takeRising) 52 = .ok (.iload_n 3, 1) := by decide +kernel
theorem d_F_takeRising_53 : decode (z_c m_F_takeRising) 53 = .ok (.iload 5, 2) := by decide +kernel
theorem d_F_takeRising_55 : decode (z_c m_F_takeRising) 55 = .ok (.ifCond .eq 7, 3) := by decide +kernel
theorem d_F_takeRising_58 : decode (z_c m_F_takeRising) 58 = .ok (.iload_n 2, 1) := by decide +kernel
theorem d_F_takeRising_59 : decode (z_c m_F_takeRising) 59 = .ok (.goto 5, 3) := by decide +kernel
theorem d_F_takeRising_62 : decode (z_c m_F_takeRising) 62 = .ok (.iload 4, 2) := by decide +kernel
theorem d_F_takeRising_64 : decode (z_c m_F_takeRising) 64 = .ok (.invokevirtual 291, 3) := by decide +kernel
theorem d_F_takeRising_67 : decode (z_c m_F_takeRising) 67 = .ok (.aload_n 0, 1) := by decide +kernel
theorem d_F_takeRising_68 : decode (z_c m_F_takeRising) 68 = .ok (.getfield 54, 3) := by decide +kernel
theorem d_F_takeRising_71 : decode (z_c m_F_takeRising) 71 = .ok (.iload 5, 2) := by decide +kernel
theorem d_F_takeRising_73 : decode (z_c m_F_takeRising) 73 = .ok (.ifCond .eq 7, 3) := by decide +kernel
theorem d_F_takeRising_76 : decode (z_c m_F_takeRising) 76 = .ok (.iload_n 3, 1) := by decide +kernel
theorem d_F_takeRising_77 : decode (z_c m_F_takeRising) 77 = .ok (.goto 4, 3) := by decide +kernel
theorem d_F_takeRising_80 : decode (z_c m_F_takeRising) 80 = .ok (.iload_n 1, 1) := by decide +kernel
theorem d_F_takeRising_81 : decode (z_c m_F_takeRising) 81 = .ok (.iload 5, 2) := by decide +kernel
theorem d_F_takeRising_83 : decode (z_c m_F_takeRising) 83 = .ok (.ifCond .eq 8, 3) := by decide +kernel
theorem d_F_takeRising_86 : decode (z_c m_F_takeRising) 86 = .ok (.iload 4, 2) := by decide +kernel
theorem d_F_takeRising_88 : decode (z_c m_F_takeRising) 88 = .ok (.goto 4, 3) := by decide +kernel
theorem d_F_takeRising_91 : decode (z_c m_F_takeRising) 91 = .ok (.iload_n 2, 1) := by decide +kernel
theorem d_F_takeRising_92 : decode (z_c m_F_takeRising) 92 = .ok (.invokevirtual 291, 3) := by decide +kernel
theorem d_F_takeRising_95 : decode (z_c m_F_takeRising) 95 = .ok (.iconst 1, 1) := by decide +kernel
theorem d_F_takeRising_96 : decode (z_c m_F_takeRising) 96 = .ok (.ireturn, 1) := by decide +kernel
set_option maxRecDepth 8000 in
theorem b_F_takeRising_0 {X : z_X} {N : Nat} {σ g : z_G} {Q : z_P} {a1 a2 a3 a4 : Int} (hx : z_lay X N σ 0 z_SF z_RF) (h : ((a2 < 1) → Q 0 g) ∧ (¬ (a2 < 1) → (((9999 < a2) → Q 0 g) ∧ (¬ (9999 < a2) → (((a1 < 0) → Q 0 g) ∧ (¬ (a1 < 0) → (((a2 < a1) → Q 0 g) ∧ (¬ (a2 < a1) → (((a4 < 1) → Q 0 g) ∧ (¬ (a4 < 1) → (((9999 < a4) → Q 0 g) ∧ (¬ (9999 < a4) → (((a3 < 0) → Q 0 g) ∧ (¬ (a3 < 0) → (((a4 < a3) → Q 0 g) ∧ (¬ (a4 < a3) → ((-9223372036854775808 ≤ (a1 * a4) ∧ (a1 * a4) ≤ 9223372036854775807) ∧ ((-9223372036854775808 ≤ (a3 * a2) ∧ (a3 * a2) ≤ 9223372036854775807) ∧ ((-9223372036854775808 ≤ ((a1 * a4) - (a3 * a2)) ∧ ((a1 * a4) - (a3 * a2)) ≤ 9223372036854775807) ∧ (((0 < ((a1 * a4) - (a3 * a2))) → (z_O X 2 m_Ch_unfold [(2, 18), (0, a3), (0, a4)] N σ g (fun r0 g0 => (z_O X 2 m_Ch_unfold [(2, 20), (0, a1), (0, a2)] N σ g0 (fun r1 g1 => Q 1 g1))))) ∧ (¬ (0 < ((a1 * a4) - (a3 * a2))) → (z_O X 2 m_Ch_unfold [(2, 18), (0, a1), (0, a2)] N σ g (fun r2 g2 => (z_O X 2 m_Ch_unfold [(2, 20), (0, a3), (0, a4)] N σ g2 (fun r3 g3 => Q 1 g3))))))))))))))))))))))))) : z_O X 3 m_F_takeRising [(2, 0), (0, a1), (0, a2), (0, a3), (0, a4)] N σ g Q := by
  refine z_Oenter mi_F_takeRising rfl (fun _ => ?_)
  show z_U X 3 m_F_takeRising 0 [(0, (2, 0)), (1, (0, a1)), (2, (0, a2)), (3, (0, a3)), (4, (0, a4))] [] N σ g Q
  refine z_iload_n (i := 1) 1 d_F_takeRising_0 rfl rfl ?_
  refine z_iload_n (i := 2) 2 d_F_takeRising_1 rfl rfl ?_
  refine z_cS (as := [(0, a1), (0, a2)]) (d' := 1) (st := []) d_F_takeRising_2 mi_F_isValue ml_F_288 ms_F_isValue rfl rfl rfl rfl rfl (b_F_isValue_0  ?_)
  refine ⟨fun c1 => ?_, fun c1 => ?_⟩
  · have h := h.1 c1
    intro _
    show z_U X 3 m_F_takeRising 5 [(0, (2, 0)), (1, (0, a1)), (2, (0, a2)), (3, (0, a3)), (4, (0, a4))] [(0, 0)] N σ g Q
    refine z_if_eq (tgt := 17) d_F_takeRising_5 (by decide) (fun _ => ?_) (fun c => absurd (by decide) c)
    refine z_iconst (n := 0) d_F_takeRising_17 (by decide) ?_
    exact z_zret d_F_takeRising_18 rfl (by decide) (by decide) (by decide) ⟨rfl, rfl, h⟩
  · have h := h.2 c1
    refine ⟨fun c2 => ?_, fun c2 => ?_⟩
    · have h := h.1 c2
      intro _
      show z_U X 3 m_F_takeRising 5 [(0, (2, 0)), (1, (0, a1)), (2, (0, a2)), (3, (0, a3)), (4, (0, a4))] [(0, 0)] N σ g Q
      refine z_if_eq (tgt := 17) d_F_takeRising_5 (by decide) (fun _ => ?_) (fun c => absurd (by decide) c)
      refine z_iconst (n := 0) d_F_takeRising_17 (by decide) ?_
      exact z_zret d_F_takeRising_18 rfl (by decide) (by decide) (by decide) ⟨rfl, rfl, h⟩
    · have h := h.2 c2
      refine ⟨fun c3 => ?_, fun c3 => ?_⟩
      · have h := h.1 c3
        intro _
        show z_U X 3 m_F_takeRising 5 [(0, (2, 0)), (1, (0, a1)), (2, (0, a2)), (3, (0, a3)), (4, (0, a4))] [(0, 0)] N σ g Q
        refine z_if_eq (tgt := 17) d_F_takeRising_5 (by decide) (fun _ => ?_) (fun c => absurd (by decide) c)
        refine z_iconst (n := 0) d_F_takeRising_17 (by decide) ?_
        exact z_zret d_F_takeRising_18 rfl (by decide) (by decide) (by decide) ⟨rfl, rfl, h⟩
      · have h := h.2 c3
        refine ⟨fun c4 => ?_, fun c4 => ?_⟩
        · have h := h.1 c4
          intro _
          show z_U X 3 m_F_takeRising 5 [(0, (2, 0)), (1, (0, a1)), (2, (0, a2)), (3, (0, a3)), (4, (0, a4))] [(0, 0)] N σ g Q
          refine z_if_eq (tgt := 17) d_F_takeRising_5 (by decide) (fun _ => ?_) (fun c => absurd (by decide) c)
          refine z_iconst (n := 0) d_F_takeRising_17 (by decide) ?_
          exact z_zret d_F_takeRising_18 rfl (by decide) (by decide) (by decide) ⟨rfl, rfl, h⟩
        · have h := h.2 c4
          intro _
          show z_U X 3 m_F_takeRising 5 [(0, (2, 0)), (1, (0, a1)), (2, (0, a2)), (3, (0, a3)), (4, (0, a4))] [(0, 1)] N σ g Q
          refine z_if_eq (tgt := 17) d_F_takeRising_5 (by decide) (fun c => absurd c (by decide)) (fun _ => ?_)
          refine z_iload_n (i := 3) 3 d_F_takeRising_8 rfl rfl ?_
          refine z_iload 4 d_F_takeRising_9 rfl ?_
          refine z_cS (as := [(0, a3), (0, a4)]) (d' := 1) (st := []) d_F_takeRising_11 mi_F_isValue ml_F_288 ms_F_isValue rfl rfl rfl rfl rfl (b_F_isValue_0  ?_)
          refine ⟨fun c5 => ?_, fun c5 => ?_⟩
          · have h := h.1 c5
            intro _
            show z_U X 3 m_F_takeRising 14 [(0, (2, 0)), (1, (0, a1)), (2, (0, a2)), (3, (0, a3)), (4, (0, a4))] [(0, 0)] N σ g Q
            refine z_if_ne (tgt := 19) d_F_takeRising_14 (by decide) (fun c => absurd (by decide) c) (fun _ => ?_)
            refine z_iconst (n := 0) d_F_takeRising_17 (by decide) ?_
            exact z_zret d_F_takeRising_18 rfl (by decide) (by decide) (by decide) ⟨rfl, rfl, h⟩
          · have h := h.2 c5
            refine ⟨fun c6 => ?_, fun c6 => ?_⟩
            · have h := h.1 c6
              intro _
              show z_U X 3 m_F_takeRising 14 [(0, (2, 0)), (1, (0, a1)), (2, (0, a2)), (3, (0, a3)), (4, (0, a4))] [(0, 0)] N σ g Q
              refine z_if_ne (tgt := 19) d_F_takeRising_14 (by decide) (fun c => absurd (by decide) c) (fun _ => ?_)
              refine z_iconst (n := 0) d_F_takeRising_17 (by decide) ?_
              exact z_zret d_F_takeRising_18 rfl (by decide) (by decide) (by decide) ⟨rfl, rfl, h⟩
            · have h := h.2 c6
              refine ⟨fun c7 => ?_, fun c7 => ?_⟩
              · have h := h.1 c7
                intro _
                show z_U X 3 m_F_takeRising 14 [(0, (2, 0)), (1, (0, a1)), (2, (0, a2)), (3, (0, a3)), (4, (0, a4))] [(0, 0)] N σ g Q
                refine z_if_ne (tgt := 19) d_F_takeRising_14 (by decide) (fun c => absurd (by decide) c) (fun _ => ?_)
                refine z_iconst (n := 0) d_F_takeRising_17 (by decide) ?_
                exact z_zret d_F_takeRising_18 rfl (by decide) (by decide) (by decide) ⟨rfl, rfl, h⟩
              · have h := h.2 c7
                refine ⟨fun c8 => ?_, fun c8 => ?_⟩
                · have h := h.1 c8
                  intro _
                  show z_U X 3 m_F_takeRising 14 [(0, (2, 0)), (1, (0, a1)), (2, (0, a2)), (3, (0, a3)), (4, (0, a4))] [(0, 0)] N σ g Q
                  refine z_if_ne (tgt := 19) d_F_takeRising_14 (by decide) (fun c => absurd (by decide) c) (fun _ => ?_)
                  refine z_iconst (n := 0) d_F_takeRising_17 (by decide) ?_
                  exact z_zret d_F_takeRising_18 rfl (by decide) (by decide) (by decide) ⟨rfl, rfl, h⟩
                · have h := h.2 c8
                  intro _
                  show z_U X 3 m_F_takeRising 14 [(0, (2, 0)), (1, (0, a1)), (2, (0, a2)), (3, (0, a3)), (4, (0, a4))] [(0, 1)] N σ g Q
                  refine z_if_ne (tgt := 19) d_F_takeRising_14 (by decide) (fun _ => ?_) (fun c => absurd c (by decide))
                  refine z_iload_n (i := 1) 1 d_F_takeRising_19 rfl rfl ?_
                  refine z_iload_n (i := 2) 2 d_F_takeRising_20 rfl rfl ?_
                  refine z_iload_n (i := 3) 3 d_F_takeRising_21 rfl rfl ?_
                  refine z_iload 4 d_F_takeRising_22 rfl ?_
                  refine z_cS (as := [(0, a1), (0, a2), (0, a3), (0, a4)]) (d' := 1) (st := []) d_F_takeRising_24 mi_F_cross ml_F_263 ms_F_cross rfl rfl rfl rfl rfl (b_F_cross_0  ?_)
                  obtain ⟨c9, h⟩ := h
                  refine ⟨c9, ?_⟩
                  obtain ⟨c10, h⟩ := h
                  refine ⟨c10, ?_⟩
                  obtain ⟨c11, h⟩ := h
                  refine ⟨c11, ?_⟩
                  intro _
                  show z_U X 3 m_F_takeRising 27 [(0, (2, 0)), (1, (0, a1)), (2, (0, a2)), (3, (0, a3)), (4, (0, a4))] [(1, (a1 * a4) - (a3 * a2))] N σ g Q
                  refine z_lconst (v := 0) d_F_takeRising_27 (by decide) (by decide) ?_
                  refine z_lcmp_gt (tgt := 36) d_F_takeRising_28 d_F_takeRising_29 (by decide) (fun c12 => ?_) (fun c12 => ?_)
                  · have h := h.1 c12
                    refine z_iconst (n := 0) d_F_takeRising_36 (by decide) ?_
                    refine z_istore (ls' := [(5, (0, 0)), (0, (2, 0)), (1, (0, a1)), (2, (0, a2)), (3, (0, a3)), (4, (0, a4))]) d_F_takeRising_37 rfl rfl ?_
                    refine z_aload_n (i := 0) (c := 0) 1 d_F_takeRising_39 rfl rfl rfl ?_
                    refine z_getr (c := 0) (kI := 8) (r2 := 18) d_F_takeRising_40 fd_F_chain fl_F_50 rfl rfl rfl (ks_F_0 hx) (kl_F_0 hx) (kr_F_0_8 hx) ?_
                    refine z_iload 0 d_F_takeRising_43 rfl ?_
                    refine z_if_eq (tgt := 52) d_F_takeRising_45 (by decide) (fun _ => ?_) (fun c => absurd (by decide) c)
                    refine z_iload_n (i := 3) 4 d_F_takeRising_52 rfl rfl ?_
                    refine z_iload 0 d_F_takeRising_53 rfl ?_
                    refine z_if_eq (tgt := 62) d_F_takeRising_55 (by decide) (fun _ => ?_) (fun c => absurd (by decide) c)
                    refine z_iload 5 d_F_takeRising_62 rfl ?_
                    refine z_cV (c := 18) (as := [(0, a3), (0, a4)]) (d' := 2) (st := []) d_F_takeRising_64 mi_Ch_unfold ml_F_291 mv_Ch_unfold se_Ch_unfold rfl rfl rfl rfl (ks_F_18 hx) rfl rfl (kl_F_18 hx) rfl rfl (z_Omono h (fun r0 g0 _ h hro => ?_))
                    show z_U X 3 m_F_takeRising 67 [(5, (0, 0)), (0, (2, 0)), (1, (0, a1)), (2, (0, a2)), (3, (0, a3)), (4, (0, a4))] [] N σ g0 Q
                    refine z_aload_n (i := 0) (c := 0) 1 d_F_takeRising_67 rfl rfl rfl ?_
                    refine z_getr (c := 0) (kI := 9) (r2 := 20) d_F_takeRising_68 fd_F_otherChain fl_F_54 rfl rfl rfl (ks_F_0 hx) (kl_F_0 hx) (kr_F_0_9 hx) ?_
                    refine z_iload 0 d_F_takeRising_71 rfl ?_
                    refine z_if_eq (tgt := 80) d_F_takeRising_73 (by decide) (fun _ => ?_) (fun c => absurd (by decide) c)
                    refine z_iload_n (i := 1) 2 d_F_takeRising_80 rfl rfl ?_
                    refine z_iload 0 d_F_takeRising_81 rfl ?_
                    refine z_if_eq (tgt := 91) d_F_takeRising_83 (by decide) (fun _ => ?_) (fun c => absurd (by decide) c)
                    refine z_iload_n (i := 2) 3 d_F_takeRising_91 rfl rfl ?_
                    refine z_cV (c := 20) (as := [(0, a1), (0, a2)]) (d' := 2) (st := []) d_F_takeRising_92 mi_Ch_unfold ml_F_291 mv_Ch_unfold se_Ch_unfold rfl rfl rfl rfl (ks_F_20 hx) rfl rfl (kl_F_20 hx) rfl rfl (z_Omono h (fun r1 g1 _ h hro => ?_))
                    show z_U X 3 m_F_takeRising 95 [(5, (0, 0)), (0, (2, 0)), (1, (0, a1)), (2, (0, a2)), (3, (0, a3)), (4, (0, a4))] [] N σ g1 Q
                    refine z_iconst (n := 1) d_F_takeRising_95 (by decide) ?_
                    exact z_zret d_F_takeRising_96 rfl (by decide) (by decide) (by decide) ⟨rfl, rfl, h⟩
                  · have h := h.2 c12
                    refine z_iconst (n := 1) d_F_takeRising_32 (by decide) ?_
                    refine z_goto (tgt := 37) d_F_takeRising_33 (by decide) ?_
                    refine z_istore (ls' := [(5, (0, 1)), (0, (2, 0)), (1, (0, a1)), (2, (0, a2)), (3, (0, a3)), (4, (0, a4))]) d_F_takeRising_37 rfl rfl ?_
                    refine z_aload_n (i := 0) (c := 0) 1 d_F_takeRising_39 rfl rfl rfl ?_
                    refine z_getr (c := 0) (kI := 8) (r2 := 18) d_F_takeRising_40 fd_F_chain fl_F_50 rfl rfl rfl (ks_F_0 hx) (kl_F_0 hx) (kr_F_0_8 hx) ?_
                    refine z_iload 0 d_F_takeRising_43 rfl ?_
                    refine z_if_eq (tgt := 52) d_F_takeRising_45 (by decide) (fun c => absurd c (by decide)) (fun _ => ?_)
                    refine z_iload_n (i := 1) 2 d_F_takeRising_48 rfl rfl ?_
                    refine z_goto (tgt := 53) d_F_takeRising_49 (by decide) ?_
                    refine z_iload 0 d_F_takeRising_53 rfl ?_
                    refine z_if_eq (tgt := 62) d_F_takeRising_55 (by decide) (fun c => absurd c (by decide)) (fun _ => ?_)
                    refine z_iload_n (i := 2) 3 d_F_takeRising_58 rfl rfl ?_
                    refine z_goto (tgt := 64) d_F_takeRising_59 (by decide) ?_
                    refine z_cV (c := 18) (as := [(0, a1), (0, a2)]) (d' := 2) (st := []) d_F_takeRising_64 mi_Ch_unfold ml_F_291 mv_Ch_unfold se_Ch_unfold rfl rfl rfl rfl (ks_F_18 hx) rfl rfl (kl_F_18 hx) rfl rfl (z_Omono h (fun r2 g2 _ h hro => ?_))
                    show z_U X 3 m_F_takeRising 67 [(5, (0, 1)), (0, (2, 0)), (1, (0, a1)), (2, (0, a2)), (3, (0, a3)), (4, (0, a4))] [] N σ g2 Q
                    refine z_aload_n (i := 0) (c := 0) 1 d_F_takeRising_67 rfl rfl rfl ?_
                    refine z_getr (c := 0) (kI := 9) (r2 := 20) d_F_takeRising_68 fd_F_otherChain fl_F_54 rfl rfl rfl (ks_F_0 hx) (kl_F_0 hx) (kr_F_0_9 hx) ?_
                    refine z_iload 0 d_F_takeRising_71 rfl ?_
                    refine z_if_eq (tgt := 80) d_F_takeRising_73 (by decide) (fun c => absurd c (by decide)) (fun _ => ?_)
                    refine z_iload_n (i := 3) 4 d_F_takeRising_76 rfl rfl ?_
                    refine z_goto (tgt := 81) d_F_takeRising_77 (by decide) ?_
                    refine z_iload 0 d_F_takeRising_81 rfl ?_
                    refine z_if_eq (tgt := 91) d_F_takeRising_83 (by decide) (fun c => absurd c (by decide)) (fun _ => ?_)
                    refine z_iload 5 d_F_takeRising_86 rfl ?_
                    refine z_goto (tgt := 92) d_F_takeRising_88 (by decide) ?_
                    refine z_cV (c := 20) (as := [(0, a3), (0, a4)]) (d' := 2) (st := []) d_F_takeRising_92 mi_Ch_unfold ml_F_291 mv_Ch_unfold se_Ch_unfold rfl rfl rfl rfl (ks_F_20 hx) rfl rfl (kl_F_20 hx) rfl rfl (z_Omono h (fun r3 g3 _ h hro => ?_))
                    show z_U X 3 m_F_takeRising 95 [(5, (0, 1)), (0, (2, 0)), (1, (0, a1)), (2, (0, a2)), (3, (0, a3)), (4, (0, a4))] [] N σ g3 Q
                    refine z_iconst (n := 1) d_F_takeRising_95 (by decide) ?_
                    exact z_zret d_F_takeRising_96 rfl (by decide) (by decide) (by decide) ⟨rfl, rfl, h⟩
theorem d_F_tellPin_0 : decode (z_c m_F_tellPin) 0 = .ok (.aload_n 0, 1) := by decide +kernel
theorem d_F_tellPin_1 : decode (z_c m_F_tellPin) 1 = .ok (.getfield 67, 3) := by decide +kernel
theorem d_F_tellPin_4 : decode (z_c m_F_tellPin) 4 = .ok (.getfield 167, 3) := by decide +kernel
theorem d_F_tellPin_7 : decode (z_c m_F_tellPin) 7 = .ok (.astore_n 2, 1) := by decide +kernel
theorem d_F_tellPin_8 : decode (z_c m_F_tellPin) 8 = .ok (.iload_n 1, 1) := by decide +kernel
theorem d_F_tellPin_9 : decode (z_c m_F_tellPin) 9 = .ok (.ifCond .lt 11, 3) := by decide +kernel
theorem d_F_tellPin_12 : decode (z_c m_F_tellPin) 12 = .ok (.iload_n 1, 1) := by decide +kernel
theorem d_F_tellPin_13 : decode (z_c m_F_tellPin) 13 = .ok (.aload_n 2, 1) := by decide +kernel
theorem d_F_tellPin_14 : decode (z_c m_F_tellPin) 14 = .ok (.getfield 171, 3) := by decide +kernel
theorem d_F_tellPin_17 : decode (z_c m_F_tellPin) 17 = .ok (.if_icmp .lt 12, 3) := by decide +kernel
theorem d_F_tellPin_20 : decode (z_c m_F_tellPin) 20 = .ok (.aload_n 0, 1) := by decide +kernel
theorem d_F_tellPin_21 : decode (z_c m_F_tellPin) 21 = .ok (.bipush 6, 2) := by decide +kernel
theorem d_F_tellPin_23 : decode (z_c m_F_tellPin) 23 = .ok (.invokevirtual 102, 3) := by decide +kernel
theorem d_F_tellPin_26 : decode (z_c m_F_tellPin) 26 = .ok (.goto 21, 3) := by decide +kernel
theorem d_F_tellPin_29 : decode (z_c m_F_tellPin) 29 = .ok (.aload_n 0, 1) := by decide +kernel
theorem d_F_tellPin_30 : decode (z_c m_F_tellPin) 30 = .ok (.aload_n 2, 1) := by decide +kernel
theorem d_F_tellPin_31 : decode (z_c m_F_tellPin) 31 = .ok (.getfield 384, 3) := by decide +kernel
theorem d_F_tellPin_34 : decode (z_c m_F_tellPin) 34 = .ok (.iload_n 1, 1) := by decide +kernel
theorem d_F_tellPin_35 : decode (z_c m_F_tellPin) 35 = .ok (.iaload, 1) := by decide +kernel
theorem d_F_tellPin_36 : decode (z_c m_F_tellPin) 36 = .ok (.i2l, 1) := by decide +kernel
theorem d_F_tellPin_37 : decode (z_c m_F_tellPin) 37 = .ok (.aload_n 2, 1) := by decide +kernel
theorem d_F_tellPin_38 : decode (z_c m_F_tellPin) 38 = .ok (.getfield 387, 3) := by decide +kernel
theorem d_F_tellPin_41 : decode (z_c m_F_tellPin) 41 = .ok (.iload_n 1, 1) := by decide +kernel
theorem d_F_tellPin_42 : decode (z_c m_F_tellPin) 42 = .ok (.iaload, 1) := by decide +kernel
theorem d_F_tellPin_43 : decode (z_c m_F_tellPin) 43 = .ok (.i2l, 1) := by decide +kernel
theorem d_F_tellPin_44 : decode (z_c m_F_tellPin) 44 = .ok (.invokevirtual 233, 3) := by decide +kernel
theorem d_F_tellPin_47 : decode (z_c m_F_tellPin) 47 = .ok (.ireturn, 1) := by decide +kernel
set_option maxRecDepth 8000 in
theorem b_F_tellPin_0 {X : z_X} {N : Nat} {σ g : z_G} {Q : z_P} {a1 : Int} (hx : z_lay X N σ 0 z_SF z_RF) (h : ((a1 < 0) → Q 0 (z_up g 0 0 6)) ∧ (¬ (a1 < 0) → (((a1 < (g 25 3)) → ((0 ≤ a1 ∧ a1 < 12) ∧ (z_O X 2 m_F_tell [(2, 0), (1, g 26 a1), (1, g 27 a1)] N σ g (fun r0 g0 => (r0 = 0 ∨ r0 = 1) → Q r0 g0)))) ∧ (¬ (a1 < (g 25 3)) → Q 0 (z_up g 0 0 6))))) : z_O X 3 m_F_tellPin [(2, 0), (0, a1)] N σ g Q := by
  refine z_Oenter mi_F_tellPin rfl (fun _ => ?_)
  show z_U X 3 m_F_tellPin 0 [(0, (2, 0)), (1, (0, a1))] [] N σ g Q
  refine z_aload_n (i := 0) (c := 0) 0 d_F_tellPin_0 rfl rfl rfl ?_
  refine z_getr (c := 0) (kI := 11) (r2 := 23) d_F_tellPin_1 fd_F_board fl_F_67 rfl rfl rfl (ks_F_0 hx) (kl_F_0 hx) (kr_F_0_11 hx) ?_
  refine z_getr (c := 23) (kI := 3) (r2 := 25) d_F_tellPin_4 fd_Bd_pins fl_F_167 rfl rfl rfl (ks_F_23 hx) (kl_F_23 hx) (kr_F_23_3 hx) ?_
  refine z_astore_n (i := 2) (c := 25) (ls' := [(2, (2, 25)), (0, (2, 0)), (1, (0, a1))]) d_F_tellPin_7 rfl rfl rfl rfl ?_
  refine z_iload_n (i := 1) 2 d_F_tellPin_8 rfl rfl ?_
  refine z_if_lt (tgt := 20) d_F_tellPin_9 (by decide) (fun c1 => ?_) (fun c1 => ?_)
  · have h := h.1 c1
    refine z_aload_n (i := 0) (c := 0) 1 d_F_tellPin_20 rfl rfl rfl ?_
    refine z_bipush (n := 6) d_F_tellPin_21 (by decide) (by decide) ?_
    refine z_cV (c := 0) (as := [(0, 6)]) (d' := 1) (st := []) d_F_tellPin_23 mi_F_refuse ml_F_102 mv_F_refuse se_F_refuse rfl rfl rfl rfl (ks_F_0 hx) rfl rfl (kl_F_0 hx) rfl rfl (b_F_refuse_0 hx ?_)
    intro _
    show z_U X 3 m_F_tellPin 26 [(2, (2, 25)), (0, (2, 0)), (1, (0, a1))] [(0, 0)] N σ (z_up g 0 0 6) Q
    refine z_goto (tgt := 47) d_F_tellPin_26 (by decide) ?_
    exact z_zret d_F_tellPin_47 rfl (by decide) (by decide) (by decide) ⟨rfl, rfl, h⟩
  · have h := h.2 c1
    refine z_iload_n (i := 1) 2 d_F_tellPin_12 rfl rfl ?_
    refine z_aload_n (i := 2) (c := 25) 0 d_F_tellPin_13 rfl rfl rfl ?_
    refine z_geti (c := 25) (kI := 3) d_F_tellPin_14 fd_Pi_many fl_F_171 (Or.inl rfl) rfl rfl (ks_F_25 hx) (kl_F_25 hx) ?_
    refine z_icmp_lt (tgt := 29) d_F_tellPin_17 (by decide) (fun c2 => ?_) (fun c2 => ?_)
    · have h := h.1 c2
      refine z_aload_n (i := 0) (c := 0) 1 d_F_tellPin_29 rfl rfl rfl ?_
      refine z_aload_n (i := 2) (c := 25) 0 d_F_tellPin_30 rfl rfl rfl ?_
      refine z_getr (c := 25) (kI := 0) (r2 := 26) d_F_tellPin_31 fd_Pi_tops fl_F_384 rfl rfl rfl (ks_F_25 hx) (kl_F_25 hx) (kr_F_25_0 hx) ?_
      refine z_iload_n (i := 1) 2 d_F_tellPin_34 rfl rfl ?_
      obtain ⟨c3, h⟩ := h
      refine z_iald (c := 26) (m := 12) d_F_tellPin_35 rfl (ks_F_26 hx) (kl_F_26 hx) rfl (by decide) c3 ?_
      refine z_i2l d_F_tellPin_36 ?_
      refine z_aload_n (i := 2) (c := 25) 0 d_F_tellPin_37 rfl rfl rfl ?_
      refine z_getr (c := 25) (kI := 1) (r2 := 27) d_F_tellPin_38 fd_Pi_bottoms fl_F_387 rfl rfl rfl (ks_F_25 hx) (kl_F_25 hx) (kr_F_25_1 hx) ?_
      refine z_iload_n (i := 1) 2 d_F_tellPin_41 rfl rfl ?_
      refine z_iald (c := 27) (m := 12) d_F_tellPin_42 rfl (ks_F_27 hx) (kl_F_27 hx) rfl (by decide) c3 ?_
      refine z_i2l d_F_tellPin_43 ?_
      refine z_cV (c := 0) (as := [(1, g 26 a1), (1, g 27 a1)]) (d' := 2) (st := []) d_F_tellPin_44 mi_F_tell ml_F_233 mv_F_tell se_F_tell rfl rfl rfl rfl (ks_F_0 hx) rfl rfl (kl_F_0 hx) rfl rfl (z_Omono h (fun r0 g0 _ h hro => ?_))
      have h := h (z_b01 hro)
      have hzr0 := z_b01 hro
      show z_U X 3 m_F_tellPin 47 [(2, (2, 25)), (0, (2, 0)), (1, (0, a1))] [(0, r0)] N σ g0 Q
      exact z_zret d_F_tellPin_47 rfl (by decide) (by decide) hzr0 ⟨rfl, rfl, h⟩
    · have h := h.2 c2
      refine z_aload_n (i := 0) (c := 0) 1 d_F_tellPin_20 rfl rfl rfl ?_
      refine z_bipush (n := 6) d_F_tellPin_21 (by decide) (by decide) ?_
      refine z_cV (c := 0) (as := [(0, 6)]) (d' := 1) (st := []) d_F_tellPin_23 mi_F_refuse ml_F_102 mv_F_refuse se_F_refuse rfl rfl rfl rfl (ks_F_0 hx) rfl rfl (kl_F_0 hx) rfl rfl (b_F_refuse_0 hx ?_)
      intro _
      show z_U X 3 m_F_tellPin 26 [(2, (2, 25)), (0, (2, 0)), (1, (0, a1))] [(0, 0)] N σ (z_up g 0 0 6) Q
      refine z_goto (tgt := 47) d_F_tellPin_26 (by decide) ?_
      exact z_zret d_F_tellPin_47 rfl (by decide) (by decide) (by decide) ⟨rfl, rfl, h⟩
theorem d_F_tray_0 : decode (z_c m_F_tray) 0 = .ok (.aload_n 0, 1) := by decide +kernel
theorem d_F_tray_1 : decode (z_c m_F_tray) 1 = .ok (.getfield 23, 3) := by decide +kernel
theorem d_F_tray_4 : decode (z_c m_F_tray) 4 = .ok (.iload_n 1, 1) := by decide +kernel
theorem d_F_tray_5 : decode (z_c m_F_tray) 5 = .ok (.invokevirtual 95, 3) := by decide +kernel
theorem d_F_tray_8 : decode (z_c m_F_tray) 8 = .ok (.ifCond .eq 24, 3) := by decide +kernel
theorem d_F_tray_11 : decode (z_c m_F_tray) 11 = .ok (.aload_n 0, 1) := by decide +kernel
theorem d_F_tray_12 : decode (z_c m_F_tray) 12 = .ok (.getfield 23, 3) := by decide +kernel
theorem d_F_tray_15 : decode (z_c m_F_tray) 15 = .ok (.iload_n 2, 1) := by decide +kernel
theorem d_F_tray_16 : decode (z_c m_F_tray) 16 = .ok (.invokevirtual 99, 3) := by decide +kernel
theorem d_F_tray_19 : decode (z_c m_F_tray) 19 = .ok (.ifCond .eq 13, 3) := by decide +kernel
theorem d_F_tray_22 : decode (z_c m_F_tray) 22 = .ok (.iload_n 3, 1) := by decide +kernel
theorem d_F_tray_23 : decode (z_c m_F_tray) 23 = .ok (.ifCond .lt 9, 3) := by decide +kernel
theorem d_F_tray_26 : decode (z_c m_F_tray) 26 = .ok (.iload_n 3, 1) := by decide +kernel
theorem d_F_tray_27 : decode (z_c m_F_tray) 27 = .ok (.bipush 60, 2) := by decide +kernel
theorem d_F_tray_29 : decode (z_c m_F_tray) 29 = .ok (.if_icmp .le 9, 3) := by decide +kernel
theorem d_F_tray_32 : decode (z_c m_F_tray) 32 = .ok (.aload_n 0, 1) := by decide +kernel
theorem d_F_tray_33 : decode (z_c m_F_tray) 33 = .ok (.iconst 1, 1) := by decide +kernel
theorem d_F_tray_34 : decode (z_c m_F_tray) 34 = .ok (.invokevirtual 102, 3) := by decide +kernel
theorem d_F_tray_37 : decode (z_c m_F_tray) 37 = .ok (.ireturn, 1) := by decide +kernel
theorem d_F_tray_38 : decode (z_c m_F_tray) 38 = .ok (.aload_n 0, 1) := by decide +kernel
theorem d_F_tray_39 : decode (z_c m_F_tray) 39 = .ok (.getfield 23, 3) := by decide +kernel
theorem d_F_tray_42 : decode (z_c m_F_tray) 42 = .ok (.iload_n 1, 1) := by decide +kernel
theorem d_F_tray_43 : decode (z_c m_F_tray) 43 = .ok (.iload_n 2, 1) := by decide +kernel
theorem d_F_tray_44 : decode (z_c m_F_tray) 44 = .ok (.iload_n 3, 1) := by decide +kernel
theorem d_F_tray_45 : decode (z_c m_F_tray) 45 = .ok (.invokevirtual 105, 3) := by decide +kernel
theorem d_F_tray_48 : decode (z_c m_F_tray) 48 = .ok (.aload_n 0, 1) := by decide +kernel
theorem d_F_tray_49 : decode (z_c m_F_tray) 49 = .ok (.invokevirtual 109, 3) := by decide +kernel
theorem d_F_tray_52 : decode (z_c m_F_tray) 52 = .ok (.ireturn, 1) := by decide +kernel
set_option maxRecDepth 8000 in
theorem b_F_tray_0 {X : z_X} {N : Nat} {σ g : z_G} {Q : z_P} {a1 a2 a3 : Int} (hx : z_lay X N σ 0 z_SF z_RF) (h : ((a1 < 0) → Q 0 (z_up g 0 0 1)) ∧ (¬ (a1 < 0) → (((4 ≤ a1) → Q 0 (z_up g 0 0 1)) ∧ (¬ (4 ≤ a1) → (((a2 < 0) → Q 0 (z_up g 0 0 1)) ∧ (¬ (a2 < 0) → (((4 ≤ a2) → Q 0 (z_up g 0 0 1)) ∧ (¬ (4 ≤ a2) → (((a3 < 0) → Q 0 (z_up g 0 0 1)) ∧ (¬ (a3 < 0) → (((a3 ≤ 60) → (z_O X 2 m_Tr_lay [(2, 1), (0, a1), (0, a2), (0, a3)] N σ g (fun r0 g0 => Q 1 (z_up g0 0 0 0)))) ∧ (¬ (a3 ≤ 60) → Q 0 (z_up g 0 0 1))))))))))))) : z_O X 3 m_F_tray [(2, 0), (0, a1), (0, a2), (0, a3)] N σ g Q := by
  refine z_Oenter mi_F_tray rfl (fun _ => ?_)
  show z_U X 3 m_F_tray 0 [(0, (2, 0)), (1, (0, a1)), (2, (0, a2)), (3, (0, a3))] [] N σ g Q
  refine z_aload_n (i := 0) (c := 0) 0 d_F_tray_0 rfl rfl rfl ?_
  refine z_getr (c := 0) (kI := 3) (r2 := 1) d_F_tray_1 fd_F_trays fl_F_23 rfl rfl rfl (ks_F_0 hx) (kl_F_0 hx) (kr_F_0_3 hx) ?_
  refine z_iload_n (i := 1) 1 d_F_tray_4 rfl rfl ?_
  refine z_cV (c := 1) (as := [(0, a1)]) (d' := 1) (st := []) d_F_tray_5 mi_Tr_isTray ml_F_95 mv_Tr_isTray se_Tr_isTray rfl rfl rfl rfl (ks_F_1 hx) rfl rfl (kl_F_1 hx) rfl rfl (b_Tr_isTray_0 hx ?_)
  refine ⟨fun c1 => ?_, fun c1 => ?_⟩
  · have h := h.1 c1
    intro _
    show z_U X 3 m_F_tray 8 [(0, (2, 0)), (1, (0, a1)), (2, (0, a2)), (3, (0, a3))] [(0, 0)] N σ g Q
    refine z_if_eq (tgt := 32) d_F_tray_8 (by decide) (fun _ => ?_) (fun c => absurd (by decide) c)
    refine z_aload_n (i := 0) (c := 0) 0 d_F_tray_32 rfl rfl rfl ?_
    refine z_iconst (n := 1) d_F_tray_33 (by decide) ?_
    refine z_cV (c := 0) (as := [(0, 1)]) (d' := 1) (st := []) d_F_tray_34 mi_F_refuse ml_F_102 mv_F_refuse se_F_refuse rfl rfl rfl rfl (ks_F_0 hx) rfl rfl (kl_F_0 hx) rfl rfl (b_F_refuse_0 hx ?_)
    intro _
    show z_U X 3 m_F_tray 37 [(0, (2, 0)), (1, (0, a1)), (2, (0, a2)), (3, (0, a3))] [(0, 0)] N σ (z_up g 0 0 1) Q
    exact z_zret d_F_tray_37 rfl (by decide) (by decide) (by decide) ⟨rfl, rfl, h⟩
  · have h := h.2 c1
    refine ⟨fun c2 => ?_, fun c2 => ?_⟩
    · have h := h.1 c2
      intro _
      show z_U X 3 m_F_tray 8 [(0, (2, 0)), (1, (0, a1)), (2, (0, a2)), (3, (0, a3))] [(0, 0)] N σ g Q
      refine z_if_eq (tgt := 32) d_F_tray_8 (by decide) (fun _ => ?_) (fun c => absurd (by decide) c)
      refine z_aload_n (i := 0) (c := 0) 0 d_F_tray_32 rfl rfl rfl ?_
      refine z_iconst (n := 1) d_F_tray_33 (by decide) ?_
      refine z_cV (c := 0) (as := [(0, 1)]) (d' := 1) (st := []) d_F_tray_34 mi_F_refuse ml_F_102 mv_F_refuse se_F_refuse rfl rfl rfl rfl (ks_F_0 hx) rfl rfl (kl_F_0 hx) rfl rfl (b_F_refuse_0 hx ?_)
      intro _
      show z_U X 3 m_F_tray 37 [(0, (2, 0)), (1, (0, a1)), (2, (0, a2)), (3, (0, a3))] [(0, 0)] N σ (z_up g 0 0 1) Q
      exact z_zret d_F_tray_37 rfl (by decide) (by decide) (by decide) ⟨rfl, rfl, h⟩
    · have h := h.2 c2
      intro _
      show z_U X 3 m_F_tray 8 [(0, (2, 0)), (1, (0, a1)), (2, (0, a2)), (3, (0, a3))] [(0, 1)] N σ g Q
      refine z_if_eq (tgt := 32) d_F_tray_8 (by decide) (fun c => absurd c (by decide)) (fun _ => ?_)
      refine z_aload_n (i := 0) (c := 0) 0 d_F_tray_11 rfl rfl rfl ?_
      refine z_getr (c := 0) (kI := 3) (r2 := 1) d_F_tray_12 fd_F_trays fl_F_23 rfl rfl rfl (ks_F_0 hx) (kl_F_0 hx) (kr_F_0_3 hx) ?_
      refine z_iload_n (i := 2) 2 d_F_tray_15 rfl rfl ?_
      refine z_cV (c := 1) (as := [(0, a2)]) (d' := 1) (st := []) d_F_tray_16 mi_Tr_isSort ml_F_99 mv_Tr_isSort se_Tr_isSort rfl rfl rfl rfl (ks_F_1 hx) rfl rfl (kl_F_1 hx) rfl rfl (b_Tr_isSort_0 hx ?_)
      refine ⟨fun c3 => ?_, fun c3 => ?_⟩
      · have h := h.1 c3
        intro _
        show z_U X 3 m_F_tray 19 [(0, (2, 0)), (1, (0, a1)), (2, (0, a2)), (3, (0, a3))] [(0, 0)] N σ g Q
        refine z_if_eq (tgt := 32) d_F_tray_19 (by decide) (fun _ => ?_) (fun c => absurd (by decide) c)
        refine z_aload_n (i := 0) (c := 0) 0 d_F_tray_32 rfl rfl rfl ?_
        refine z_iconst (n := 1) d_F_tray_33 (by decide) ?_
        refine z_cV (c := 0) (as := [(0, 1)]) (d' := 1) (st := []) d_F_tray_34 mi_F_refuse ml_F_102 mv_F_refuse se_F_refuse rfl rfl rfl rfl (ks_F_0 hx) rfl rfl (kl_F_0 hx) rfl rfl (b_F_refuse_0 hx ?_)
        intro _
        show z_U X 3 m_F_tray 37 [(0, (2, 0)), (1, (0, a1)), (2, (0, a2)), (3, (0, a3))] [(0, 0)] N σ (z_up g 0 0 1) Q
        exact z_zret d_F_tray_37 rfl (by decide) (by decide) (by decide) ⟨rfl, rfl, h⟩
      · have h := h.2 c3
        refine ⟨fun c4 => ?_, fun c4 => ?_⟩
        · have h := h.1 c4
          intro _
          show z_U X 3 m_F_tray 19 [(0, (2, 0)), (1, (0, a1)), (2, (0, a2)), (3, (0, a3))] [(0, 0)] N σ g Q
          refine z_if_eq (tgt := 32) d_F_tray_19 (by decide) (fun _ => ?_) (fun c => absurd (by decide) c)
          refine z_aload_n (i := 0) (c := 0) 0 d_F_tray_32 rfl rfl rfl ?_
          refine z_iconst (n := 1) d_F_tray_33 (by decide) ?_
          refine z_cV (c := 0) (as := [(0, 1)]) (d' := 1) (st := []) d_F_tray_34 mi_F_refuse ml_F_102 mv_F_refuse se_F_refuse rfl rfl rfl rfl (ks_F_0 hx) rfl rfl (kl_F_0 hx) rfl rfl (b_F_refuse_0 hx ?_)
          intro _
          show z_U X 3 m_F_tray 37 [(0, (2, 0)), (1, (0, a1)), (2, (0, a2)), (3, (0, a3))] [(0, 0)] N σ (z_up g 0 0 1) Q
          exact z_zret d_F_tray_37 rfl (by decide) (by decide) (by decide) ⟨rfl, rfl, h⟩
        · have h := h.2 c4
          intro _
          show z_U X 3 m_F_tray 19 [(0, (2, 0)), (1, (0, a1)), (2, (0, a2)), (3, (0, a3))] [(0, 1)] N σ g Q
          refine z_if_eq (tgt := 32) d_F_tray_19 (by decide) (fun c => absurd c (by decide)) (fun _ => ?_)
          refine z_iload_n (i := 3) 3 d_F_tray_22 rfl rfl ?_
          refine z_if_lt (tgt := 32) d_F_tray_23 (by decide) (fun c5 => ?_) (fun c5 => ?_)
          · have h := h.1 c5
            refine z_aload_n (i := 0) (c := 0) 0 d_F_tray_32 rfl rfl rfl ?_
            refine z_iconst (n := 1) d_F_tray_33 (by decide) ?_
            refine z_cV (c := 0) (as := [(0, 1)]) (d' := 1) (st := []) d_F_tray_34 mi_F_refuse ml_F_102 mv_F_refuse se_F_refuse rfl rfl rfl rfl (ks_F_0 hx) rfl rfl (kl_F_0 hx) rfl rfl (b_F_refuse_0 hx ?_)
            intro _
            show z_U X 3 m_F_tray 37 [(0, (2, 0)), (1, (0, a1)), (2, (0, a2)), (3, (0, a3))] [(0, 0)] N σ (z_up g 0 0 1) Q
            exact z_zret d_F_tray_37 rfl (by decide) (by decide) (by decide) ⟨rfl, rfl, h⟩
          · have h := h.2 c5
            refine z_iload_n (i := 3) 3 d_F_tray_26 rfl rfl ?_
            refine z_bipush (n := 60) d_F_tray_27 (by decide) (by decide) ?_
            refine z_icmp_le (tgt := 38) d_F_tray_29 (by decide) (fun c6 => ?_) (fun c6 => ?_)
            · have h := h.1 c6
              refine z_aload_n (i := 0) (c := 0) 0 d_F_tray_38 rfl rfl rfl ?_
              refine z_getr (c := 0) (kI := 3) (r2 := 1) d_F_tray_39 fd_F_trays fl_F_23 rfl rfl rfl (ks_F_0 hx) (kl_F_0 hx) (kr_F_0_3 hx) ?_
              refine z_iload_n (i := 1) 1 d_F_tray_42 rfl rfl ?_
              refine z_iload_n (i := 2) 2 d_F_tray_43 rfl rfl ?_
              refine z_iload_n (i := 3) 3 d_F_tray_44 rfl rfl ?_
              refine z_cV (c := 1) (as := [(0, a1), (0, a2), (0, a3)]) (d' := 2) (st := []) d_F_tray_45 mi_Tr_lay ml_F_105 mv_Tr_lay se_Tr_lay rfl rfl rfl rfl (ks_F_1 hx) rfl rfl (kl_F_1 hx) rfl rfl (z_Omono h (fun r0 g0 _ h hro => ?_))
              show z_U X 3 m_F_tray 48 [(0, (2, 0)), (1, (0, a1)), (2, (0, a2)), (3, (0, a3))] [] N σ g0 Q
              refine z_aload_n (i := 0) (c := 0) 0 d_F_tray_48 rfl rfl rfl ?_
              refine z_cV (c := 0) (as := []) (d' := 1) (st := []) d_F_tray_49 mi_F_accept ml_F_109 mv_F_accept se_F_accept rfl rfl rfl rfl (ks_F_0 hx) rfl rfl (kl_F_0 hx) rfl rfl (b_F_accept_0 hx ?_)
              intro _
              show z_U X 3 m_F_tray 52 [(0, (2, 0)), (1, (0, a1)), (2, (0, a2)), (3, (0, a3))] [(0, 1)] N σ (z_up g0 0 0 0) Q
              exact z_zret d_F_tray_52 rfl (by decide) (by decide) (by decide) ⟨rfl, rfl, h⟩
            · have h := h.2 c6
              refine z_aload_n (i := 0) (c := 0) 0 d_F_tray_32 rfl rfl rfl ?_
              refine z_iconst (n := 1) d_F_tray_33 (by decide) ?_
              refine z_cV (c := 0) (as := [(0, 1)]) (d' := 1) (st := []) d_F_tray_34 mi_F_refuse ml_F_102 mv_F_refuse se_F_refuse rfl rfl rfl rfl (ks_F_0 hx) rfl rfl (kl_F_0 hx) rfl rfl (b_F_refuse_0 hx ?_)
              intro _
              show z_U X 3 m_F_tray 37 [(0, (2, 0)), (1, (0, a1)), (2, (0, a2)), (3, (0, a3))] [(0, 0)] N σ (z_up g 0 0 1) Q
              exact z_zret d_F_tray_37 rfl (by decide) (by decide) (by decide) ⟨rfl, rfl, h⟩
theorem d_F_undo_0 : decode (z_c m_F_undo) 0 = .ok (.aload_n 0, 1) := by decide +kernel
theorem d_F_undo_1 : decode (z_c m_F_undo) 1 = .ok (.getfield 78, 3) := by decide +kernel
theorem d_F_undo_4 : decode (z_c m_F_undo) 4 = .ok (.iconst 1, 1) := by decide +kernel
theorem d_F_undo_5 : decode (z_c m_F_undo) 5 = .ok (.if_icmp .lt 15, 3) := by decide +kernel
theorem d_F_undo_8 : decode (z_c m_F_undo) 8 = .ok (.aload_n 0, 1) := by decide +kernel
theorem d_F_undo_9 : decode (z_c m_F_undo) 9 = .ok (.getfield 78, 3) := by decide +kernel
theorem d_F_undo_12 : decode (z_c m_F_undo) 12 = .ok (.aload_n 0, 1) := by decide +kernel
theorem d_F_undo_13 : decode (z_c m_F_undo) 13 = .ok (.getfield 74, 3) := by decide +kernel
theorem d_F_undo_16 : decode (z_c m_F_undo) 16 = .ok (.arraylength, 1) := by decide +kernel
theorem d_F_undo_17 : decode (z_c m_F_undo) 17 = .ok (.if_icmp .le 10, 3) := by decide +kernel
theorem d_F_undo_20 : decode (z_c m_F_undo) 20 = .ok (.aload_n 0, 1) := by decide +kernel
theorem d_F_undo_21 : decode (z_c m_F_undo) 21 = .ok (.bipush 6, 2) := by decide +kernel
theorem d_F_undo_23 : decode (z_c m_F_undo) 23 = .ok (.invokevirtual 121, 3) := by decide +kernel
theorem d_F_undo_26 : decode (z_c m_F_undo) 26 = .ok (.ireturn, 1) := by decide +kernel
theorem d_F_undo_27 : decode (z_c m_F_undo) 27 = .ok (.aload_n 0, 1) := by decide +kernel
theorem d_F_undo_28 : decode (z_c m_F_undo) 28 = .ok (.dup, 1) := by decide +kernel
theorem d_F_undo_29 : decode (z_c m_F_undo) 29 = .ok (.getfield 78, 3) := by decide +kernel
theorem d_F_undo_32 : decode (z_c m_F_undo) 32 = .ok (.iconst 1, 1) := by decide +kernel
theorem d_F_undo_33 : decode (z_c m_F_undo) 33 = .ok (.isub, 1) := by decide +kernel
theorem d_F_undo_34 : decode (z_c m_F_undo) 34 = .ok (.putfield 78, 3) := by decide +kernel
theorem d_F_undo_37 : decode (z_c m_F_undo) 37 = .ok (.aload_n 0, 1) := by decide +kernel
theorem d_F_undo_38 : decode (z_c m_F_undo) 38 = .ok (.getfield 67, 3) := by decide +kernel
theorem d_F_undo_41 : decode (z_c m_F_undo) 41 = .ok (.aload_n 0, 1) := by decide +kernel
theorem d_F_undo_42 : decode (z_c m_F_undo) 42 = .ok (.getfield 74, 3) := by decide +kernel
theorem d_F_undo_45 : decode (z_c m_F_undo) 45 = .ok (.aload_n 0, 1) := by decide +kernel
theorem d_F_undo_46 : decode (z_c m_F_undo) 46 = .ok (.getfield 78, 3) := by decide +kernel
theorem d_F_undo_49 : decode (z_c m_F_undo) 49 = .ok (.aaload, 1) := by decide +kernel
theorem d_F_undo_50 : decode (z_c m_F_undo) 50 = .ok (.invokevirtual 163, 3) := by decide +kernel
theorem d_F_undo_53 : decode (z_c m_F_undo) 53 = .ok (.aload_n 0, 1) := by decide +kernel
theorem d_F_undo_54 : decode (z_c m_F_undo) 54 = .ok (.aload_n 0, 1) := by decide +kernel
theorem d_F_undo_55 : decode (z_c m_F_undo) 55 = .ok (.getfield 78, 3) := by decide +kernel
theorem d_F_undo_58 : decode (z_c m_F_undo) 58 = .ok (.invokevirtual 176, 3) := by decide +kernel
theorem d_F_undo_61 : decode (z_c m_F_undo) 61 = .ok (.ireturn, 1) := by decide +kernel
set_option maxRecDepth 8000 in
theorem b_F_undo_0 {X : z_X} {N : Nat} {σ g : z_G} {Q : z_P} (hx : z_lay X N σ 0 z_SF z_RF) (h : (((g 0 14) < 1) → Q (-1) (z_up g 0 0 6)) ∧ (¬ ((g 0 14) < 1) → ((((g 0 14) ≤ 3) → ((-2147483648 ≤ ((g 0 14) - 1) ∧ ((g 0 14) - 1) ≤ 2147483647) ∧ ((0 ≤ ((g 0 14) - 1) ∧ ((g 0 14) - 1) < 3) ∧ (∃ k1 : Nat, σ 51 ((g 0 14) - 1) = (k1 : Int) ∧ z_sh X k1 = (0, 0) ∧ k1 < N ∧ (z_O X 2 m_Bd_copyFrom [(2, 23), (2, ((k1 : Nat) : Int))] N σ (z_up g 0 14 ((g 0 14) - 1)) (fun r0 g0 => Q (g0 0 14) (z_up g0 0 0 0))))))) ∧ (¬ ((g 0 14) ≤ 3) → Q (-1) (z_up g 0 0 6))))) : z_O X 3 m_F_undo [(2, 0)] N σ g Q := by
  refine z_Oenter mi_F_undo rfl (fun _ => ?_)
  show z_U X 3 m_F_undo 0 [(0, (2, 0))] [] N σ g Q
  refine z_aload_n (i := 0) (c := 0) 0 d_F_undo_0 rfl rfl rfl ?_
  refine z_geti (c := 0) (kI := 14) d_F_undo_1 fd_F_marked fl_F_78 (Or.inl rfl) rfl rfl (ks_F_0 hx) (kl_F_0 hx) ?_
  refine z_iconst (n := 1) d_F_undo_4 (by decide) ?_
  refine z_icmp_lt (tgt := 20) d_F_undo_5 (by decide) (fun c1 => ?_) (fun c1 => ?_)
  · have h := h.1 c1
    refine z_aload_n (i := 0) (c := 0) 0 d_F_undo_20 rfl rfl rfl ?_
    refine z_bipush (n := 6) d_F_undo_21 (by decide) (by decide) ?_
    refine z_cV (c := 0) (as := [(0, 6)]) (d' := 1) (st := []) d_F_undo_23 mi_F_none ml_F_121 mv_F_none se_F_none rfl rfl rfl rfl (ks_F_0 hx) rfl rfl (kl_F_0 hx) rfl rfl (b_F_none_0 hx ?_)
    intro _
    show z_U X 3 m_F_undo 26 [(0, (2, 0))] [(0, (-1))] N σ (z_up g 0 0 6) Q
    exact z_iret d_F_undo_26 rfl (by decide) (by decide) ⟨rfl, rfl, h⟩
  · have h := h.2 c1
    refine z_aload_n (i := 0) (c := 0) 0 d_F_undo_8 rfl rfl rfl ?_
    refine z_geti (c := 0) (kI := 14) d_F_undo_9 fd_F_marked fl_F_78 (Or.inl rfl) rfl rfl (ks_F_0 hx) (kl_F_0 hx) ?_
    refine z_aload_n (i := 0) (c := 0) 0 d_F_undo_12 rfl rfl rfl ?_
    refine z_getr (c := 0) (kI := 13) (r2 := 51) d_F_undo_13 fd_F_marks fl_F_74 rfl rfl rfl (ks_F_0 hx) (kl_F_0 hx) (kr_F_0_13 hx) ?_
    refine z_alen (c := 51) (m := 3) (cA := z_A X 6) d_F_undo_16 rfl (ks_F_51 hx) (kl_F_51 hx) rfl (by decide) rfl ?_
    refine z_icmp_le (tgt := 27) d_F_undo_17 (by decide) (fun c2 => ?_) (fun c2 => ?_)
    · have h := h.1 c2
      refine z_aload_n (i := 0) (c := 0) 0 d_F_undo_27 rfl rfl rfl ?_
      refine z_dup d_F_undo_28 rfl ?_
      refine z_geti (c := 0) (kI := 14) d_F_undo_29 fd_F_marked fl_F_78 (Or.inl rfl) rfl rfl (ks_F_0 hx) (kl_F_0 hx) ?_
      refine z_iconst (n := 1) d_F_undo_32 (by decide) ?_
      obtain ⟨c3, h⟩ := h
      refine z_isub d_F_undo_33 c3 ?_
      refine z_puti (c := 0) (kI := 14) d_F_undo_34 fd_F_marked fl_F_78 pf_F_marked rfl rfl rfl rfl (ks_F_0 hx) (kl_F_0 hx) ?_
      refine z_aload_n (i := 0) (c := 0) 0 d_F_undo_37 rfl rfl rfl ?_
      refine z_getr (c := 0) (kI := 11) (r2 := 23) d_F_undo_38 fd_F_board fl_F_67 rfl rfl rfl (ks_F_0 hx) (kl_F_0 hx) (kr_F_0_11 hx) ?_
      refine z_aload_n (i := 0) (c := 0) 0 d_F_undo_41 rfl rfl rfl ?_
      refine z_getr (c := 0) (kI := 13) (r2 := 51) d_F_undo_42 fd_F_marks fl_F_74 rfl rfl rfl (ks_F_0 hx) (kl_F_0 hx) (kr_F_0_13 hx) ?_
      refine z_aload_n (i := 0) (c := 0) 0 d_F_undo_45 rfl rfl rfl ?_
      refine z_geti (c := 0) (kI := 14) d_F_undo_46 fd_F_marked fl_F_78 (Or.inl rfl) rfl rfl (ks_F_0 hx) (kl_F_0 hx) ?_
      refine z_ti (b := (g 0 14) - 1) (by simp [z_up]) ?_
      obtain ⟨c4, h⟩ := h
      obtain ⟨k1, qk1, ek1, lk1, h⟩ := h
      refine z_aald6 (c := 51) (m := 3) (r2 := ((k1 : Nat) : Int)) d_F_undo_49 rfl (ks_F_51 hx) (kl_F_51 hx) rfl (by decide) c4 qk1 ?_
      refine z_cV (c := 23) (as := [(2, ((k1 : Nat) : Int))]) (d' := 2) (st := []) d_F_undo_50 mi_Bd_copyFrom ml_F_163 mv_Bd_copyFrom se_Bd_copyFrom rfl rfl rfl rfl (ks_F_23 hx) rfl rfl (kl_F_23 hx) rfl rfl (z_Omono h (fun r0 g0 _ h hro => ?_))
      show z_U X 3 m_F_undo 53 [(0, (2, 0))] [] N σ g0 Q
      refine z_aload_n (i := 0) (c := 0) 0 d_F_undo_53 rfl rfl rfl ?_
      refine z_aload_n (i := 0) (c := 0) 0 d_F_undo_54 rfl rfl rfl ?_
      refine z_geti (c := 0) (kI := 14) d_F_undo_55 fd_F_marked fl_F_78 (Or.inl rfl) rfl rfl (ks_F_0 hx) (kl_F_0 hx) ?_
      refine z_cV (c := 0) (as := [(0, g0 0 14)]) (d' := 1) (st := []) d_F_undo_58 mi_F_give ml_F_176 mv_F_give se_F_give rfl rfl rfl rfl (ks_F_0 hx) rfl rfl (kl_F_0 hx) rfl rfl (b_F_give_0 hx ?_)
      intro _
      show z_U X 3 m_F_undo 61 [(0, (2, 0))] [(0, g0 0 14)] N σ (z_up g0 0 0 0) Q
      exact z_iret d_F_undo_61 rfl (by decide) (by decide) ⟨rfl, rfl, h⟩
    · have h := h.2 c2
      refine z_aload_n (i := 0) (c := 0) 0 d_F_undo_20 rfl rfl rfl ?_
      refine z_bipush (n := 6) d_F_undo_21 (by decide) (by decide) ?_
      refine z_cV (c := 0) (as := [(0, 6)]) (d' := 1) (st := []) d_F_undo_23 mi_F_none ml_F_121 mv_F_none se_F_none rfl rfl rfl rfl (ks_F_0 hx) rfl rfl (kl_F_0 hx) rfl rfl (b_F_none_0 hx ?_)
      intro _
      show z_U X 3 m_F_undo 26 [(0, (2, 0))] [(0, (-1))] N σ (z_up g 0 0 6) Q
      exact z_iret d_F_undo_26 rfl (by decide) (by decide) ⟨rfl, rfl, h⟩
theorem d_F_wrong_0 : decode (z_c m_F_wrong) 0 = .ok (.iload_n 1, 1) := by decide +kernel
theorem d_F_wrong_1 : decode (z_c m_F_wrong) 1 = .ok (.ifCond .lt 19, 3) := by decide +kernel
theorem d_F_wrong_4 : decode (z_c m_F_wrong) 4 = .ok (.iload_n 1, 1) := by decide +kernel
theorem d_F_wrong_5 : decode (z_c m_F_wrong) 5 = .ok (.bipush 12, 2) := by decide +kernel
theorem d_F_wrong_7 : decode (z_c m_F_wrong) 7 = .ok (.if_icmp .gt 13, 3) := by decide +kernel
theorem d_F_wrong_10 : decode (z_c m_F_wrong) 10 = .ok (.iload_n 2, 1) := by decide +kernel
theorem d_F_wrong_11 : decode (z_c m_F_wrong) 11 = .ok (.ifCond .lt 9, 3) := by decide +kernel
theorem d_F_wrong_14 : decode (z_c m_F_wrong) 14 = .ok (.iload_n 2, 1) := by decide +kernel
theorem d_F_wrong_15 : decode (z_c m_F_wrong) 15 = .ok (.bipush 12, 2) := by decide +kernel
theorem d_F_wrong_17 : decode (z_c m_F_wrong) 17 = .ok (.if_icmp .le 9, 3) := by decide +kernel
theorem d_F_wrong_20 : decode (z_c m_F_wrong) 20 = .ok (.aload_n 0, 1) := by decide +kernel
theorem d_F_wrong_21 : decode (z_c m_F_wrong) 21 = .ok (.iconst 1, 1) := by decide +kernel
theorem d_F_wrong_22 : decode (z_c m_F_wrong) 22 = .ok (.invokevirtual 102, 3) := by decide +kernel
theorem d_F_wrong_25 : decode (z_c m_F_wrong) 25 = .ok (.ireturn, 1) := by decide +kernel
theorem d_F_wrong_26 : decode (z_c m_F_wrong) 26 = .ok (.lconst 1, 1) := by decide +kernel
theorem d_F_wrong_27 : decode (z_c m_F_wrong) 27 = .ok (.lstore_n 3, 1) := by decide +kernel
theorem d_F_wrong_28 : decode (z_c m_F_wrong) 28 = .ok (.lconst 0, 1) := by decide +kernel
theorem d_F_wrong_29 : decode (z_c m_F_wrong) 29 = .ok (.lstore 5, 2) := by decide +kernel
theorem d_F_wrong_31 : decode (z_c m_F_wrong) 31 = .ok (.iconst 0, 1) := by decide +kernel
theorem d_F_wrong_32 : decode (z_c m_F_wrong) 32 = .ok (.istore 7, 2) := by decide +kernel
theorem d_F_wrong_34 : decode (z_c m_F_wrong) 34 = .ok (.iload 7, 2) := by decide +kernel
theorem d_F_wrong_36 : decode (z_c m_F_wrong) 36 = .ok (.iload_n 1, 1) := by decide +kernel
theorem d_F_wrong_37 : decode (z_c m_F_wrong) 37 = .ok (.if_icmp .gt 68, 3) := by decide +kernel
theorem d_F_wrong_40 : decode (z_c m_F_wrong) 40 = .ok (.iload 7, 2) := by decide +kernel
theorem d_F_wrong_42 : decode (z_c m_F_wrong) 42 = .ok (.iload_n 2, 1) := by decide +kernel
theorem d_F_wrong_43 : decode (z_c m_F_wrong) 43 = .ok (.if_icmp .lt 42, 3) := by decide +kernel
theorem d_F_wrong_46 : decode (z_c m_F_wrong) 46 = .ok (.lload 5, 2) := by decide +kernel
theorem d_F_wrong_48 : decode (z_c m_F_wrong) 48 = .ok (.lload_n 3, 1) := by decide +kernel
theorem d_F_wrong_49 : decode (z_c m_F_wrong) 49 = .ok (.aload_n 0, 1) := by decide +kernel
theorem d_F_wrong_50 : decode (z_c m_F_wrong) 50 = .ok (.getfield 67, 3) := by decide +kernel
theorem d_F_wrong_53 : decode (z_c m_F_wrong) 53 = .ok (.getfield 200, 3) := by decide +kernel
theorem d_F_wrong_56 : decode (z_c m_F_wrong) 56 = .ok (.i2l, 1) := by decide +kernel
theorem d_F_wrong_57 : decode (z_c m_F_wrong) 57 = .ok (.iload 7, 2) := by decide +kernel
theorem d_F_wrong_59 : decode (z_c m_F_wrong) 59 = .ok (.invokestatic 405, 3) := by decide +kernel
theorem d_F_wrong_62 : decode (z_c m_F_wrong) 62 = .ok (.lmul, 1) := by decide +kernel
theorem d_F_wrong_63 : decode (z_c m_F_wrong) 63 = .ok (.bipush 16, 2) := by decide +kernel
theorem d_F_wrong_65 : decode (z_c m_F_wrong) 65 = .ok (.aload_n 0, 1) := by decide +kernel
theorem d_F_wrong_66 : decode (z_c m_F_wrong) 66 = .ok (.getfield 67, 3) := by decide +kernel
theorem d_F_wrong_69 : decode (z_c m_F_wrong) 69 = .ok (.getfield 200, 3) := by decide +kernel
theorem d_F_wrong_72 : decode (z_c m_F_wrong) 72 = .ok (.isub, 1) := by decide +kernel
theorem d_F_wrong_73 : decode (z_c m_F_wrong) 73 = .ok (.i2l, 1) := by decide +kernel
theorem d_F_wrong_74 : decode (z_c m_F_wrong) 74 = .ok (.iload_n 1, 1) := by decide +kernel
theorem d_F_wrong_75 : decode (z_c m_F_wrong) 75 = .ok (.iload 7, 2) := by decide +kernel
theorem d_F_wrong_77 : decode (z_c m_F_wrong) 77 = .ok (.isub, 1) := by decide +kernel
theorem d_F_wrong_78 : decode (z_c m_F_wrong) 78 = .ok (.invokestatic 405, 3) := by decide +kernel
theorem d_F_wrong_81 : decode (z_c m_F_wrong) 81 = .ok (.lmul, 1) := by decide +kernel
theorem d_F_wrong_82 : decode (z_c m_F_wrong) 82 = .ok (.ladd, 1) := by decide +kernel
theorem d_F_wrong_83 : decode (z_c m_F_wrong) 83 = .ok (.lstore 5, 2) := by decide +kernel
theorem d_F_wrong_85 : decode (z_c m_F_wrong) 85 = .ok (.lload_n 3, 1) := by decide +kernel
theorem d_F_wrong_86 : decode (z_c m_F_wrong) 86 = .ok (.iload_n 1, 1) := by decide +kernel
theorem d_F_wrong_87 : decode (z_c m_F_wrong) 87 = .ok (.iload 7, 2) := by decide +kernel
theorem d_F_wrong_89 : decode (z_c m_F_wrong) 89 = .ok (.isub, 1) := by decide +kernel
theorem d_F_wrong_90 : decode (z_c m_F_wrong) 90 = .ok (.i2l, 1) := by decide +kernel
theorem d_F_wrong_91 : decode (z_c m_F_wrong) 91 = .ok (.lmul, 1) := by decide +kernel
theorem d_F_wrong_92 : decode (z_c m_F_wrong) 92 = .ok (.iload 7, 2) := by decide +kernel
theorem d_F_wrong_94 : decode (z_c m_F_wrong) 94 = .ok (.iconst 1, 1) := by decide +kernel
theorem d_F_wrong_95 : decode (z_c m_F_wrong) 95 = .ok (.iadd, 1) := by decide +kernel
theorem d_F_wrong_96 : decode (z_c m_F_wrong) 96 = .ok (.i2l, 1) := by decide +kernel
theorem d_F_wrong_97 : decode (z_c m_F_wrong) 97 = .ok (.ldiv, 1) := by decide +kernel
theorem d_F_wrong_98 : decode (z_c m_F_wrong) 98 = .ok (.lstore_n 3, 1) := by decide +kernel
theorem d_F_wrong_99 : decode (z_c m_F_wrong) 99 = .ok (.iinc 7 1, 3) := by decide +kernel
theorem d_F_wrong_102 : decode (z_c m_F_wrong) 102 = .ok (.goto (-68), 3) := by decide +kernel
theorem d_F_wrong_105 : decode (z_c m_F_wrong) 105 = .ok (.aload_n 0, 1) := by decide +kernel
theorem d_F_wrong_106 : decode (z_c m_F_wrong) 106 = .ok (.lload 5, 2) := by decide +kernel
theorem d_F_wrong_108 : decode (z_c m_F_wrong) 108 = .ok (.ldc2_w 409, 3) := by decide +kernel
theorem d_F_wrong_111 : decode (z_c m_F_wrong) 111 = .ok (.iload_n 1, 1) := by decide +kernel
theorem d_F_wrong_112 : decode (z_c m_F_wrong) 112 = .ok (.invokestatic 405, 3) := by decide +kernel
theorem d_F_wrong_115 : decode (z_c m_F_wrong) 115 = .ok (.invokevirtual 233, 3) := by decide +kernel
theorem d_F_wrong_118 : decode (z_c m_F_wrong) 118 = .ok (.ireturn, 1) := by decide +kernel
abbrev L_F_wrong_34 (X : z_X) (N : Nat) (σ : z_G) (x1 x2 x3 x5 x7 : Int) (g : z_G) (Q : z_P) : Prop := z_U X 3 m_F_wrong 34 [(0, (2, 0)), (1, (0, x1)), (2, (0, x2)), (3, (1, x3)), (5, (1, x5)), (7, (0, x7))] [] N σ g Q
set_option maxRecDepth 8000 in
theorem b_F_wrong_0 {X : z_X} {N : Nat} {σ g : z_G} {Q : z_P} {a1 a2 : Int} (hx : z_lay X N σ 0 z_SF z_RF) (h : ((a1 < 0) → Q 0 (z_up g 0 0 1)) ∧ (¬ (a1 < 0) → (((12 < a1) → Q 0 (z_up g 0 0 1)) ∧ (¬ (12 < a1) → (((a2 < 0) → Q 0 (z_up g 0 0 1)) ∧ (¬ (a2 < 0) → (((a2 ≤ 12) → L_F_wrong_34 X N σ a1 a2 1 0 0 g Q) ∧ (¬ (a2 ≤ 12) → Q 0 (z_up g 0 0 1))))))))) : z_O X 3 m_F_wrong [(2, 0), (0, a1), (0, a2)] N σ g Q := by
  refine z_Oenter mi_F_wrong rfl (fun _ => ?_)
  show z_U X 3 m_F_wrong 0 [(0, (2, 0)), (1, (0, a1)), (2, (0, a2))] [] N σ g Q
  refine z_iload_n (i := 1) 1 d_F_wrong_0 rfl rfl ?_
  refine z_if_lt (tgt := 20) d_F_wrong_1 (by decide) (fun c1 => ?_) (fun c1 => ?_)
  · have h := h.1 c1
    refine z_aload_n (i := 0) (c := 0) 0 d_F_wrong_20 rfl rfl rfl ?_
    refine z_iconst (n := 1) d_F_wrong_21 (by decide) ?_
    refine z_cV (c := 0) (as := [(0, 1)]) (d' := 1) (st := []) d_F_wrong_22 mi_F_refuse ml_F_102 mv_F_refuse se_F_refuse rfl rfl rfl rfl (ks_F_0 hx) rfl rfl (kl_F_0 hx) rfl rfl (b_F_refuse_0 hx ?_)
    intro _
    show z_U X 3 m_F_wrong 25 [(0, (2, 0)), (1, (0, a1)), (2, (0, a2))] [(0, 0)] N σ (z_up g 0 0 1) Q
    exact z_zret d_F_wrong_25 rfl (by decide) (by decide) (by decide) ⟨rfl, rfl, h⟩
  · have h := h.2 c1
    refine z_iload_n (i := 1) 1 d_F_wrong_4 rfl rfl ?_
    refine z_bipush (n := 12) d_F_wrong_5 (by decide) (by decide) ?_
    refine z_icmp_gt (tgt := 20) d_F_wrong_7 (by decide) (fun c2 => ?_) (fun c2 => ?_)
    · have h := h.1 c2
      refine z_aload_n (i := 0) (c := 0) 0 d_F_wrong_20 rfl rfl rfl ?_
      refine z_iconst (n := 1) d_F_wrong_21 (by decide) ?_
      refine z_cV (c := 0) (as := [(0, 1)]) (d' := 1) (st := []) d_F_wrong_22 mi_F_refuse ml_F_102 mv_F_refuse se_F_refuse rfl rfl rfl rfl (ks_F_0 hx) rfl rfl (kl_F_0 hx) rfl rfl (b_F_refuse_0 hx ?_)
      intro _
      show z_U X 3 m_F_wrong 25 [(0, (2, 0)), (1, (0, a1)), (2, (0, a2))] [(0, 0)] N σ (z_up g 0 0 1) Q
      exact z_zret d_F_wrong_25 rfl (by decide) (by decide) (by decide) ⟨rfl, rfl, h⟩
    · have h := h.2 c2
      refine z_iload_n (i := 2) 2 d_F_wrong_10 rfl rfl ?_
      refine z_if_lt (tgt := 20) d_F_wrong_11 (by decide) (fun c3 => ?_) (fun c3 => ?_)
      · have h := h.1 c3
        refine z_aload_n (i := 0) (c := 0) 0 d_F_wrong_20 rfl rfl rfl ?_
        refine z_iconst (n := 1) d_F_wrong_21 (by decide) ?_
        refine z_cV (c := 0) (as := [(0, 1)]) (d' := 1) (st := []) d_F_wrong_22 mi_F_refuse ml_F_102 mv_F_refuse se_F_refuse rfl rfl rfl rfl (ks_F_0 hx) rfl rfl (kl_F_0 hx) rfl rfl (b_F_refuse_0 hx ?_)
        intro _
        show z_U X 3 m_F_wrong 25 [(0, (2, 0)), (1, (0, a1)), (2, (0, a2))] [(0, 0)] N σ (z_up g 0 0 1) Q
        exact z_zret d_F_wrong_25 rfl (by decide) (by decide) (by decide) ⟨rfl, rfl, h⟩
      · have h := h.2 c3
        refine z_iload_n (i := 2) 2 d_F_wrong_14 rfl rfl ?_
        refine z_bipush (n := 12) d_F_wrong_15 (by decide) (by decide) ?_
        refine z_icmp_le (tgt := 26) d_F_wrong_17 (by decide) (fun c4 => ?_) (fun c4 => ?_)
        · have h := h.1 c4
          refine z_lconst (v := 1) d_F_wrong_26 (by decide) (by decide) ?_
          refine z_lstore_n (i := 3) (ls' := [(3, (1, 1)), (0, (2, 0)), (1, (0, a1)), (2, (0, a2))]) d_F_wrong_27 rfl rfl rfl ?_
          refine z_lconst (v := 0) d_F_wrong_28 (by decide) (by decide) ?_
          refine z_lstore (ls' := [(5, (1, 0)), (3, (1, 1)), (0, (2, 0)), (1, (0, a1)), (2, (0, a2))]) d_F_wrong_29 rfl rfl ?_
          refine z_iconst (n := 0) d_F_wrong_31 (by decide) ?_
          refine z_istore (ls' := [(7, (0, 0)), (5, (1, 0)), (3, (1, 1)), (0, (2, 0)), (1, (0, a1)), (2, (0, a2))]) d_F_wrong_32 rfl rfl ?_
          refine z_sub (ls' := [(0, (2, 0)), (1, (0, a1)), (2, (0, a2)), (3, (1, 1)), (5, (1, 0)), (7, (0, 0))]) [3, 4, 5, 2, 1, 0] rfl ?_
          exact h
        · have h := h.2 c4
          refine z_aload_n (i := 0) (c := 0) 0 d_F_wrong_20 rfl rfl rfl ?_
          refine z_iconst (n := 1) d_F_wrong_21 (by decide) ?_
          refine z_cV (c := 0) (as := [(0, 1)]) (d' := 1) (st := []) d_F_wrong_22 mi_F_refuse ml_F_102 mv_F_refuse se_F_refuse rfl rfl rfl rfl (ks_F_0 hx) rfl rfl (kl_F_0 hx) rfl rfl (b_F_refuse_0 hx ?_)
          intro _
          show z_U X 3 m_F_wrong 25 [(0, (2, 0)), (1, (0, a1)), (2, (0, a2))] [(0, 0)] N σ (z_up g 0 0 1) Q
          exact z_zret d_F_wrong_25 rfl (by decide) (by decide) (by decide) ⟨rfl, rfl, h⟩
set_option maxRecDepth 8000 in
theorem b_F_wrong_34 {X : z_X} {N : Nat} {σ g : z_G} {Q : z_P} {x1 x2 x3 x5 x7 : Int} (hx : z_lay X N σ 0 z_SF z_RF) (h : ((x1 < x7) → (z_O X 1 m_F_power [(1, 16), (0, x1)] N σ g (fun r0 g0 => (z_O X 2 m_F_tell [(2, 0), (1, x5), (1, r0)] N σ g0 (fun r1 g1 => (r1 = 0 ∨ r1 = 1) → Q r1 g1))))) ∧ (¬ (x1 < x7) → (((x7 < x2) → ((-2147483648 ≤ (x1 - x7) ∧ (x1 - x7) ≤ 2147483647) ∧ ((-9223372036854775808 ≤ (x3 * (x1 - x7)) ∧ (x3 * (x1 - x7)) ≤ 9223372036854775807) ∧ ((-2147483648 ≤ (x7 + 1) ∧ (x7 + 1) ≤ 2147483647) ∧ ((0 < (x7 + 1)) ∧ L_F_wrong_34 X N σ x1 x2 (Int.tdiv (x3 * (x1 - x7)) (x7 + 1)) x5 (x7 + 1) g Q))))) ∧ (¬ (x7 < x2) → (z_O X 1 m_F_power [(1, g 23 1), (0, x7)] N σ g (fun r2 g2 => ((-9223372036854775808 ≤ (x3 * r2) ∧ (x3 * r2) ≤ 9223372036854775807) ∧ ((-2147483648 ≤ (16 - (g2 23 1)) ∧ (16 - (g2 23 1)) ≤ 2147483647) ∧ ((-2147483648 ≤ (x1 - x7) ∧ (x1 - x7) ≤ 2147483647) ∧ (z_O X 1 m_F_power [(1, 16 - (g2 23 1)), (0, x1 - x7)] N σ g2 (fun r3 g3 => ((-9223372036854775808 ≤ ((x3 * r2) * r3) ∧ ((x3 * r2) * r3) ≤ 9223372036854775807) ∧ ((-9223372036854775808 ≤ (x5 + ((x3 * r2) * r3)) ∧ (x5 + ((x3 * r2) * r3)) ≤ 9223372036854775807) ∧ ((-9223372036854775808 ≤ (x3 * (x1 - x7)) ∧ (x3 * (x1 - x7)) ≤ 9223372036854775807) ∧ ((-2147483648 ≤ (x7 + 1) ∧ (x7 + 1) ≤ 2147483647) ∧ ((0 < (x7 + 1)) ∧ L_F_wrong_34 X N σ x1 x2 (Int.tdiv (x3 * (x1 - x7)) (x7 + 1)) (x5 + ((x3 * r2) * r3)) (x7 + 1) g3 Q)))))))))))))))) : L_F_wrong_34 X N σ x1 x2 x3 x5 x7 g Q := by
  refine z_iload 5 d_F_wrong_34 rfl ?_
  refine z_iload_n (i := 1) 1 d_F_wrong_36 rfl rfl ?_
  refine z_icmp_gt (tgt := 105) d_F_wrong_37 (by decide) (fun c1 => ?_) (fun c1 => ?_)
  · have h := h.1 c1
    refine z_aload_n (i := 0) (c := 0) 0 d_F_wrong_105 rfl rfl rfl ?_
    refine z_lload 4 d_F_wrong_106 rfl ?_
    refine z_ldc2 (v := 16) d_F_wrong_108 kc_F_409 (by decide) ?_
    refine z_iload_n (i := 1) 1 d_F_wrong_111 rfl rfl ?_
    refine z_cS (as := [(1, 16), (0, x1)]) (d' := 1) (st := [(1, x5), (2, 0)]) d_F_wrong_112 mi_F_power ml_F_405 ms_F_power rfl rfl rfl rfl rfl (z_Omono h (fun r0 g0 _ h hro => ?_))
    show z_U X 3 m_F_wrong 115 [(0, (2, 0)), (1, (0, x1)), (2, (0, x2)), (3, (1, x3)), (5, (1, x5)), (7, (0, x7))] [(1, r0), (1, x5), (2, 0)] N σ g0 Q
    refine z_cV (c := 0) (as := [(1, x5), (1, r0)]) (d' := 2) (st := []) d_F_wrong_115 mi_F_tell ml_F_233 mv_F_tell se_F_tell rfl rfl rfl rfl (ks_F_0 hx) rfl rfl (kl_F_0 hx) rfl rfl (z_Omono h (fun r1 g1 _ h hro => ?_))
    have h := h (z_b01 hro)
    have hzr1 := z_b01 hro
    show z_U X 3 m_F_wrong 118 [(0, (2, 0)), (1, (0, x1)), (2, (0, x2)), (3, (1, x3)), (5, (1, x5)), (7, (0, x7))] [(0, r1)] N σ g1 Q
    exact z_zret d_F_wrong_118 rfl (by decide) (by decide) hzr1 ⟨rfl, rfl, h⟩
  · have h := h.2 c1
    refine z_iload 5 d_F_wrong_40 rfl ?_
    refine z_iload_n (i := 2) 2 d_F_wrong_42 rfl rfl ?_
    refine z_icmp_lt (tgt := 85) d_F_wrong_43 (by decide) (fun c2 => ?_) (fun c2 => ?_)
    · have h := h.1 c2
      refine z_lload_n (i := 3) 3 d_F_wrong_85 rfl rfl ?_
      refine z_iload_n (i := 1) 1 d_F_wrong_86 rfl rfl ?_
      refine z_iload 5 d_F_wrong_87 rfl ?_
      obtain ⟨c3, h⟩ := h
      refine z_isub d_F_wrong_89 c3 ?_
      refine z_i2l d_F_wrong_90 ?_
      obtain ⟨c4, h⟩ := h
      refine z_lmul d_F_wrong_91 c4 ?_
      refine z_iload 5 d_F_wrong_92 rfl ?_
      refine z_iconst (n := 1) d_F_wrong_94 (by decide) ?_
      obtain ⟨c5, h⟩ := h
      refine z_iadd d_F_wrong_95 c5 ?_
      refine z_i2l d_F_wrong_96 ?_
      obtain ⟨c6, h⟩ := h
      refine z_ldiv d_F_wrong_97 c6 ?_
      refine z_lstore_n (i := 3) (ls' := [(3, (1, Int.tdiv (x3 * (x1 - x7)) (x7 + 1))), (0, (2, 0)), (1, (0, x1)), (2, (0, x2)), (5, (1, x5)), (7, (0, x7))]) d_F_wrong_98 rfl rfl rfl ?_
      refine z_iinc (n := 1) (ls' := [(7, (0, x7 + 1)), (3, (1, Int.tdiv (x3 * (x1 - x7)) (x7 + 1))), (0, (2, 0)), (1, (0, x1)), (2, (0, x2)), (5, (1, x5))]) 5 d_F_wrong_99 rfl c5 rfl rfl ?_
      refine z_goto (tgt := 34) d_F_wrong_102 (by decide) ?_
      refine z_sub (ls' := [(0, (2, 0)), (1, (0, x1)), (2, (0, x2)), (3, (1, Int.tdiv (x3 * (x1 - x7)) (x7 + 1))), (5, (1, x5)), (7, (0, x7 + 1))]) [2, 3, 4, 1, 5, 0] rfl ?_
      exact h
    · have h := h.2 c2
      refine z_lload 4 d_F_wrong_46 rfl ?_
      refine z_lload_n (i := 3) 3 d_F_wrong_48 rfl rfl ?_
      refine z_aload_n (i := 0) (c := 0) 0 d_F_wrong_49 rfl rfl rfl ?_
      refine z_getr (c := 0) (kI := 11) (r2 := 23) d_F_wrong_50 fd_F_board fl_F_67 rfl rfl rfl (ks_F_0 hx) (kl_F_0 hx) (kr_F_0_11 hx) ?_
      refine z_geti (c := 23) (kI := 1) d_F_wrong_53 fd_Bd_odds fl_F_200 (Or.inl rfl) rfl rfl (ks_F_23 hx) (kl_F_23 hx) ?_
      refine z_i2l d_F_wrong_56 ?_
      refine z_iload 5 d_F_wrong_57 rfl ?_
      refine z_cS (as := [(1, g 23 1), (0, x7)]) (d' := 1) (st := [(1, x3), (1, x5)]) d_F_wrong_59 mi_F_power ml_F_405 ms_F_power rfl rfl rfl rfl rfl (z_Omono h (fun r2 g2 _ h hro => ?_))
      show z_U X 3 m_F_wrong 62 [(0, (2, 0)), (1, (0, x1)), (2, (0, x2)), (3, (1, x3)), (5, (1, x5)), (7, (0, x7))] [(1, r2), (1, x3), (1, x5)] N σ g2 Q
      obtain ⟨c7, h⟩ := h
      refine z_lmul d_F_wrong_62 c7 ?_
      refine z_bipush (n := 16) d_F_wrong_63 (by decide) (by decide) ?_
      refine z_aload_n (i := 0) (c := 0) 0 d_F_wrong_65 rfl rfl rfl ?_
      refine z_getr (c := 0) (kI := 11) (r2 := 23) d_F_wrong_66 fd_F_board fl_F_67 rfl rfl rfl (ks_F_0 hx) (kl_F_0 hx) (kr_F_0_11 hx) ?_
      refine z_geti (c := 23) (kI := 1) d_F_wrong_69 fd_Bd_odds fl_F_200 (Or.inl rfl) rfl rfl (ks_F_23 hx) (kl_F_23 hx) ?_
      obtain ⟨c8, h⟩ := h
      refine z_isub d_F_wrong_72 c8 ?_
      refine z_i2l d_F_wrong_73 ?_
      refine z_iload_n (i := 1) 1 d_F_wrong_74 rfl rfl ?_
      refine z_iload 5 d_F_wrong_75 rfl ?_
      obtain ⟨c9, h⟩ := h
      refine z_isub d_F_wrong_77 c9 ?_
      refine z_cS (as := [(1, 16 - (g2 23 1)), (0, x1 - x7)]) (d' := 1) (st := [(1, x3 * r2), (1, x5)]) d_F_wrong_78 mi_F_power ml_F_405 ms_F_power rfl rfl rfl rfl rfl (z_Omono h (fun r3 g3 _ h hro => ?_))
      show z_U X 3 m_F_wrong 81 [(0, (2, 0)), (1, (0, x1)), (2, (0, x2)), (3, (1, x3)), (5, (1, x5)), (7, (0, x7))] [(1, r3), (1, x3 * r2), (1, x5)] N σ g3 Q
      obtain ⟨c10, h⟩ := h
      refine z_lmul d_F_wrong_81 c10 ?_
      obtain ⟨c11, h⟩ := h
      refine z_ladd d_F_wrong_82 c11 ?_
      refine z_lstore (ls' := [(5, (1, x5 + ((x3 * r2) * r3))), (0, (2, 0)), (1, (0, x1)), (2, (0, x2)), (3, (1, x3)), (7, (0, x7))]) d_F_wrong_83 rfl rfl ?_
      refine z_lload_n (i := 3) 4 d_F_wrong_85 rfl rfl ?_
      refine z_iload_n (i := 1) 2 d_F_wrong_86 rfl rfl ?_
      refine z_iload 5 d_F_wrong_87 rfl ?_
      refine z_isub d_F_wrong_89 c9 ?_
      refine z_i2l d_F_wrong_90 ?_
      obtain ⟨c12, h⟩ := h
      refine z_lmul d_F_wrong_91 c12 ?_
      refine z_iload 5 d_F_wrong_92 rfl ?_
      refine z_iconst (n := 1) d_F_wrong_94 (by decide) ?_
      obtain ⟨c13, h⟩ := h
      refine z_iadd d_F_wrong_95 c13 ?_
      refine z_i2l d_F_wrong_96 ?_
      obtain ⟨c14, h⟩ := h
      refine z_ldiv d_F_wrong_97 c14 ?_
      refine z_lstore_n (i := 3) (ls' := [(3, (1, Int.tdiv (x3 * (x1 - x7)) (x7 + 1))), (5, (1, x5 + ((x3 * r2) * r3))), (0, (2, 0)), (1, (0, x1)), (2, (0, x2)), (7, (0, x7))]) d_F_wrong_98 rfl rfl rfl ?_
      refine z_iinc (n := 1) (ls' := [(7, (0, x7 + 1)), (3, (1, Int.tdiv (x3 * (x1 - x7)) (x7 + 1))), (5, (1, x5 + ((x3 * r2) * r3))), (0, (2, 0)), (1, (0, x1)), (2, (0, x2))]) 5 d_F_wrong_99 rfl c13 rfl rfl ?_
      refine z_goto (tgt := 34) d_F_wrong_102 (by decide) ?_
      refine z_sub (ls' := [(0, (2, 0)), (1, (0, x1)), (2, (0, x2)), (3, (1, Int.tdiv (x3 * (x1 - x7)) (x7 + 1))), (5, (1, x5 + ((x3 * r2) * r3))), (7, (0, x7 + 1))]) [3, 4, 5, 1, 2, 0] rfl ?_
      exact h
theorem d_Pi_manyBelow_0 : decode (z_c m_Pi_manyBelow) 0 = .ok (.iconst 0, 1) := by decide +kernel
theorem d_Pi_manyBelow_1 : decode (z_c m_Pi_manyBelow) 1 = .ok (.istore_n 2, 1) := by decide +kernel
theorem d_Pi_manyBelow_2 : decode (z_c m_Pi_manyBelow) 2 = .ok (.iconst 0, 1) := by decide +kernel
theorem d_Pi_manyBelow_3 : decode (z_c m_Pi_manyBelow) 3 = .ok (.istore_n 3, 1) := by decide +kernel
theorem d_Pi_manyBelow_4 : decode (z_c m_Pi_manyBelow) 4 = .ok (.iload_n 3, 1) := by decide +kernel
theorem d_Pi_manyBelow_5 : decode (z_c m_Pi_manyBelow) 5 = .ok (.aload_n 0, 1) := by decide +kernel
theorem d_Pi_manyBelow_6 : decode (z_c m_Pi_manyBelow) 6 = .ok (.getfield 27, 3) := by decide +kernel
theorem d_Pi_manyBelow_9 : decode (z_c m_Pi_manyBelow) 9 = .ok (.if_icmp .ge 21, 3) := by decide +kernel
theorem d_Pi_manyBelow_12 : decode (z_c m_Pi_manyBelow) 12 = .ok (.aload_n 0, 1) := by decide +kernel
theorem d_Pi_manyBelow_13 : decode (z_c m_Pi_manyBelow) 13 = .ok (.iload_n 3, 1) := by decide +kernel
theorem d_Pi_manyBelow_14 : decode (z_c m_Pi_manyBelow) 14 = .ok (.iload_n 1, 1) := by decide +kernel
theorem d_Pi_manyBelow_15 : decode (z_c m_Pi_manyBelow) 15 = .ok (.invokevirtual 46, 3) := by decide +kernel
theorem d_Pi_manyBelow_18 : decode (z_c m_Pi_manyBelow) 18 = .ok (.ifCond .eq 6, 3) := by decide +kernel
theorem d_Pi_manyBelow_21 : decode (z_c m_Pi_manyBelow) 21 = .ok (.iinc 2 1, 3) := by decide +kernel
theorem d_Pi_manyBelow_24 : decode (z_c m_Pi_manyBelow) 24 = .ok (.iinc 3 1, 3) := by decide +kernel
theorem d_Pi_manyBelow_27 : decode (z_c m_Pi_manyBelow) 27 = .ok (.goto (-23), 3) := by decide +kernel
theorem d_Pi_manyBelow_30 : decode (z_c m_Pi_manyBelow) 30 = .ok (.iload_n 2, 1) := by decide +kernel
theorem d_Pi_manyBelow_31 : decode (z_c m_Pi_manyBelow) 31 = .ok (.ireturn, 1) := by decide +kernel
abbrev L_Pi_manyBelow_4 (X : z_X) (N : Nat) (σ : z_G) (x1 x2 x3 : Int) (o : Nat) (g : z_G) (Q : z_P) : Prop := z_U X 3 m_Pi_manyBelow 4 [(0, (2, ((o : Nat) : Int))), (1, (0, x1)), (2, (0, x2)), (3, (0, x3))] [] N σ g Q
set_option maxRecDepth 8000 in
theorem b_Pi_manyBelow_0 {X : z_X} {N : Nat} {σ g : z_G} {Q : z_P} {a1 : Int} {o : Nat} (ho : z_lay X N σ o z_SPi z_RPi) (h : L_Pi_manyBelow_4 X N σ a1 0 0 o g Q) : z_O X 3 m_Pi_manyBelow [(2, ((o : Nat) : Int)), (0, a1)] N σ g Q := by
  refine z_Oenter mi_Pi_manyBelow rfl (fun _ => ?_)
  show z_U X 3 m_Pi_manyBelow 0 [(0, (2, ((o : Nat) : Int))), (1, (0, a1))] [] N σ g Q
  refine z_iconst (n := 0) d_Pi_manyBelow_0 (by decide) ?_
  refine z_istore_n (i := 2) (ls' := [(2, (0, 0)), (0, (2, ((o : Nat) : Int))), (1, (0, a1))]) d_Pi_manyBelow_1 rfl rfl rfl ?_
  refine z_iconst (n := 0) d_Pi_manyBelow_2 (by decide) ?_
  refine z_istore_n (i := 3) (ls' := [(3, (0, 0)), (2, (0, 0)), (0, (2, ((o : Nat) : Int))), (1, (0, a1))]) d_Pi_manyBelow_3 rfl rfl rfl ?_
  refine z_sub (ls' := [(0, (2, ((o : Nat) : Int))), (1, (0, a1)), (2, (0, 0)), (3, (0, 0))]) [2, 3, 1, 0] rfl ?_
  exact h
set_option maxRecDepth 8000 in
theorem b_Pi_manyBelow_4 {X : z_X} {N : Nat} {σ g : z_G} {Q : z_P} {x1 x2 x3 : Int} {o : Nat} (ho : z_lay X N σ o z_SPi z_RPi) (h : (((g o 3) ≤ x3) → Q x2 g) ∧ (¬ ((g o 3) ≤ x3) → ((0 ≤ x3 ∧ x3 < 12) ∧ ((0 ≤ x1 ∧ x1 < 12) ∧ ((-9223372036854775808 ≤ ((g (o + 1) x3) * (g (o + 2) x1)) ∧ ((g (o + 1) x3) * (g (o + 2) x1)) ≤ 9223372036854775807) ∧ ((-9223372036854775808 ≤ ((g (o + 1) x1) * (g (o + 2) x3)) ∧ ((g (o + 1) x1) * (g (o + 2) x3)) ≤ 9223372036854775807) ∧ ((-9223372036854775808 ≤ (((g (o + 1) x3) * (g (o + 2) x1)) - ((g (o + 1) x1) * (g (o + 2) x3))) ∧ (((g (o + 1) x3) * (g (o + 2) x1)) - ((g (o + 1) x1) * (g (o + 2) x3))) ≤ 9223372036854775807) ∧ (((0 ≤ (((g (o + 1) x3) * (g (o + 2) x1)) - ((g (o + 1) x1) * (g (o + 2) x3)))) → ((-2147483648 ≤ (x3 + 1) ∧ (x3 + 1) ≤ 2147483647) ∧ L_Pi_manyBelow_4 X N σ x1 x2 (x3 + 1) o g Q)) ∧ (¬ (0 ≤ (((g (o + 1) x3) * (g (o + 2) x1)) - ((g (o + 1) x1) * (g (o + 2) x3)))) → ((-2147483648 ≤ (x2 + 1) ∧ (x2 + 1) ≤ 2147483647) ∧ ((-2147483648 ≤ (x3 + 1) ∧ (x3 + 1) ≤ 2147483647) ∧ L_Pi_manyBelow_4 X N σ x1 (x2 + 1) (x3 + 1) o g Q))))))))))) : L_Pi_manyBelow_4 X N σ x1 x2 x3 o g Q := by
  refine z_iload_n (i := 3) 3 d_Pi_manyBelow_4 rfl rfl ?_
  refine z_aload_n (i := 0) (c := o) 0 d_Pi_manyBelow_5 rfl rfl rfl ?_
  refine z_geti (c := o) (kI := 3) d_Pi_manyBelow_6 fd_Pi_many fl_Pi_27 (Or.inl rfl) rfl rfl (ks_Pi_0 ho) (kl_Pi_0 ho) ?_
  refine z_icmp_ge (tgt := 30) d_Pi_manyBelow_9 (by decide) (fun c1 => ?_) (fun c1 => ?_)
  · have h := h.1 c1
    refine z_iload_n (i := 2) 2 d_Pi_manyBelow_30 rfl rfl ?_
    exact z_iret d_Pi_manyBelow_31 rfl (by decide) (by decide) ⟨rfl, rfl, h⟩
  · have h := h.2 c1
    refine z_aload_n (i := 0) (c := o) 0 d_Pi_manyBelow_12 rfl rfl rfl ?_
    refine z_iload_n (i := 3) 3 d_Pi_manyBelow_13 rfl rfl ?_
    refine z_iload_n (i := 1) 1 d_Pi_manyBelow_14 rfl rfl ?_
    refine z_cV (c := o) (as := [(0, x3), (0, x1)]) (d' := 2) (st := []) d_Pi_manyBelow_15 mi_Pi_isLess ml_Pi_46 mv_Pi_isLess se_Pi_isLess rfl rfl rfl rfl (ks_Pi_0 ho) rfl rfl (kl_Pi_0 ho) rfl rfl (b_Pi_isLess_0 ho ?_)
    obtain ⟨c2, h⟩ := h
    refine ⟨c2, ?_⟩
    obtain ⟨c3, h⟩ := h
    refine ⟨c3, ?_⟩
    obtain ⟨c4, h⟩ := h
    refine ⟨c4, ?_⟩
    obtain ⟨c5, h⟩ := h
    refine ⟨c5, ?_⟩
    obtain ⟨c6, h⟩ := h
    refine ⟨c6, ?_⟩
    refine ⟨fun c7 => ?_, fun c7 => ?_⟩
    · have h := h.1 c7
      intro _
      show z_U X 3 m_Pi_manyBelow 18 [(0, (2, ((o : Nat) : Int))), (1, (0, x1)), (2, (0, x2)), (3, (0, x3))] [(0, 0)] N σ g Q
      refine z_if_eq (tgt := 24) d_Pi_manyBelow_18 (by decide) (fun _ => ?_) (fun c => absurd (by decide) c)
      obtain ⟨c8, h⟩ := h
      refine z_iinc (n := 1) (ls' := [(3, (0, x3 + 1)), (0, (2, ((o : Nat) : Int))), (1, (0, x1)), (2, (0, x2))]) 3 d_Pi_manyBelow_24 rfl c8 rfl rfl ?_
      refine z_goto (tgt := 4) d_Pi_manyBelow_27 (by decide) ?_
      refine z_sub (ls' := [(0, (2, ((o : Nat) : Int))), (1, (0, x1)), (2, (0, x2)), (3, (0, x3 + 1))]) [1, 2, 3, 0] rfl ?_
      exact h
    · have h := h.2 c7
      intro _
      show z_U X 3 m_Pi_manyBelow 18 [(0, (2, ((o : Nat) : Int))), (1, (0, x1)), (2, (0, x2)), (3, (0, x3))] [(0, 1)] N σ g Q
      refine z_if_eq (tgt := 24) d_Pi_manyBelow_18 (by decide) (fun c => absurd c (by decide)) (fun _ => ?_)
      obtain ⟨c9, h⟩ := h
      refine z_iinc (n := 1) (ls' := [(2, (0, x2 + 1)), (0, (2, ((o : Nat) : Int))), (1, (0, x1)), (3, (0, x3))]) 2 d_Pi_manyBelow_21 rfl c9 rfl rfl ?_
      obtain ⟨c10, h⟩ := h
      refine z_iinc (n := 1) (ls' := [(3, (0, x3 + 1)), (2, (0, x2 + 1)), (0, (2, ((o : Nat) : Int))), (1, (0, x1))]) 3 d_Pi_manyBelow_24 rfl c10 rfl rfl ?_
      refine z_goto (tgt := 4) d_Pi_manyBelow_27 (by decide) ?_
      refine z_sub (ls' := [(0, (2, ((o : Nat) : Int))), (1, (0, x1)), (2, (0, x2 + 1)), (3, (0, x3 + 1))]) [2, 3, 1, 0] rfl ?_
      exact h
theorem d_Pi_ofMostWeight_0 : decode (z_c m_Pi_ofMostWeight) 0 = .ok (.iconst (-1), 1) := by decide +kernel
theorem d_Pi_ofMostWeight_1 : decode (z_c m_Pi_ofMostWeight) 1 = .ok (.istore_n 1, 1) := by decide +kernel
theorem d_Pi_ofMostWeight_2 : decode (z_c m_Pi_ofMostWeight) 2 = .ok (.iconst 0, 1) := by decide +kernel
theorem d_Pi_ofMostWeight_3 : decode (z_c m_Pi_ofMostWeight) 3 = .ok (.istore_n 2, 1) := by decide +kernel
theorem d_Pi_ofMostWeight_4 : decode (z_c m_Pi_ofMostWeight) 4 = .ok (.iload_n 2, 1) := by decide +kernel
theorem d_Pi_ofMostWeight_5 : decode (z_c m_Pi_ofMostWeight) 5 = .ok (.aload_n 0, 1) := by decide +kernel
theorem d_Pi_ofMostWeight_6 : decode (z_c m_Pi_ofMostWeight) 6 = .ok (.getfield 27, 3) := by decide +kernel
theorem d_Pi_ofMostWeight_9 : decode (z_c m_Pi_ofMostWeight) 9 = .ok (.if_icmp .ge 54, 3) := by decide +kernel
theorem d_Pi_ofMostWeight_12 : decode (z_c m_Pi_ofMostWeight) 12 = .ok (.iload_n 1, 1) := by decide +kernel
theorem d_Pi_ofMostWeight_13 : decode (z_c m_Pi_ofMostWeight) 13 = .ok (.ifCond .lt 42, 3) := by decide +kernel
theorem d_Pi_ofMostWeight_16 : decode (z_c m_Pi_ofMostWeight) 16 = .ok (.aload_n 0, 1) := by decide +kernel
theorem d_Pi_ofMostWeight_17 : decode (z_c m_Pi_ofMostWeight) 17 = .ok (.getfield 18, 3) := by decide +kernel
theorem d_Pi_ofMostWeight_20 : decode (z_c m_Pi_ofMostWeight) 20 = .ok (.iload_n 2, 1) := by decide +kernel
theorem d_Pi_ofMostWeight_21 : decode (z_c m_Pi_ofMostWeight) 21 = .ok (.iaload, 1) := by decide +kernel
theorem d_Pi_ofMostWeight_22 : decode (z_c m_Pi_ofMostWeight) 22 = .ok (.aload_n 0, 1) := by decide +kernel
theorem d_Pi_ofMostWeight_23 : decode (z_c m_Pi_ofMostWeight) 23 = .ok (.getfield 18, 3) := by decide +kernel
theorem d_Pi_ofMostWeight_26 : decode (z_c m_Pi_ofMostWeight) 26 = .ok (.iload_n 1, 1) := by decide +kernel
theorem d_Pi_ofMostWeight_27 : decode (z_c m_Pi_ofMostWeight) 27 = .ok (.iaload, 1) := by decide +kernel
theorem d_Pi_ofMostWeight_28 : decode (z_c m_Pi_ofMostWeight) 28 = .ok (.if_icmp .gt 27, 3) := by decide +kernel
theorem d_Pi_ofMostWeight_31 : decode (z_c m_Pi_ofMostWeight) 31 = .ok (.aload_n 0, 1) := by decide +kernel
theorem d_Pi_ofMostWeight_32 : decode (z_c m_Pi_ofMostWeight) 32 = .ok (.getfield 18, 3) := by decide +kernel
theorem d_Pi_ofMostWeight_35 : decode (z_c m_Pi_ofMostWeight) 35 = .ok (.iload_n 2, 1) := by decide +kernel
theorem d_Pi_ofMostWeight_36 : decode (z_c m_Pi_ofMostWeight) 36 = .ok (.iaload, 1) := by decide +kernel
theorem d_Pi_ofMostWeight_37 : decode (z_c m_Pi_ofMostWeight) 37 = .ok (.aload_n 0, 1) := by decide +kernel
theorem d_Pi_ofMostWeight_38 : decode (z_c m_Pi_ofMostWeight) 38 = .ok (.getfield 18, 3) := by decide +kernel
theorem d_Pi_ofMostWeight_41 : decode (z_c m_Pi_ofMostWeight) 41 = .ok (.iload_n 1, 1) := by decide +kernel
theorem d_Pi_ofMostWeight_42 : decode (z_c m_Pi_ofMostWeight) 42 = .ok (.iaload, 1) := by decide +kernel
theorem d_Pi_ofMostWeight_43 : decode (z_c m_Pi_ofMostWeight) 43 = .ok (.if_icmp .ne 14, 3) := by decide +kernel
theorem d_Pi_ofMostWeight_46 : decode (z_c m_Pi_ofMostWeight) 46 = .ok (.aload_n 0, 1) := by decide +kernel
theorem d_Pi_ofMostWeight_47 : decode (z_c m_Pi_ofMostWeight) 47 = .ok (.iload_n 2, 1) := by decide +kernel
theorem d_Pi_ofMostWeight_48 : decode (z_c m_Pi_ofMostWeight) 48 = .ok (.iload_n 1, 1) := by decide +kernel
theorem d_Pi_ofMostWeight_49 : decode (z_c m_Pi_ofMostWeight) 49 = .ok (.invokevirtual 46, 3) := by decide +kernel
theorem d_Pi_ofMostWeight_52 : decode (z_c m_Pi_ofMostWeight) 52 = .ok (.ifCond .eq 5, 3) := by decide +kernel
theorem d_Pi_ofMostWeight_55 : decode (z_c m_Pi_ofMostWeight) 55 = .ok (.iload_n 2, 1) := by decide +kernel
theorem d_Pi_ofMostWeight_56 : decode (z_c m_Pi_ofMostWeight) 56 = .ok (.istore_n 1, 1) := by decide +kernel
theorem d_Pi_ofMostWeight_57 : decode (z_c m_Pi_ofMostWeight) 57 = .ok (.iinc 2 1, 3) := by decide +kernel
theorem d_Pi_ofMostWeight_60 : decode (z_c m_Pi_ofMostWeight) 60 = .ok (.goto (-56), 3) := by decide +kernel
theorem d_Pi_ofMostWeight_63 : decode (z_c m_Pi_ofMostWeight) 63 = .ok (.iload_n 1, 1) := by decide +kernel
theorem d_Pi_ofMostWeight_64 : decode (z_c m_Pi_ofMostWeight) 64 = .ok (.ireturn, 1) := by decide +kernel
abbrev L_Pi_ofMostWeight_4 (X : z_X) (N : Nat) (σ : z_G) (x1 x2 : Int) (o : Nat) (g : z_G) (Q : z_P) : Prop := z_U X 3 m_Pi_ofMostWeight 4 [(0, (2, ((o : Nat) : Int))), (1, (0, x1)), (2, (0, x2))] [] N σ g Q
set_option maxRecDepth 8000 in
theorem b_Pi_ofMostWeight_0 {X : z_X} {N : Nat} {σ g : z_G} {Q : z_P} {o : Nat} (ho : z_lay X N σ o z_SPi z_RPi) (h : L_Pi_ofMostWeight_4 X N σ (-1) 0 o g Q) : z_O X 3 m_Pi_ofMostWeight [(2, ((o : Nat) : Int))] N σ g Q := by
  refine z_Oenter mi_Pi_ofMostWeight rfl (fun _ => ?_)
  show z_U X 3 m_Pi_ofMostWeight 0 [(0, (2, ((o : Nat) : Int)))] [] N σ g Q
  refine z_iconst (n := (-1)) d_Pi_ofMostWeight_0 (by decide) ?_
  refine z_istore_n (i := 1) (ls' := [(1, (0, (-1))), (0, (2, ((o : Nat) : Int)))]) d_Pi_ofMostWeight_1 rfl rfl rfl ?_
  refine z_iconst (n := 0) d_Pi_ofMostWeight_2 (by decide) ?_
  refine z_istore_n (i := 2) (ls' := [(2, (0, 0)), (1, (0, (-1))), (0, (2, ((o : Nat) : Int)))]) d_Pi_ofMostWeight_3 rfl rfl rfl ?_
  refine z_sub (ls' := [(0, (2, ((o : Nat) : Int))), (1, (0, (-1))), (2, (0, 0))]) [2, 1, 0] rfl ?_
  exact h
set_option maxRecDepth 8000 in
theorem b_Pi_ofMostWeight_4 {X : z_X} {N : Nat} {σ g : z_G} {Q : z_P} {x1 x2 : Int} {o : Nat} (ho : z_lay X N σ o z_SPi z_RPi) (h : (((g o 3) ≤ x2) → Q x1 g) ∧ (¬ ((g o 3) ≤ x2) → (((x1 < 0) → ((-2147483648 ≤ (x2 + 1) ∧ (x2 + 1) ≤ 2147483647) ∧ L_Pi_ofMostWeight_4 X N σ x2 (x2 + 1) o g Q)) ∧ (¬ (x1 < 0) → ((0 ≤ x2 ∧ x2 < 12) ∧ ((0 ≤ x1 ∧ x1 < 12) ∧ ((((g (o + 3) x1) < (g (o + 3) x2)) → ((-2147483648 ≤ (x2 + 1) ∧ (x2 + 1) ≤ 2147483647) ∧ L_Pi_ofMostWeight_4 X N σ x2 (x2 + 1) o g Q)) ∧ (¬ ((g (o + 3) x1) < (g (o + 3) x2)) → ((((g (o + 3) x2) = (g (o + 3) x1)) → ((-9223372036854775808 ≤ ((g (o + 1) x2) * (g (o + 2) x1)) ∧ ((g (o + 1) x2) * (g (o + 2) x1)) ≤ 9223372036854775807) ∧ ((-9223372036854775808 ≤ ((g (o + 1) x1) * (g (o + 2) x2)) ∧ ((g (o + 1) x1) * (g (o + 2) x2)) ≤ 9223372036854775807) ∧ ((-9223372036854775808 ≤ (((g (o + 1) x2) * (g (o + 2) x1)) - ((g (o + 1) x1) * (g (o + 2) x2))) ∧ (((g (o + 1) x2) * (g (o + 2) x1)) - ((g (o + 1) x1) * (g (o + 2) x2))) ≤ 9223372036854775807) ∧ (((0 ≤ (((g (o + 1) x2) * (g (o + 2) x1)) - ((g (o + 1) x1) * (g (o + 2) x2)))) → ((-2147483648 ≤ (x2 + 1) ∧ (x2 + 1) ≤ 2147483647) ∧ L_Pi_ofMostWeight_4 X N σ x1 (x2 + 1) o g Q)) ∧ (¬ (0 ≤ (((g (o + 1) x2) * (g (o + 2) x1)) - ((g (o + 1) x1) * (g (o + 2) x2)))) → ((-2147483648 ≤ (x2 + 1) ∧ (x2 + 1) ≤ 2147483647) ∧ L_Pi_ofMostWeight_4 X N σ x2 (x2 + 1) o g Q))))))) ∧ (¬ ((g (o + 3) x2) = (g (o + 3) x1)) → ((-2147483648 ≤ (x2 + 1) ∧ (x2 + 1) ≤ 2147483647) ∧ L_Pi_ofMostWeight_4 X N σ x1 (x2 + 1) o g Q))))))))))) : L_Pi_ofMostWeight_4 X N σ x1 x2 o g Q := by
  refine z_iload_n (i := 2) 2 d_Pi_ofMostWeight_4 rfl rfl ?_
  refine z_aload_n (i := 0) (c := o) 0 d_Pi_ofMostWeight_5 rfl rfl rfl ?_
  refine z_geti (c := o) (kI := 3) d_Pi_ofMostWeight_6 fd_Pi_many fl_Pi_27 (Or.inl rfl) rfl rfl (ks_Pi_0 ho) (kl_Pi_0 ho) ?_
  refine z_icmp_ge (tgt := 63) d_Pi_ofMostWeight_9 (by decide) (fun c1 => ?_) (fun c1 => ?_)
  · have h := h.1 c1
    refine z_iload_n (i := 1) 1 d_Pi_ofMostWeight_63 rfl rfl ?_
    exact z_iret d_Pi_ofMostWeight_64 rfl (by decide) (by decide) ⟨rfl, rfl, h⟩
  · have h := h.2 c1
    refine z_iload_n (i := 1) 1 d_Pi_ofMostWeight_12 rfl rfl ?_
    refine z_if_lt (tgt := 55) d_Pi_ofMostWeight_13 (by decide) (fun c2 => ?_) (fun c2 => ?_)
    · have h := h.1 c2
      refine z_iload_n (i := 2) 2 d_Pi_ofMostWeight_55 rfl rfl ?_
      refine z_istore_n (i := 1) (ls' := [(1, (0, x2)), (0, (2, ((o : Nat) : Int))), (2, (0, x2))]) d_Pi_ofMostWeight_56 rfl rfl rfl ?_
      obtain ⟨c3, h⟩ := h
      refine z_iinc (n := 1) (ls' := [(2, (0, x2 + 1)), (1, (0, x2)), (0, (2, ((o : Nat) : Int)))]) 2 d_Pi_ofMostWeight_57 rfl c3 rfl rfl ?_
      refine z_goto (tgt := 4) d_Pi_ofMostWeight_60 (by decide) ?_
      refine z_sub (ls' := [(0, (2, ((o : Nat) : Int))), (1, (0, x2)), (2, (0, x2 + 1))]) [2, 1, 0] rfl ?_
      exact h
    · have h := h.2 c2
      refine z_aload_n (i := 0) (c := o) 0 d_Pi_ofMostWeight_16 rfl rfl rfl ?_
      refine z_getr (c := o) (kI := 2) (r2 := ((o + 3 : Nat) : Int)) d_Pi_ofMostWeight_17 fd_Pi_weights fl_Pi_18 rfl rfl rfl (ks_Pi_0 ho) (kl_Pi_0 ho) (kr_Pi_0_2 ho) ?_
      refine z_iload_n (i := 2) 2 d_Pi_ofMostWeight_20 rfl rfl ?_
      obtain ⟨c4, h⟩ := h
      refine z_iald (c := (o + 3)) (m := 12) d_Pi_ofMostWeight_21 rfl (ks_Pi_3 ho) (kl_Pi_3 ho) rfl (by decide) c4 ?_
      refine z_aload_n (i := 0) (c := o) 0 d_Pi_ofMostWeight_22 rfl rfl rfl ?_
      refine z_getr (c := o) (kI := 2) (r2 := ((o + 3 : Nat) : Int)) d_Pi_ofMostWeight_23 fd_Pi_weights fl_Pi_18 rfl rfl rfl (ks_Pi_0 ho) (kl_Pi_0 ho) (kr_Pi_0_2 ho) ?_
      refine z_iload_n (i := 1) 1 d_Pi_ofMostWeight_26 rfl rfl ?_
      obtain ⟨c5, h⟩ := h
      refine z_iald (c := (o + 3)) (m := 12) d_Pi_ofMostWeight_27 rfl (ks_Pi_3 ho) (kl_Pi_3 ho) rfl (by decide) c5 ?_
      refine z_icmp_gt (tgt := 55) d_Pi_ofMostWeight_28 (by decide) (fun c6 => ?_) (fun c6 => ?_)
      · have h := h.1 c6
        refine z_iload_n (i := 2) 2 d_Pi_ofMostWeight_55 rfl rfl ?_
        refine z_istore_n (i := 1) (ls' := [(1, (0, x2)), (0, (2, ((o : Nat) : Int))), (2, (0, x2))]) d_Pi_ofMostWeight_56 rfl rfl rfl ?_
        obtain ⟨c7, h⟩ := h
        refine z_iinc (n := 1) (ls' := [(2, (0, x2 + 1)), (1, (0, x2)), (0, (2, ((o : Nat) : Int)))]) 2 d_Pi_ofMostWeight_57 rfl c7 rfl rfl ?_
        refine z_goto (tgt := 4) d_Pi_ofMostWeight_60 (by decide) ?_
        refine z_sub (ls' := [(0, (2, ((o : Nat) : Int))), (1, (0, x2)), (2, (0, x2 + 1))]) [2, 1, 0] rfl ?_
        exact h
      · have h := h.2 c6
        refine z_aload_n (i := 0) (c := o) 0 d_Pi_ofMostWeight_31 rfl rfl rfl ?_
        refine z_getr (c := o) (kI := 2) (r2 := ((o + 3 : Nat) : Int)) d_Pi_ofMostWeight_32 fd_Pi_weights fl_Pi_18 rfl rfl rfl (ks_Pi_0 ho) (kl_Pi_0 ho) (kr_Pi_0_2 ho) ?_
        refine z_iload_n (i := 2) 2 d_Pi_ofMostWeight_35 rfl rfl ?_
        refine z_iald (c := (o + 3)) (m := 12) d_Pi_ofMostWeight_36 rfl (ks_Pi_3 ho) (kl_Pi_3 ho) rfl (by decide) c4 ?_
        refine z_aload_n (i := 0) (c := o) 0 d_Pi_ofMostWeight_37 rfl rfl rfl ?_
        refine z_getr (c := o) (kI := 2) (r2 := ((o + 3 : Nat) : Int)) d_Pi_ofMostWeight_38 fd_Pi_weights fl_Pi_18 rfl rfl rfl (ks_Pi_0 ho) (kl_Pi_0 ho) (kr_Pi_0_2 ho) ?_
        refine z_iload_n (i := 1) 1 d_Pi_ofMostWeight_41 rfl rfl ?_
        refine z_iald (c := (o + 3)) (m := 12) d_Pi_ofMostWeight_42 rfl (ks_Pi_3 ho) (kl_Pi_3 ho) rfl (by decide) c5 ?_
        refine z_icmp_ne (tgt := 57) d_Pi_ofMostWeight_43 (by decide) (fun c8 => ?_) (fun c8 => ?_)
        · have h := h.2 c8
          obtain ⟨c9, h⟩ := h
          refine z_iinc (n := 1) (ls' := [(2, (0, x2 + 1)), (0, (2, ((o : Nat) : Int))), (1, (0, x1))]) 2 d_Pi_ofMostWeight_57 rfl c9 rfl rfl ?_
          refine z_goto (tgt := 4) d_Pi_ofMostWeight_60 (by decide) ?_
          refine z_sub (ls' := [(0, (2, ((o : Nat) : Int))), (1, (0, x1)), (2, (0, x2 + 1))]) [1, 2, 0] rfl ?_
          exact h
        · have h := h.1 c8
          refine z_aload_n (i := 0) (c := o) 0 d_Pi_ofMostWeight_46 rfl rfl rfl ?_
          refine z_iload_n (i := 2) 2 d_Pi_ofMostWeight_47 rfl rfl ?_
          refine z_iload_n (i := 1) 1 d_Pi_ofMostWeight_48 rfl rfl ?_
          refine z_cV (c := o) (as := [(0, x2), (0, x1)]) (d' := 2) (st := []) d_Pi_ofMostWeight_49 mi_Pi_isLess ml_Pi_46 mv_Pi_isLess se_Pi_isLess rfl rfl rfl rfl (ks_Pi_0 ho) rfl rfl (kl_Pi_0 ho) rfl rfl (b_Pi_isLess_0 ho ?_)
          refine ⟨c4, ?_⟩
          refine ⟨c5, ?_⟩
          obtain ⟨c10, h⟩ := h
          refine ⟨c10, ?_⟩
          obtain ⟨c11, h⟩ := h
          refine ⟨c11, ?_⟩
          obtain ⟨c12, h⟩ := h
          refine ⟨c12, ?_⟩
          refine ⟨fun c13 => ?_, fun c13 => ?_⟩
          · have h := h.1 c13
            intro _
            show z_U X 3 m_Pi_ofMostWeight 52 [(0, (2, ((o : Nat) : Int))), (1, (0, x1)), (2, (0, x2))] [(0, 0)] N σ g Q
            refine z_if_eq (tgt := 57) d_Pi_ofMostWeight_52 (by decide) (fun _ => ?_) (fun c => absurd (by decide) c)
            obtain ⟨c14, h⟩ := h
            refine z_iinc (n := 1) (ls' := [(2, (0, x2 + 1)), (0, (2, ((o : Nat) : Int))), (1, (0, x1))]) 2 d_Pi_ofMostWeight_57 rfl c14 rfl rfl ?_
            refine z_goto (tgt := 4) d_Pi_ofMostWeight_60 (by decide) ?_
            refine z_sub (ls' := [(0, (2, ((o : Nat) : Int))), (1, (0, x1)), (2, (0, x2 + 1))]) [1, 2, 0] rfl ?_
            exact h
          · have h := h.2 c13
            intro _
            show z_U X 3 m_Pi_ofMostWeight 52 [(0, (2, ((o : Nat) : Int))), (1, (0, x1)), (2, (0, x2))] [(0, 1)] N σ g Q
            refine z_if_eq (tgt := 57) d_Pi_ofMostWeight_52 (by decide) (fun c => absurd c (by decide)) (fun _ => ?_)
            refine z_iload_n (i := 2) 2 d_Pi_ofMostWeight_55 rfl rfl ?_
            refine z_istore_n (i := 1) (ls' := [(1, (0, x2)), (0, (2, ((o : Nat) : Int))), (2, (0, x2))]) d_Pi_ofMostWeight_56 rfl rfl rfl ?_
            obtain ⟨c15, h⟩ := h
            refine z_iinc (n := 1) (ls' := [(2, (0, x2 + 1)), (1, (0, x2)), (0, (2, ((o : Nat) : Int)))]) 2 d_Pi_ofMostWeight_57 rfl c15 rfl rfl ?_
            refine z_goto (tgt := 4) d_Pi_ofMostWeight_60 (by decide) ?_
            refine z_sub (ls' := [(0, (2, ((o : Nat) : Int))), (1, (0, x2)), (2, (0, x2 + 1))]) [2, 1, 0] rfl ?_
            exact h
theorem d_Pi_weightOfAll_0 : decode (z_c m_Pi_weightOfAll) 0 = .ok (.aload_n 0, 1) := by decide +kernel
theorem d_Pi_weightOfAll_1 : decode (z_c m_Pi_weightOfAll) 1 = .ok (.iconst 1, 1) := by decide +kernel
theorem d_Pi_weightOfAll_2 : decode (z_c m_Pi_weightOfAll) 2 = .ok (.iconst 1, 1) := by decide +kernel
theorem d_Pi_weightOfAll_3 : decode (z_c m_Pi_weightOfAll) 3 = .ok (.invokevirtual 35, 3) := by decide +kernel
theorem d_Pi_weightOfAll_6 : decode (z_c m_Pi_weightOfAll) 6 = .ok (.ireturn, 1) := by decide +kernel
set_option maxRecDepth 8000 in
theorem b_Pi_weightOfAll_0 {X : z_X} {N : Nat} {σ g : z_G} {Q : z_P} {o : Nat} (ho : z_lay X N σ o z_SPi z_RPi) (h : z_O X 2 m_Pi_weightUpTo [(2, ((o : Nat) : Int)), (0, 1), (0, 1)] N σ g (fun r0 g0 => Q r0 g0)) : z_O X 3 m_Pi_weightOfAll [(2, ((o : Nat) : Int))] N σ g Q := by
  refine z_Oenter mi_Pi_weightOfAll rfl (fun _ => ?_)
  show z_U X 3 m_Pi_weightOfAll 0 [(0, (2, ((o : Nat) : Int)))] [] N σ g Q
  refine z_aload_n (i := 0) (c := o) 0 d_Pi_weightOfAll_0 rfl rfl rfl ?_
  refine z_iconst (n := 1) d_Pi_weightOfAll_1 (by decide) ?_
  refine z_iconst (n := 1) d_Pi_weightOfAll_2 (by decide) ?_
  refine z_cV (c := o) (as := [(0, 1), (0, 1)]) (d' := 2) (st := []) d_Pi_weightOfAll_3 mi_Pi_weightUpTo ml_Pi_35 mv_Pi_weightUpTo se_Pi_weightUpTo rfl rfl rfl rfl (ks_Pi_0 ho) rfl rfl (kl_Pi_0 ho) rfl rfl (z_Omono h (fun r0 g0 _ h hro => ?_))
  show z_U X 3 m_Pi_weightOfAll 6 [(0, (2, ((o : Nat) : Int)))] [(0, r0)] N σ g0 Q
  exact z_iret d_Pi_weightOfAll_6 rfl (by decide) (by decide) ⟨rfl, rfl, h⟩
theorem d_Rw_seek_0 : decode (z_c m_Rw_seek) 0 = .ok (.aload_n 0, 1) := by decide +kernel
theorem d_Rw_seek_1 : decode (z_c m_Rw_seek) 1 = .ok (.iload_n 1, 1) := by decide +kernel
theorem d_Rw_seek_2 : decode (z_c m_Rw_seek) 2 = .ok (.iload_n 2, 1) := by decide +kernel
theorem d_Rw_seek_3 : decode (z_c m_Rw_seek) 3 = .ok (.invokevirtual 44, 3) := by decide +kernel
theorem d_Rw_seek_6 : decode (z_c m_Rw_seek) 6 = .ok (.istore_n 3, 1) := by decide +kernel
theorem d_Rw_seek_7 : decode (z_c m_Rw_seek) 7 = .ok (.iload_n 3, 1) := by decide +kernel
theorem d_Rw_seek_8 : decode (z_c m_Rw_seek) 8 = .ok (.iload_n 1, 1) := by decide +kernel
theorem d_Rw_seek_9 : decode (z_c m_Rw_seek) 9 = .ok (.if_icmp .lt 14, 3) := by decide +kernel
theorem d_Rw_seek_12 : decode (z_c m_Rw_seek) 12 = .ok (.aload_n 0, 1) := by decide +kernel
theorem d_Rw_seek_13 : decode (z_c m_Rw_seek) 13 = .ok (.iconst 1, 1) := by decide +kernel
theorem d_Rw_seek_14 : decode (z_c m_Rw_seek) 14 = .ok (.putfield 27, 3) := by decide +kernel
theorem d_Rw_seek_17 : decode (z_c m_Rw_seek) 17 = .ok (.aload_n 0, 1) := by decide +kernel
theorem d_Rw_seek_18 : decode (z_c m_Rw_seek) 18 = .ok (.iconst 1, 1) := by decide +kernel
theorem d_Rw_seek_19 : decode (z_c m_Rw_seek) 19 = .ok (.putfield 31, 3) := by decide +kernel
theorem d_Rw_seek_22 : decode (z_c m_Rw_seek) 22 = .ok (.return_, 1) := by decide +kernel
theorem d_Rw_seek_23 : decode (z_c m_Rw_seek) 23 = .ok (.aload_n 0, 1) := by decide +kernel
theorem d_Rw_seek_24 : decode (z_c m_Rw_seek) 24 = .ok (.iload_n 1, 1) := by decide +kernel
theorem d_Rw_seek_25 : decode (z_c m_Rw_seek) 25 = .ok (.iload_n 3, 1) := by decide +kernel
theorem d_Rw_seek_26 : decode (z_c m_Rw_seek) 26 = .ok (.iload_n 1, 1) := by decide +kernel
theorem d_Rw_seek_27 : decode (z_c m_Rw_seek) 27 = .ok (.iconst 1, 1) := by decide +kernel
theorem d_Rw_seek_28 : decode (z_c m_Rw_seek) 28 = .ok (.invokevirtual 47, 3) := by decide +kernel
theorem d_Rw_seek_31 : decode (z_c m_Rw_seek) 31 = .ok (.iload_n 2, 1) := by decide +kernel
theorem d_Rw_seek_32 : decode (z_c m_Rw_seek) 32 = .ok (.aload_n 0, 1) := by decide +kernel
theorem d_Rw_seek_33 : decode (z_c m_Rw_seek) 33 = .ok (.iload_n 1, 1) := by decide +kernel
theorem d_Rw_seek_34 : decode (z_c m_Rw_seek) 34 = .ok (.iload_n 3, 1) := by decide +kernel
theorem d_Rw_seek_35 : decode (z_c m_Rw_seek) 35 = .ok (.i2l, 1) := by decide +kernel
theorem d_Rw_seek_36 : decode (z_c m_Rw_seek) 36 = .ok (.iload_n 1, 1) := by decide +kernel
theorem d_Rw_seek_37 : decode (z_c m_Rw_seek) 37 = .ok (.i2l, 1) := by decide +kernel
theorem d_Rw_seek_38 : decode (z_c m_Rw_seek) 38 = .ok (.invokevirtual 51, 3) := by decide +kernel
theorem d_Rw_seek_41 : decode (z_c m_Rw_seek) 41 = .ok (.isub, 1) := by decide +kernel
theorem d_Rw_seek_42 : decode (z_c m_Rw_seek) 42 = .ok (.istore 4, 2) := by decide +kernel
theorem d_Rw_seek_44 : decode (z_c m_Rw_seek) 44 = .ok (.iconst 0, 1) := by decide +kernel
theorem d_Rw_seek_45 : decode (z_c m_Rw_seek) 45 = .ok (.istore 5, 2) := by decide +kernel
theorem d_Rw_seek_47 : decode (z_c m_Rw_seek) 47 = .ok (.iload 5, 2) := by decide +kernel
theorem d_Rw_seek_49 : decode (z_c m_Rw_seek) 49 = .ok (.iload 4, 2) := by decide +kernel
theorem d_Rw_seek_51 : decode (z_c m_Rw_seek) 51 = .ok (.if_icmp .ge 14, 3) := by decide +kernel
theorem d_Rw_seek_54 : decode (z_c m_Rw_seek) 54 = .ok (.aload_n 0, 1) := by decide +kernel
theorem d_Rw_seek_55 : decode (z_c m_Rw_seek) 55 = .ok (.iload_n 1, 1) := by decide +kernel
theorem d_Rw_seek_56 : decode (z_c m_Rw_seek) 56 = .ok (.invokevirtual 55, 3) := by decide +kernel
theorem d_Rw_seek_59 : decode (z_c m_Rw_seek) 59 = .ok (.iinc 5 1, 3) := by decide +kernel
theorem d_Rw_seek_62 : decode (z_c m_Rw_seek) 62 = .ok (.goto (-15), 3) := by decide +kernel
theorem d_Rw_seek_65 : decode (z_c m_Rw_seek) 65 = .ok (.return_, 1) := by decide +kernel
abbrev L_Rw_seek_47 (X : z_X) (N : Nat) (σ : z_G) (x1 x4 x5 : Int) (g : z_G) (Q : z_P) : Prop := z_U X 3 m_Rw_seek 47 [(0, (2, 15)), (1, (0, x1)), (4, (0, x4)), (5, (0, x5))] [] N σ g Q
set_option maxRecDepth 8000 in
theorem b_Rw_seek_0 {X : z_X} {N : Nat} {σ g : z_G} {Q : z_P} {a1 a2 : Int} (hx : z_lay X N σ 0 z_SF z_RF) (h : z_O X 2 m_Rw_sliceOf [(2, 15), (0, a1), (0, a2)] N σ g (fun r0 g0 => (((r0 < a1) → (z_O X 2 m_Rw_pinch [(2, 15), (0, a1), (0, r0), (0, a1), (0, 1)] N σ g0 (fun r1 g1 => (z_O X 1 m_Rw_countUnder [(2, 15), (0, a1), (1, r0), (1, a1)] N σ g1 (fun r2 g2 => ((-2147483648 ≤ (a2 - r2) ∧ (a2 - r2) ≤ 2147483647) ∧ L_Rw_seek_47 X N σ a1 (a2 - r2) 0 g2 Q)))))) ∧ (¬ (r0 < a1) → Q 0 (z_up (z_up g0 15 2 1) 15 3 1))))) : z_O X 3 m_Rw_seek [(2, 15), (0, a1), (0, a2)] N σ g Q := by
  refine z_Oenter mi_Rw_seek rfl (fun _ => ?_)
  show z_U X 3 m_Rw_seek 0 [(0, (2, 15)), (1, (0, a1)), (2, (0, a2))] [] N σ g Q
  refine z_aload_n (i := 0) (c := 15) 0 d_Rw_seek_0 rfl rfl rfl ?_
  refine z_iload_n (i := 1) 1 d_Rw_seek_1 rfl rfl ?_
  refine z_iload_n (i := 2) 2 d_Rw_seek_2 rfl rfl ?_
  refine z_cV (c := 15) (as := [(0, a1), (0, a2)]) (d' := 2) (st := []) d_Rw_seek_3 mi_Rw_sliceOf ml_Rw_44 mv_Rw_sliceOf se_Rw_sliceOf rfl rfl rfl rfl (ks_F_15 hx) rfl rfl (kl_F_15 hx) rfl rfl (z_Omono h (fun r0 g0 _ h hro => ?_))
  show z_U X 3 m_Rw_seek 6 [(0, (2, 15)), (1, (0, a1)), (2, (0, a2))] [(0, r0)] N σ g0 Q
  refine z_istore_n (i := 3) (ls' := [(3, (0, r0)), (0, (2, 15)), (1, (0, a1)), (2, (0, a2))]) d_Rw_seek_6 rfl rfl rfl ?_
  refine z_iload_n (i := 3) 0 d_Rw_seek_7 rfl rfl ?_
  refine z_iload_n (i := 1) 2 d_Rw_seek_8 rfl rfl ?_
  refine z_icmp_lt (tgt := 23) d_Rw_seek_9 (by decide) (fun c1 => ?_) (fun c1 => ?_)
  · have h := h.1 c1
    refine z_aload_n (i := 0) (c := 15) 1 d_Rw_seek_23 rfl rfl rfl ?_
    refine z_iload_n (i := 1) 2 d_Rw_seek_24 rfl rfl ?_
    refine z_iload_n (i := 3) 0 d_Rw_seek_25 rfl rfl ?_
    refine z_iload_n (i := 1) 2 d_Rw_seek_26 rfl rfl ?_
    refine z_iconst (n := 1) d_Rw_seek_27 (by decide) ?_
    refine z_cV (c := 15) (as := [(0, a1), (0, r0), (0, a1), (0, 1)]) (d' := 2) (st := []) d_Rw_seek_28 mi_Rw_pinch ml_Rw_47 mv_Rw_pinch se_Rw_pinch rfl rfl rfl rfl (ks_F_15 hx) rfl rfl (kl_F_15 hx) rfl rfl (z_Omono h (fun r1 g1 _ h hro => ?_))
    show z_U X 3 m_Rw_seek 31 [(3, (0, r0)), (0, (2, 15)), (1, (0, a1)), (2, (0, a2))] [] N σ g1 Q
    refine z_iload_n (i := 2) 3 d_Rw_seek_31 rfl rfl ?_
    refine z_aload_n (i := 0) (c := 15) 1 d_Rw_seek_32 rfl rfl rfl ?_
    refine z_iload_n (i := 1) 2 d_Rw_seek_33 rfl rfl ?_
    refine z_iload_n (i := 3) 0 d_Rw_seek_34 rfl rfl ?_
    refine z_i2l d_Rw_seek_35 ?_
    refine z_iload_n (i := 1) 2 d_Rw_seek_36 rfl rfl ?_
    refine z_i2l d_Rw_seek_37 ?_
    refine z_cV (c := 15) (as := [(0, a1), (1, r0), (1, a1)]) (d' := 1) (st := [(0, a2)]) d_Rw_seek_38 mi_Rw_countUnder ml_Rw_51 mv_Rw_countUnder se_Rw_countUnder rfl rfl rfl rfl (ks_F_15 hx) rfl rfl (kl_F_15 hx) rfl rfl (z_Omono h (fun r2 g2 _ h hro => ?_))
    show z_U X 3 m_Rw_seek 41 [(3, (0, r0)), (0, (2, 15)), (1, (0, a1)), (2, (0, a2))] [(0, r2), (0, a2)] N σ g2 Q
    obtain ⟨c2, h⟩ := h
    refine z_isub d_Rw_seek_41 c2 ?_
    refine z_istore (ls' := [(4, (0, a2 - r2)), (3, (0, r0)), (0, (2, 15)), (1, (0, a1)), (2, (0, a2))]) d_Rw_seek_42 rfl rfl ?_
    refine z_iconst (n := 0) d_Rw_seek_44 (by decide) ?_
    refine z_istore (ls' := [(5, (0, 0)), (4, (0, a2 - r2)), (3, (0, r0)), (0, (2, 15)), (1, (0, a1)), (2, (0, a2))]) d_Rw_seek_45 rfl rfl ?_
    refine z_sub (ls' := [(0, (2, 15)), (1, (0, a1)), (4, (0, a2 - r2)), (5, (0, 0))]) [3, 4, 1, 0] rfl ?_
    exact h
  · have h := h.2 c1
    refine z_aload_n (i := 0) (c := 15) 1 d_Rw_seek_12 rfl rfl rfl ?_
    refine z_iconst (n := 1) d_Rw_seek_13 (by decide) ?_
    refine z_puti (c := 15) (kI := 2) d_Rw_seek_14 fd_Rw_lowTop fl_Rw_27 pf_Rw_lowTop rfl rfl rfl rfl (ks_F_15 hx) (kl_F_15 hx) ?_
    refine z_aload_n (i := 0) (c := 15) 1 d_Rw_seek_17 rfl rfl rfl ?_
    refine z_iconst (n := 1) d_Rw_seek_18 (by decide) ?_
    refine z_puti (c := 15) (kI := 3) d_Rw_seek_19 fd_Rw_lowBottom fl_Rw_31 pf_Rw_lowBottom rfl rfl rfl rfl (ks_F_15 hx) (kl_F_15 hx) ?_
    exact z_vret d_Rw_seek_22 rfl (by decide) (by decide) ⟨rfl, rfl, h⟩
set_option maxRecDepth 8000 in
theorem b_Rw_seek_47 {X : z_X} {N : Nat} {σ g : z_G} {Q : z_P} {x1 x4 x5 : Int} (hx : z_lay X N σ 0 z_SF z_RF) (h : ((x4 ≤ x5) → Q 0 g) ∧ (¬ (x4 ≤ x5) → (z_O X 1 m_Rw_stepUp [(2, 15), (0, x1)] N σ g (fun r0 g0 => ((-2147483648 ≤ (x5 + 1) ∧ (x5 + 1) ≤ 2147483647) ∧ L_Rw_seek_47 X N σ x1 x4 (x5 + 1) g0 Q))))) : L_Rw_seek_47 X N σ x1 x4 x5 g Q := by
  refine z_iload 3 d_Rw_seek_47 rfl ?_
  refine z_iload 2 d_Rw_seek_49 rfl ?_
  refine z_icmp_ge (tgt := 65) d_Rw_seek_51 (by decide) (fun c1 => ?_) (fun c1 => ?_)
  · have h := h.1 c1
    exact z_vret d_Rw_seek_65 rfl (by decide) (by decide) ⟨rfl, rfl, h⟩
  · have h := h.2 c1
    refine z_aload_n (i := 0) (c := 15) 0 d_Rw_seek_54 rfl rfl rfl ?_
    refine z_iload_n (i := 1) 1 d_Rw_seek_55 rfl rfl ?_
    refine z_cV (c := 15) (as := [(0, x1)]) (d' := 1) (st := []) d_Rw_seek_56 mi_Rw_stepUp ml_Rw_55 mv_Rw_stepUp se_Rw_stepUp rfl rfl rfl rfl (ks_F_15 hx) rfl rfl (kl_F_15 hx) rfl rfl (z_Omono h (fun r0 g0 _ h hro => ?_))
    show z_U X 3 m_Rw_seek 59 [(0, (2, 15)), (1, (0, x1)), (4, (0, x4)), (5, (0, x5))] [] N σ g0 Q
    obtain ⟨c2, h⟩ := h
    refine z_iinc (n := 1) (ls' := [(5, (0, x5 + 1)), (0, (2, 15)), (1, (0, x1)), (4, (0, x4))]) 3 d_Rw_seek_59 rfl c2 rfl rfl ?_
    refine z_goto (tgt := 47) d_Rw_seek_62 (by decide) ?_
    refine z_sub (ls' := [(0, (2, 15)), (1, (0, x1)), (4, (0, x4)), (5, (0, x5 + 1))]) [1, 2, 3, 0] rfl ?_
    exact h
theorem d_Ta_passNumber_0 : decode (z_c m_Ta_passNumber) 0 = .ok (.aload_n 0, 1) := by decide +kernel
theorem d_Ta_passNumber_1 : decode (z_c m_Ta_passNumber) 1 = .ok (.getfield 50, 3) := by decide +kernel
theorem d_Ta_passNumber_4 : decode (z_c m_Ta_passNumber) 4 = .ok (.iconst 2, 1) := by decide +kernel
theorem d_Ta_passNumber_5 : decode (z_c m_Ta_passNumber) 5 = .ok (.if_icmp .eq 8, 3) := by decide +kernel
theorem d_Ta_passNumber_8 : decode (z_c m_Ta_passNumber) 8 = .ok (.aload_n 0, 1) := by decide +kernel
theorem d_Ta_passNumber_9 : decode (z_c m_Ta_passNumber) 9 = .ok (.invokevirtual 73, 3) := by decide +kernel
theorem d_Ta_passNumber_12 : decode (z_c m_Ta_passNumber) 12 = .ok (.ireturn, 1) := by decide +kernel
theorem d_Ta_passNumber_13 : decode (z_c m_Ta_passNumber) 13 = .ok (.aload_n 0, 1) := by decide +kernel
theorem d_Ta_passNumber_14 : decode (z_c m_Ta_passNumber) 14 = .ok (.getfield 53, 3) := by decide +kernel
theorem d_Ta_passNumber_17 : decode (z_c m_Ta_passNumber) 17 = .ok (.iload_n 1, 1) := by decide +kernel
theorem d_Ta_passNumber_18 : decode (z_c m_Ta_passNumber) 18 = .ok (.if_icmp .lt 11, 3) := by decide +kernel
theorem d_Ta_passNumber_21 : decode (z_c m_Ta_passNumber) 21 = .ok (.aload_n 0, 1) := by decide +kernel
theorem d_Ta_passNumber_22 : decode (z_c m_Ta_passNumber) 22 = .ok (.getfield 53, 3) := by decide +kernel
theorem d_Ta_passNumber_25 : decode (z_c m_Ta_passNumber) 25 = .ok (.iload_n 2, 1) := by decide +kernel
theorem d_Ta_passNumber_26 : decode (z_c m_Ta_passNumber) 26 = .ok (.if_icmp .le 13, 3) := by decide +kernel
theorem d_Ta_passNumber_29 : decode (z_c m_Ta_passNumber) 29 = .ok (.aload_n 0, 1) := by decide +kernel
theorem d_Ta_passNumber_30 : decode (z_c m_Ta_passNumber) 30 = .ok (.iconst 4, 1) := by decide +kernel
theorem d_Ta_passNumber_31 : decode (z_c m_Ta_passNumber) 31 = .ok (.aload_n 0, 1) := by decide +kernel
theorem d_Ta_passNumber_32 : decode (z_c m_Ta_passNumber) 32 = .ok (.getfield 43, 3) := by decide +kernel
theorem d_Ta_passNumber_35 : decode (z_c m_Ta_passNumber) 35 = .ok (.invokevirtual 65, 3) := by decide +kernel
theorem d_Ta_passNumber_38 : decode (z_c m_Ta_passNumber) 38 = .ok (.ireturn, 1) := by decide +kernel
theorem d_Ta_passNumber_39 : decode (z_c m_Ta_passNumber) 39 = .ok (.aload_n 0, 1) := by decide +kernel
theorem d_Ta_passNumber_40 : decode (z_c m_Ta_passNumber) 40 = .ok (.aload_n 0, 1) := by decide +kernel
theorem d_Ta_passNumber_41 : decode (z_c m_Ta_passNumber) 41 = .ok (.getfield 53, 3) := by decide +kernel
theorem d_Ta_passNumber_44 : decode (z_c m_Ta_passNumber) 44 = .ok (.putfield 81, 3) := by decide +kernel
theorem d_Ta_passNumber_47 : decode (z_c m_Ta_passNumber) 47 = .ok (.aload_n 0, 1) := by decide +kernel
theorem d_Ta_passNumber_48 : decode (z_c m_Ta_passNumber) 48 = .ok (.aload_n 0, 1) := by decide +kernel
theorem d_Ta_passNumber_49 : decode (z_c m_Ta_passNumber) 49 = .ok (.getfield 43, 3) := by decide +kernel
theorem d_Ta_passNumber_52 : decode (z_c m_Ta_passNumber) 52 = .ok (.putfield 84, 3) := by decide +kernel
theorem d_Ta_passNumber_55 : decode (z_c m_Ta_passNumber) 55 = .ok (.aload_n 0, 1) := by decide +kernel
theorem d_Ta_passNumber_56 : decode (z_c m_Ta_passNumber) 56 = .ok (.invokevirtual 40, 3) := by decide +kernel
theorem d_Ta_passNumber_59 : decode (z_c m_Ta_passNumber) 59 = .ok (.iconst 1, 1) := by decide +kernel
theorem d_Ta_passNumber_60 : decode (z_c m_Ta_passNumber) 60 = .ok (.ireturn, 1) := by decide +kernel
set_option maxRecDepth 8000 in
theorem b_Ta_passNumber_0 {X : z_X} {N : Nat} {σ g : z_G} {Q : z_P} {a1 a2 : Int} (hx : z_lay X N σ 0 z_SF z_RF) (h : (((g 10 4) = 2) → ((((g 10 5) < a1) → Q 0 (z_up (z_up g 10 9 4) 10 10 (g 10 6))) ∧ (¬ ((g 10 5) < a1) → ((((g 10 5) ≤ a2) → (z_O X 2 m_Ta_advance [(2, 10)] N σ (z_up (z_up g 10 7 (g 10 5)) 10 8 (g 10 6)) (fun r0 g0 => Q 1 g0))) ∧ (¬ ((g 10 5) ≤ a2) → Q 0 (z_up (z_up g 10 9 4) 10 10 (g 10 6))))))) ∧ (¬ ((g 10 4) = 2) → ((((g 10 4) = 4) → Q 0 (z_up (z_up g 10 9 1) 10 10 (g 10 6))) ∧ (¬ ((g 10 4) = 4) → Q 0 (z_up (z_up g 10 9 2) 10 10 (g 10 6)))))) : z_O X 3 m_Ta_passNumber [(2, 10), (0, a1), (0, a2)] N σ g Q := by
  refine z_Oenter mi_Ta_passNumber rfl (fun _ => ?_)
  show z_U X 3 m_Ta_passNumber 0 [(0, (2, 10)), (1, (0, a1)), (2, (0, a2))] [] N σ g Q
  refine z_aload_n (i := 0) (c := 10) 0 d_Ta_passNumber_0 rfl rfl rfl ?_
  refine z_geti (c := 10) (kI := 4) d_Ta_passNumber_1 fd_Ta_kind fl_Ta_50 (Or.inl rfl) rfl rfl (ks_F_10 hx) (kl_F_10 hx) ?_
  refine z_iconst (n := 2) d_Ta_passNumber_4 (by decide) ?_
  refine z_icmp_eq (tgt := 13) d_Ta_passNumber_5 (by decide) (fun c1 => ?_) (fun c1 => ?_)
  · have h := h.1 c1
    refine z_aload_n (i := 0) (c := 10) 0 d_Ta_passNumber_13 rfl rfl rfl ?_
    refine z_geti (c := 10) (kI := 5) d_Ta_passNumber_14 fd_Ta_value fl_Ta_53 (Or.inl rfl) rfl rfl (ks_F_10 hx) (kl_F_10 hx) ?_
    refine z_iload_n (i := 1) 1 d_Ta_passNumber_17 rfl rfl ?_
    refine z_icmp_lt (tgt := 29) d_Ta_passNumber_18 (by decide) (fun c2 => ?_) (fun c2 => ?_)
    · have h := h.1 c2
      refine z_aload_n (i := 0) (c := 10) 0 d_Ta_passNumber_29 rfl rfl rfl ?_
      refine z_iconst (n := 4) d_Ta_passNumber_30 (by decide) ?_
      refine z_aload_n (i := 0) (c := 10) 0 d_Ta_passNumber_31 rfl rfl rfl ?_
      refine z_geti (c := 10) (kI := 6) d_Ta_passNumber_32 fd_Ta_at fl_Ta_43 (Or.inl rfl) rfl rfl (ks_F_10 hx) (kl_F_10 hx) ?_
      refine z_cV (c := 10) (as := [(0, 4), (0, g 10 6)]) (d' := 1) (st := []) d_Ta_passNumber_35 mi_Ta_fail ml_Ta_65 mv_Ta_fail se_Ta_fail rfl rfl rfl rfl (ks_F_10 hx) rfl rfl (kl_F_10 hx) rfl rfl (b_Ta_fail_0 hx ?_)
      intro _
      show z_U X 3 m_Ta_passNumber 38 [(0, (2, 10)), (1, (0, a1)), (2, (0, a2))] [(0, 0)] N σ (z_up (z_up g 10 9 4) 10 10 (g 10 6)) Q
      exact z_zret d_Ta_passNumber_38 rfl (by decide) (by decide) (by decide) ⟨rfl, rfl, h⟩
    · have h := h.2 c2
      refine z_aload_n (i := 0) (c := 10) 0 d_Ta_passNumber_21 rfl rfl rfl ?_
      refine z_geti (c := 10) (kI := 5) d_Ta_passNumber_22 fd_Ta_value fl_Ta_53 (Or.inl rfl) rfl rfl (ks_F_10 hx) (kl_F_10 hx) ?_
      refine z_iload_n (i := 2) 2 d_Ta_passNumber_25 rfl rfl ?_
      refine z_icmp_le (tgt := 39) d_Ta_passNumber_26 (by decide) (fun c3 => ?_) (fun c3 => ?_)
      · have h := h.1 c3
        refine z_aload_n (i := 0) (c := 10) 0 d_Ta_passNumber_39 rfl rfl rfl ?_
        refine z_aload_n (i := 0) (c := 10) 0 d_Ta_passNumber_40 rfl rfl rfl ?_
        refine z_geti (c := 10) (kI := 5) d_Ta_passNumber_41 fd_Ta_value fl_Ta_53 (Or.inl rfl) rfl rfl (ks_F_10 hx) (kl_F_10 hx) ?_
        refine z_puti (c := 10) (kI := 7) d_Ta_passNumber_44 fd_Ta_number fl_Ta_81 pf_Ta_number rfl rfl rfl rfl (ks_F_10 hx) (kl_F_10 hx) ?_
        refine z_aload_n (i := 0) (c := 10) 0 d_Ta_passNumber_47 rfl rfl rfl ?_
        refine z_aload_n (i := 0) (c := 10) 0 d_Ta_passNumber_48 rfl rfl rfl ?_
        refine z_geti (c := 10) (kI := 6) d_Ta_passNumber_49 fd_Ta_at fl_Ta_43 (Or.inl rfl) rfl rfl (ks_F_10 hx) (kl_F_10 hx) ?_
        refine z_ti (b := g 10 6) (by simp [z_up]) ?_
        refine z_puti (c := 10) (kI := 8) d_Ta_passNumber_52 fd_Ta_numberAt fl_Ta_84 pf_Ta_numberAt rfl rfl rfl rfl (ks_F_10 hx) (kl_F_10 hx) ?_
        refine z_aload_n (i := 0) (c := 10) 0 d_Ta_passNumber_55 rfl rfl rfl ?_
        refine z_cV (c := 10) (as := []) (d' := 2) (st := []) d_Ta_passNumber_56 mi_Ta_advance ml_Ta_40 mv_Ta_advance se_Ta_advance rfl rfl rfl rfl (ks_F_10 hx) rfl rfl (kl_F_10 hx) rfl rfl (z_Omono h (fun r0 g0 _ h hro => ?_))
        show z_U X 3 m_Ta_passNumber 59 [(0, (2, 10)), (1, (0, a1)), (2, (0, a2))] [] N σ g0 Q
        refine z_iconst (n := 1) d_Ta_passNumber_59 (by decide) ?_
        exact z_zret d_Ta_passNumber_60 rfl (by decide) (by decide) (by decide) ⟨rfl, rfl, h⟩
      · have h := h.2 c3
        refine z_aload_n (i := 0) (c := 10) 0 d_Ta_passNumber_29 rfl rfl rfl ?_
        refine z_iconst (n := 4) d_Ta_passNumber_30 (by decide) ?_
        refine z_aload_n (i := 0) (c := 10) 0 d_Ta_passNumber_31 rfl rfl rfl ?_
        refine z_geti (c := 10) (kI := 6) d_Ta_passNumber_32 fd_Ta_at fl_Ta_43 (Or.inl rfl) rfl rfl (ks_F_10 hx) (kl_F_10 hx) ?_
        refine z_cV (c := 10) (as := [(0, 4), (0, g 10 6)]) (d' := 1) (st := []) d_Ta_passNumber_35 mi_Ta_fail ml_Ta_65 mv_Ta_fail se_Ta_fail rfl rfl rfl rfl (ks_F_10 hx) rfl rfl (kl_F_10 hx) rfl rfl (b_Ta_fail_0 hx ?_)
        intro _
        show z_U X 3 m_Ta_passNumber 38 [(0, (2, 10)), (1, (0, a1)), (2, (0, a2))] [(0, 0)] N σ (z_up (z_up g 10 9 4) 10 10 (g 10 6)) Q
        exact z_zret d_Ta_passNumber_38 rfl (by decide) (by decide) (by decide) ⟨rfl, rfl, h⟩
  · have h := h.2 c1
    refine z_aload_n (i := 0) (c := 10) 0 d_Ta_passNumber_8 rfl rfl rfl ?_
    refine z_cV (c := 10) (as := []) (d' := 2) (st := []) d_Ta_passNumber_9 mi_Ta_failHere ml_Ta_73 mv_Ta_failHere se_Ta_failHere rfl rfl rfl rfl (ks_F_10 hx) rfl rfl (kl_F_10 hx) rfl rfl (b_Ta_failHere_0 hx ?_)
    refine ⟨fun c4 => ?_, fun c4 => ?_⟩
    · have h := h.1 c4
      intro _
      show z_U X 3 m_Ta_passNumber 12 [(0, (2, 10)), (1, (0, a1)), (2, (0, a2))] [(0, 0)] N σ (z_up (z_up g 10 9 1) 10 10 (g 10 6)) Q
      exact z_zret d_Ta_passNumber_12 rfl (by decide) (by decide) (by decide) ⟨rfl, rfl, h⟩
    · have h := h.2 c4
      intro _
      show z_U X 3 m_Ta_passNumber 12 [(0, (2, 10)), (1, (0, a1)), (2, (0, a2))] [(0, 0)] N σ (z_up (z_up g 10 9 2) 10 10 (g 10 6)) Q
      exact z_zret d_Ta_passNumber_12 rfl (by decide) (by decide) (by decide) ⟨rfl, rfl, h⟩
theorem d_Ta_passSign_0 : decode (z_c m_Ta_passSign) 0 = .ok (.aload_n 0, 1) := by decide +kernel
theorem d_Ta_passSign_1 : decode (z_c m_Ta_passSign) 1 = .ok (.iload_n 1, 1) := by decide +kernel
theorem d_Ta_passSign_2 : decode (z_c m_Ta_passSign) 2 = .ok (.invokevirtual 77, 3) := by decide +kernel
theorem d_Ta_passSign_5 : decode (z_c m_Ta_passSign) 5 = .ok (.ifCond .ne 8, 3) := by decide +kernel
theorem d_Ta_passSign_8 : decode (z_c m_Ta_passSign) 8 = .ok (.aload_n 0, 1) := by decide +kernel
theorem d_Ta_passSign_9 : decode (z_c m_Ta_passSign) 9 = .ok (.invokevirtual 73, 3) := by decide +kernel
theorem d_Ta_passSign_12 : decode (z_c m_Ta_passSign) 12 = .ok (.ireturn, 1) := by decide +kernel
theorem d_Ta_passSign_13 : decode (z_c m_Ta_passSign) 13 = .ok (.aload_n 0, 1) := by decide +kernel
theorem d_Ta_passSign_14 : decode (z_c m_Ta_passSign) 14 = .ok (.invokevirtual 40, 3) := by decide +kernel
theorem d_Ta_passSign_17 : decode (z_c m_Ta_passSign) 17 = .ok (.iconst 1, 1) := by decide +kernel
theorem d_Ta_passSign_18 : decode (z_c m_Ta_passSign) 18 = .ok (.ireturn, 1) := by decide +kernel
set_option maxRecDepth 8000 in
theorem b_Ta_passSign_0 {X : z_X} {N : Nat} {σ g : z_G} {Q : z_P} {a1 : Int} (hx : z_lay X N σ 0 z_SF z_RF) (h : (((g 10 4) = 3) → (((900 ≤ (g 10 6)) → ((((g 10 4) = 4) → Q 0 (z_up (z_up g 10 9 1) 10 10 (g 10 6))) ∧ (¬ ((g 10 4) = 4) → Q 0 (z_up (z_up g 10 9 2) 10 10 (g 10 6))))) ∧ (¬ (900 ≤ (g 10 6)) → ((0 ≤ (g 10 6) ∧ (g 10 6) < 900) ∧ ((((g 11 (g 10 6)) = a1) → (z_O X 2 m_Ta_advance [(2, 10)] N σ g (fun r0 g0 => Q 1 g0))) ∧ (¬ ((g 11 (g 10 6)) = a1) → ((((g 10 4) = 4) → Q 0 (z_up (z_up g 10 9 1) 10 10 (g 10 6))) ∧ (¬ ((g 10 4) = 4) → Q 0 (z_up (z_up g 10 9 2) 10 10 (g 10 6)))))))))) ∧ (¬ ((g 10 4) = 3) → ((((g 10 4) = 4) → Q 0 (z_up (z_up g 10 9 1) 10 10 (g 10 6))) ∧ (¬ ((g 10 4) = 4) → Q 0 (z_up (z_up g 10 9 2) 10 10 (g 10 6)))))) : z_O X 3 m_Ta_passSign [(2, 10), (0, a1)] N σ g Q := by
  refine z_Oenter mi_Ta_passSign rfl (fun _ => ?_)
  show z_U X 3 m_Ta_passSign 0 [(0, (2, 10)), (1, (0, a1))] [] N σ g Q
  refine z_aload_n (i := 0) (c := 10) 0 d_Ta_passSign_0 rfl rfl rfl ?_
  refine z_iload_n (i := 1) 1 d_Ta_passSign_1 rfl rfl ?_
  refine z_cV (c := 10) (as := [(0, a1)]) (d' := 1) (st := []) d_Ta_passSign_2 mi_Ta_isThisSign ml_Ta_77 mv_Ta_isThisSign se_Ta_isThisSign rfl rfl rfl rfl (ks_F_10 hx) rfl rfl (kl_F_10 hx) rfl rfl (b_Ta_isThisSign_0 hx ?_)
  refine ⟨fun c1 => ?_, fun c1 => ?_⟩
  · have h := h.1 c1
    refine ⟨fun c2 => ?_, fun c2 => ?_⟩
    · have h := h.1 c2
      intro _
      show z_U X 3 m_Ta_passSign 5 [(0, (2, 10)), (1, (0, a1))] [(0, 0)] N σ g Q
      refine z_if_ne (tgt := 13) d_Ta_passSign_5 (by decide) (fun c => absurd (by decide) c) (fun _ => ?_)
      refine z_aload_n (i := 0) (c := 10) 0 d_Ta_passSign_8 rfl rfl rfl ?_
      refine z_cV (c := 10) (as := []) (d' := 2) (st := []) d_Ta_passSign_9 mi_Ta_failHere ml_Ta_73 mv_Ta_failHere se_Ta_failHere rfl rfl rfl rfl (ks_F_10 hx) rfl rfl (kl_F_10 hx) rfl rfl (b_Ta_failHere_0 hx ?_)
      refine ⟨fun c3 => ?_, fun c3 => ?_⟩
      · have h := h.1 c3
        intro _
        show z_U X 3 m_Ta_passSign 12 [(0, (2, 10)), (1, (0, a1))] [(0, 0)] N σ (z_up (z_up g 10 9 1) 10 10 (g 10 6)) Q
        exact z_zret d_Ta_passSign_12 rfl (by decide) (by decide) (by decide) ⟨rfl, rfl, h⟩
      · have h := h.2 c3
        intro _
        show z_U X 3 m_Ta_passSign 12 [(0, (2, 10)), (1, (0, a1))] [(0, 0)] N σ (z_up (z_up g 10 9 2) 10 10 (g 10 6)) Q
        exact z_zret d_Ta_passSign_12 rfl (by decide) (by decide) (by decide) ⟨rfl, rfl, h⟩
    · have h := h.2 c2
      obtain ⟨c4, h⟩ := h
      refine ⟨c4, ?_⟩
      refine ⟨fun c5 => ?_, fun c5 => ?_⟩
      · have h := h.1 c5
        intro _
        show z_U X 3 m_Ta_passSign 5 [(0, (2, 10)), (1, (0, a1))] [(0, 1)] N σ g Q
        refine z_if_ne (tgt := 13) d_Ta_passSign_5 (by decide) (fun _ => ?_) (fun c => absurd c (by decide))
        refine z_aload_n (i := 0) (c := 10) 0 d_Ta_passSign_13 rfl rfl rfl ?_
        refine z_cV (c := 10) (as := []) (d' := 2) (st := []) d_Ta_passSign_14 mi_Ta_advance ml_Ta_40 mv_Ta_advance se_Ta_advance rfl rfl rfl rfl (ks_F_10 hx) rfl rfl (kl_F_10 hx) rfl rfl (z_Omono h (fun r0 g0 _ h hro => ?_))
        show z_U X 3 m_Ta_passSign 17 [(0, (2, 10)), (1, (0, a1))] [] N σ g0 Q
        refine z_iconst (n := 1) d_Ta_passSign_17 (by decide) ?_
        exact z_zret d_Ta_passSign_18 rfl (by decide) (by decide) (by decide) ⟨rfl, rfl, h⟩
      · have h := h.2 c5
        intro _
        show z_U X 3 m_Ta_passSign 5 [(0, (2, 10)), (1, (0, a1))] [(0, 0)] N σ g Q
        refine z_if_ne (tgt := 13) d_Ta_passSign_5 (by decide) (fun c => absurd (by decide) c) (fun _ => ?_)
        refine z_aload_n (i := 0) (c := 10) 0 d_Ta_passSign_8 rfl rfl rfl ?_
        refine z_cV (c := 10) (as := []) (d' := 2) (st := []) d_Ta_passSign_9 mi_Ta_failHere ml_Ta_73 mv_Ta_failHere se_Ta_failHere rfl rfl rfl rfl (ks_F_10 hx) rfl rfl (kl_F_10 hx) rfl rfl (b_Ta_failHere_0 hx ?_)
        refine ⟨fun c6 => ?_, fun c6 => ?_⟩
        · have h := h.1 c6
          intro _
          show z_U X 3 m_Ta_passSign 12 [(0, (2, 10)), (1, (0, a1))] [(0, 0)] N σ (z_up (z_up g 10 9 1) 10 10 (g 10 6)) Q
          exact z_zret d_Ta_passSign_12 rfl (by decide) (by decide) (by decide) ⟨rfl, rfl, h⟩
        · have h := h.2 c6
          intro _
          show z_U X 3 m_Ta_passSign 12 [(0, (2, 10)), (1, (0, a1))] [(0, 0)] N σ (z_up (z_up g 10 9 2) 10 10 (g 10 6)) Q
          exact z_zret d_Ta_passSign_12 rfl (by decide) (by decide) (by decide) ⟨rfl, rfl, h⟩
  · have h := h.2 c1
    intro _
    show z_U X 3 m_Ta_passSign 5 [(0, (2, 10)), (1, (0, a1))] [(0, 0)] N σ g Q
    refine z_if_ne (tgt := 13) d_Ta_passSign_5 (by decide) (fun c => absurd (by decide) c) (fun _ => ?_)
    refine z_aload_n (i := 0) (c := 10) 0 d_Ta_passSign_8 rfl rfl rfl ?_
    refine z_cV (c := 10) (as := []) (d' := 2) (st := []) d_Ta_passSign_9 mi_Ta_failHere ml_Ta_73 mv_Ta_failHere se_Ta_failHere rfl rfl rfl rfl (ks_F_10 hx) rfl rfl (kl_F_10 hx) rfl rfl (b_Ta_failHere_0 hx ?_)
    refine ⟨fun c7 => ?_, fun c7 => ?_⟩
    · have h := h.1 c7
      intro _
      show z_U X 3 m_Ta_passSign 12 [(0, (2, 10)), (1, (0, a1))] [(0, 0)] N σ (z_up (z_up g 10 9 1) 10 10 (g 10 6)) Q
      exact z_zret d_Ta_passSign_12 rfl (by decide) (by decide) (by decide) ⟨rfl, rfl, h⟩
    · have h := h.2 c7
      intro _
      show z_U X 3 m_Ta_passSign 12 [(0, (2, 10)), (1, (0, a1))] [(0, 0)] N σ (z_up (z_up g 10 9 2) 10 10 (g 10 6)) Q
      exact z_zret d_Ta_passSign_12 rfl (by decide) (by decide) (by decide) ⟨rfl, rfl, h⟩
theorem d_Ta_start_0 : decode (z_c m_Ta_start) 0 = .ok (.aload_n 0, 1) := by decide +kernel
theorem d_Ta_start_1 : decode (z_c m_Ta_start) 1 = .ok (.iconst 0, 1) := by decide +kernel
theorem d_Ta_start_2 : decode (z_c m_Ta_start) 2 = .ok (.iload_n 1, 1) := by decide +kernel
theorem d_Ta_start_3 : decode (z_c m_Ta_start) 3 = .ok (.aload_n 0, 1) := by decide +kernel
theorem d_Ta_start_4 : decode (z_c m_Ta_start) 4 = .ok (.getfield 9, 3) := by decide +kernel
theorem d_Ta_start_7 : decode (z_c m_Ta_start) 7 = .ok (.arraylength, 1) := by decide +kernel
theorem d_Ta_start_8 : decode (z_c m_Ta_start) 8 = .ok (.invokestatic 19, 3) := by decide +kernel
theorem d_Ta_start_11 : decode (z_c m_Ta_start) 11 = .ok (.invokestatic 25, 3) := by decide +kernel
theorem d_Ta_start_14 : decode (z_c m_Ta_start) 14 = .ok (.putfield 28, 3) := by decide +kernel
theorem d_Ta_start_17 : decode (z_c m_Ta_start) 17 = .ok (.aload_n 0, 1) := by decide +kernel
theorem d_Ta_start_18 : decode (z_c m_Ta_start) 18 = .ok (.iconst 0, 1) := by decide +kernel
theorem d_Ta_start_19 : decode (z_c m_Ta_start) 19 = .ok (.putfield 31, 3) := by decide +kernel
theorem d_Ta_start_22 : decode (z_c m_Ta_start) 22 = .ok (.aload_n 0, 1) := by decide +kernel
theorem d_Ta_start_23 : decode (z_c m_Ta_start) 23 = .ok (.iconst 0, 1) := by decide +kernel
theorem d_Ta_start_24 : decode (z_c m_Ta_start) 24 = .ok (.putfield 34, 3) := by decide +kernel
theorem d_Ta_start_27 : decode (z_c m_Ta_start) 27 = .ok (.aload_n 0, 1) := by decide +kernel
theorem d_Ta_start_28 : decode (z_c m_Ta_start) 28 = .ok (.iconst (-1), 1) := by decide +kernel
theorem d_Ta_start_29 : decode (z_c m_Ta_start) 29 = .ok (.putfield 37, 3) := by decide +kernel
theorem d_Ta_start_32 : decode (z_c m_Ta_start) 32 = .ok (.aload_n 0, 1) := by decide +kernel
theorem d_Ta_start_33 : decode (z_c m_Ta_start) 33 = .ok (.invokevirtual 40, 3) := by decide +kernel
theorem d_Ta_start_36 : decode (z_c m_Ta_start) 36 = .ok (.return_, 1) := by decide +kernel
set_option maxRecDepth 8000 in
theorem b_Ta_start_0 {X : z_X} {N : Nat} {σ g : z_G} {Q : z_P} {a1 : Int} (hx : z_lay X N σ 0 z_SF z_RF) (h : ((900 < a1) → (z_O X 2 m_Ta_advance [(2, 10)] N σ (z_up (z_up (z_up (z_up g 10 2 900) 10 3 0) 10 9 0) 10 10 (-1)) (fun r0 g0 => Q 0 g0))) ∧ (¬ (900 < a1) → (((0 < a1) → (z_O X 2 m_Ta_advance [(2, 10)] N σ (z_up (z_up (z_up (z_up g 10 2 a1) 10 3 0) 10 9 0) 10 10 (-1)) (fun r1 g1 => Q 0 g1))) ∧ (¬ (0 < a1) → (z_O X 2 m_Ta_advance [(2, 10)] N σ (z_up (z_up (z_up (z_up g 10 2 0) 10 3 0) 10 9 0) 10 10 (-1)) (fun r2 g2 => Q 0 g2)))))) : z_O X 3 m_Ta_start [(2, 10), (0, a1)] N σ g Q := by
  refine z_Oenter mi_Ta_start rfl (fun _ => ?_)
  show z_U X 3 m_Ta_start 0 [(0, (2, 10)), (1, (0, a1))] [] N σ g Q
  refine z_aload_n (i := 0) (c := 10) 0 d_Ta_start_0 rfl rfl rfl ?_
  refine z_iconst (n := 0) d_Ta_start_1 (by decide) ?_
  refine z_iload_n (i := 1) 1 d_Ta_start_2 rfl rfl ?_
  refine z_aload_n (i := 0) (c := 10) 0 d_Ta_start_3 rfl rfl rfl ?_
  refine z_getr (c := 10) (kI := 0) (r2 := 11) d_Ta_start_4 fd_Ta_text fl_Ta_9 rfl rfl rfl (ks_F_10 hx) (kl_F_10 hx) (kr_F_10_0 hx) ?_
  refine z_alen (c := 11) (m := 900) (cA := z_A X 3) d_Ta_start_7 rfl (ks_F_11 hx) (kl_F_11 hx) rfl (by decide) rfl ?_
  refine z_mmin d_Ta_start_8 kmm_min_Ta_19 kms_min kmi kmc_min (by decide) (Nat.le_of_ble_eq_true rfl) (fun c1 => ?_) (fun c1 => ?_)
  · have h := h.1 c1
    refine z_mmax d_Ta_start_11 kmm_max_Ta_25 kms_max kmi kmc_max (by decide) (Nat.le_of_ble_eq_true rfl) (fun _ => ?_) (fun c => absurd (by decide) c)
    refine z_puti (c := 10) (kI := 2) d_Ta_start_14 fd_Ta_length fl_Ta_28 pf_Ta_length rfl rfl rfl rfl (ks_F_10 hx) (kl_F_10 hx) ?_
    refine z_aload_n (i := 0) (c := 10) 0 d_Ta_start_17 rfl rfl rfl ?_
    refine z_iconst (n := 0) d_Ta_start_18 (by decide) ?_
    refine z_puti (c := 10) (kI := 3) d_Ta_start_19 fd_Ta_behind fl_Ta_31 pf_Ta_behind rfl rfl rfl rfl (ks_F_10 hx) (kl_F_10 hx) ?_
    refine z_aload_n (i := 0) (c := 10) 0 d_Ta_start_22 rfl rfl rfl ?_
    refine z_iconst (n := 0) d_Ta_start_23 (by decide) ?_
    refine z_puti (c := 10) (kI := 9) d_Ta_start_24 fd_Ta_faultKind fl_Ta_34 pf_Ta_faultKind rfl rfl rfl rfl (ks_F_10 hx) (kl_F_10 hx) ?_
    refine z_aload_n (i := 0) (c := 10) 0 d_Ta_start_27 rfl rfl rfl ?_
    refine z_iconst (n := (-1)) d_Ta_start_28 (by decide) ?_
    refine z_puti (c := 10) (kI := 10) d_Ta_start_29 fd_Ta_faultPlace fl_Ta_37 pf_Ta_faultPlace rfl rfl rfl rfl (ks_F_10 hx) (kl_F_10 hx) ?_
    refine z_aload_n (i := 0) (c := 10) 0 d_Ta_start_32 rfl rfl rfl ?_
    refine z_cV (c := 10) (as := []) (d' := 2) (st := []) d_Ta_start_33 mi_Ta_advance ml_Ta_40 mv_Ta_advance se_Ta_advance rfl rfl rfl rfl (ks_F_10 hx) rfl rfl (kl_F_10 hx) rfl rfl (z_Omono h (fun r0 g0 _ h hro => ?_))
    show z_U X 3 m_Ta_start 36 [(0, (2, 10)), (1, (0, a1))] [] N σ g0 Q
    exact z_vret d_Ta_start_36 rfl (by decide) (by decide) ⟨rfl, rfl, h⟩
  · have h := h.2 c1
    refine z_mmax d_Ta_start_11 kmm_max_Ta_25 kms_max kmi kmc_max (by decide) (Nat.le_of_ble_eq_true rfl) (fun c3 => ?_) (fun c3 => ?_)
    · have h := h.1 c3
      refine z_puti (c := 10) (kI := 2) d_Ta_start_14 fd_Ta_length fl_Ta_28 pf_Ta_length rfl rfl rfl rfl (ks_F_10 hx) (kl_F_10 hx) ?_
      refine z_aload_n (i := 0) (c := 10) 0 d_Ta_start_17 rfl rfl rfl ?_
      refine z_iconst (n := 0) d_Ta_start_18 (by decide) ?_
      refine z_puti (c := 10) (kI := 3) d_Ta_start_19 fd_Ta_behind fl_Ta_31 pf_Ta_behind rfl rfl rfl rfl (ks_F_10 hx) (kl_F_10 hx) ?_
      refine z_aload_n (i := 0) (c := 10) 0 d_Ta_start_22 rfl rfl rfl ?_
      refine z_iconst (n := 0) d_Ta_start_23 (by decide) ?_
      refine z_puti (c := 10) (kI := 9) d_Ta_start_24 fd_Ta_faultKind fl_Ta_34 pf_Ta_faultKind rfl rfl rfl rfl (ks_F_10 hx) (kl_F_10 hx) ?_
      refine z_aload_n (i := 0) (c := 10) 0 d_Ta_start_27 rfl rfl rfl ?_
      refine z_iconst (n := (-1)) d_Ta_start_28 (by decide) ?_
      refine z_puti (c := 10) (kI := 10) d_Ta_start_29 fd_Ta_faultPlace fl_Ta_37 pf_Ta_faultPlace rfl rfl rfl rfl (ks_F_10 hx) (kl_F_10 hx) ?_
      refine z_aload_n (i := 0) (c := 10) 0 d_Ta_start_32 rfl rfl rfl ?_
      refine z_cV (c := 10) (as := []) (d' := 2) (st := []) d_Ta_start_33 mi_Ta_advance ml_Ta_40 mv_Ta_advance se_Ta_advance rfl rfl rfl rfl (ks_F_10 hx) rfl rfl (kl_F_10 hx) rfl rfl (z_Omono h (fun r1 g1 _ h hro => ?_))
      show z_U X 3 m_Ta_start 36 [(0, (2, 10)), (1, (0, a1))] [] N σ g1 Q
      exact z_vret d_Ta_start_36 rfl (by decide) (by decide) ⟨rfl, rfl, h⟩
    · have h := h.2 c3
      refine z_puti (c := 10) (kI := 2) d_Ta_start_14 fd_Ta_length fl_Ta_28 pf_Ta_length rfl rfl rfl rfl (ks_F_10 hx) (kl_F_10 hx) ?_
      refine z_aload_n (i := 0) (c := 10) 0 d_Ta_start_17 rfl rfl rfl ?_
      refine z_iconst (n := 0) d_Ta_start_18 (by decide) ?_
      refine z_puti (c := 10) (kI := 3) d_Ta_start_19 fd_Ta_behind fl_Ta_31 pf_Ta_behind rfl rfl rfl rfl (ks_F_10 hx) (kl_F_10 hx) ?_
      refine z_aload_n (i := 0) (c := 10) 0 d_Ta_start_22 rfl rfl rfl ?_
      refine z_iconst (n := 0) d_Ta_start_23 (by decide) ?_
      refine z_puti (c := 10) (kI := 9) d_Ta_start_24 fd_Ta_faultKind fl_Ta_34 pf_Ta_faultKind rfl rfl rfl rfl (ks_F_10 hx) (kl_F_10 hx) ?_
      refine z_aload_n (i := 0) (c := 10) 0 d_Ta_start_27 rfl rfl rfl ?_
      refine z_iconst (n := (-1)) d_Ta_start_28 (by decide) ?_
      refine z_puti (c := 10) (kI := 10) d_Ta_start_29 fd_Ta_faultPlace fl_Ta_37 pf_Ta_faultPlace rfl rfl rfl rfl (ks_F_10 hx) (kl_F_10 hx) ?_
      refine z_aload_n (i := 0) (c := 10) 0 d_Ta_start_32 rfl rfl rfl ?_
      refine z_cV (c := 10) (as := []) (d' := 2) (st := []) d_Ta_start_33 mi_Ta_advance ml_Ta_40 mv_Ta_advance se_Ta_advance rfl rfl rfl rfl (ks_F_10 hx) rfl rfl (kl_F_10 hx) rfl rfl (z_Omono h (fun r2 g2 _ h hro => ?_))
      show z_U X 3 m_Ta_start 36 [(0, (2, 10)), (1, (0, a1))] [] N σ g2 Q
      exact z_vret d_Ta_start_36 rfl (by decide) (by decide) ⟨rfl, rfl, h⟩
theorem d_Tr_hasRoom_0 : decode (z_c m_Tr_hasRoom) 0 = .ok (.aload_n 0, 1) := by decide +kernel
theorem d_Tr_hasRoom_1 : decode (z_c m_Tr_hasRoom) 1 = .ok (.iload_n 1, 1) := by decide +kernel
theorem d_Tr_hasRoom_2 : decode (z_c m_Tr_hasRoom) 2 = .ok (.invokevirtual 25, 3) := by decide +kernel
theorem d_Tr_hasRoom_5 : decode (z_c m_Tr_hasRoom) 5 = .ok (.ifCond .ne 31, 3) := by decide +kernel
theorem d_Tr_hasRoom_8 : decode (z_c m_Tr_hasRoom) 8 = .ok (.iload_n 2, 1) := by decide +kernel
theorem d_Tr_hasRoom_9 : decode (z_c m_Tr_hasRoom) 9 = .ok (.ifCond .lt 27, 3) := by decide +kernel
theorem d_Tr_hasRoom_12 : decode (z_c m_Tr_hasRoom) 12 = .ok (.iload_n 3, 1) := by decide +kernel
theorem d_Tr_hasRoom_13 : decode (z_c m_Tr_hasRoom) 13 = .ok (.ifCond .lt 23, 3) := by decide +kernel
theorem d_Tr_hasRoom_16 : decode (z_c m_Tr_hasRoom) 16 = .ok (.iload_n 2, 1) := by decide +kernel
theorem d_Tr_hasRoom_17 : decode (z_c m_Tr_hasRoom) 17 = .ok (.i2l, 1) := by decide +kernel
theorem d_Tr_hasRoom_18 : decode (z_c m_Tr_hasRoom) 18 = .ok (.iload_n 3, 1) := by decide +kernel
theorem d_Tr_hasRoom_19 : decode (z_c m_Tr_hasRoom) 19 = .ok (.i2l, 1) := by decide +kernel
theorem d_Tr_hasRoom_20 : decode (z_c m_Tr_hasRoom) 20 = .ok (.ladd, 1) := by decide +kernel
theorem d_Tr_hasRoom_21 : decode (z_c m_Tr_hasRoom) 21 = .ok (.aload_n 0, 1) := by decide +kernel
theorem d_Tr_hasRoom_22 : decode (z_c m_Tr_hasRoom) 22 = .ok (.getfield 18, 3) := by decide +kernel
theorem d_Tr_hasRoom_25 : decode (z_c m_Tr_hasRoom) 25 = .ok (.iload_n 1, 1) := by decide +kernel
theorem d_Tr_hasRoom_26 : decode (z_c m_Tr_hasRoom) 26 = .ok (.iaload, 1) := by decide +kernel
theorem d_Tr_hasRoom_27 : decode (z_c m_Tr_hasRoom) 27 = .ok (.i2l, 1) := by decide +kernel
theorem d_Tr_hasRoom_28 : decode (z_c m_Tr_hasRoom) 28 = .ok (.lcmp, 1) := by decide +kernel
theorem d_Tr_hasRoom_29 : decode (z_c m_Tr_hasRoom) 29 = .ok (.ifCond .gt 7, 3) := by decide +kernel
theorem d_Tr_hasRoom_32 : decode (z_c m_Tr_hasRoom) 32 = .ok (.iconst 1, 1) := by decide +kernel
theorem d_Tr_hasRoom_33 : decode (z_c m_Tr_hasRoom) 33 = .ok (.goto 4, 3) := by decide +kernel
theorem d_Tr_hasRoom_36 : decode (z_c m_Tr_hasRoom) 36 = .ok (.iconst 0, 1) := by decide +kernel
theorem d_Tr_hasRoom_37 : decode (z_c m_Tr_hasRoom) 37 = .ok (.ireturn, 1) := by decide +kernel
set_option maxRecDepth 8000 in
theorem b_Tr_hasRoom_0 {X : z_X} {N : Nat} {σ g : z_G} {Q : z_P} {a1 a2 a3 : Int} (hx : z_lay X N σ 0 z_SF z_RF) (h : ((a1 < 0) → Q 0 g) ∧ (¬ (a1 < 0) → (((4 ≤ a1) → Q 0 g) ∧ (¬ (4 ≤ a1) → ((0 ≤ a1 ∧ a1 < 4) ∧ ((((g 8 a1) = (-1)) → Q 0 g) ∧ (¬ ((g 8 a1) = (-1)) → (((a2 < 0) → Q 0 g) ∧ (¬ (a2 < 0) → (((a3 < 0) → Q 0 g) ∧ (¬ (a3 < 0) → ((-9223372036854775808 ≤ (a2 + a3) ∧ (a2 + a3) ≤ 9223372036854775807) ∧ ((((g 8 a1) < (a2 + a3)) → Q 0 g) ∧ (¬ ((g 8 a1) < (a2 + a3)) → Q 1 g)))))))))))))) : z_O X 3 m_Tr_hasRoom [(2, 1), (0, a1), (0, a2), (0, a3)] N σ g Q := by
  refine z_Oenter mi_Tr_hasRoom rfl (fun _ => ?_)
  show z_U X 3 m_Tr_hasRoom 0 [(0, (2, 1)), (1, (0, a1)), (2, (0, a2)), (3, (0, a3))] [] N σ g Q
  refine z_aload_n (i := 0) (c := 1) 0 d_Tr_hasRoom_0 rfl rfl rfl ?_
  refine z_iload_n (i := 1) 1 d_Tr_hasRoom_1 rfl rfl ?_
  refine z_cV (c := 1) (as := [(0, a1)]) (d' := 2) (st := []) d_Tr_hasRoom_2 mi_Tr_isMissing ml_Tr_25 mv_Tr_isMissing se_Tr_isMissing rfl rfl rfl rfl (ks_F_1 hx) rfl rfl (kl_F_1 hx) rfl rfl (b_Tr_isMissing_0 hx ?_)
  refine ⟨fun c1 => ?_, fun c1 => ?_⟩
  · have h := h.1 c1
    intro _
    show z_U X 3 m_Tr_hasRoom 5 [(0, (2, 1)), (1, (0, a1)), (2, (0, a2)), (3, (0, a3))] [(0, 1)] N σ g Q
    refine z_if_ne (tgt := 36) d_Tr_hasRoom_5 (by decide) (fun _ => ?_) (fun c => absurd c (by decide))
    refine z_iconst (n := 0) d_Tr_hasRoom_36 (by decide) ?_
    exact z_zret d_Tr_hasRoom_37 rfl (by decide) (by decide) (by decide) ⟨rfl, rfl, h⟩
  · have h := h.2 c1
    refine ⟨fun c2 => ?_, fun c2 => ?_⟩
    · have h := h.1 c2
      intro _
      show z_U X 3 m_Tr_hasRoom 5 [(0, (2, 1)), (1, (0, a1)), (2, (0, a2)), (3, (0, a3))] [(0, 1)] N σ g Q
      refine z_if_ne (tgt := 36) d_Tr_hasRoom_5 (by decide) (fun _ => ?_) (fun c => absurd c (by decide))
      refine z_iconst (n := 0) d_Tr_hasRoom_36 (by decide) ?_
      exact z_zret d_Tr_hasRoom_37 rfl (by decide) (by decide) (by decide) ⟨rfl, rfl, h⟩
    · have h := h.2 c2
      obtain ⟨c3, h⟩ := h
      refine ⟨c3, ?_⟩
      refine ⟨fun c4 => ?_, fun c4 => ?_⟩
      · have h := h.1 c4
        intro _
        show z_U X 3 m_Tr_hasRoom 5 [(0, (2, 1)), (1, (0, a1)), (2, (0, a2)), (3, (0, a3))] [(0, 1)] N σ g Q
        refine z_if_ne (tgt := 36) d_Tr_hasRoom_5 (by decide) (fun _ => ?_) (fun c => absurd c (by decide))
        refine z_iconst (n := 0) d_Tr_hasRoom_36 (by decide) ?_
        exact z_zret d_Tr_hasRoom_37 rfl (by decide) (by decide) (by decide) ⟨rfl, rfl, h⟩
      · have h := h.2 c4
        intro _
        show z_U X 3 m_Tr_hasRoom 5 [(0, (2, 1)), (1, (0, a1)), (2, (0, a2)), (3, (0, a3))] [(0, 0)] N σ g Q
        refine z_if_ne (tgt := 36) d_Tr_hasRoom_5 (by decide) (fun c => absurd (by decide) c) (fun _ => ?_)
        refine z_iload_n (i := 2) 2 d_Tr_hasRoom_8 rfl rfl ?_
        refine z_if_lt (tgt := 36) d_Tr_hasRoom_9 (by decide) (fun c5 => ?_) (fun c5 => ?_)
        · have h := h.1 c5
          refine z_iconst (n := 0) d_Tr_hasRoom_36 (by decide) ?_
          exact z_zret d_Tr_hasRoom_37 rfl (by decide) (by decide) (by decide) ⟨rfl, rfl, h⟩
        · have h := h.2 c5
          refine z_iload_n (i := 3) 3 d_Tr_hasRoom_12 rfl rfl ?_
          refine z_if_lt (tgt := 36) d_Tr_hasRoom_13 (by decide) (fun c6 => ?_) (fun c6 => ?_)
          · have h := h.1 c6
            refine z_iconst (n := 0) d_Tr_hasRoom_36 (by decide) ?_
            exact z_zret d_Tr_hasRoom_37 rfl (by decide) (by decide) (by decide) ⟨rfl, rfl, h⟩
          · have h := h.2 c6
            refine z_iload_n (i := 2) 2 d_Tr_hasRoom_16 rfl rfl ?_
            refine z_i2l d_Tr_hasRoom_17 ?_
            refine z_iload_n (i := 3) 3 d_Tr_hasRoom_18 rfl rfl ?_
            refine z_i2l d_Tr_hasRoom_19 ?_
            obtain ⟨c7, h⟩ := h
            refine z_ladd d_Tr_hasRoom_20 c7 ?_
            refine z_aload_n (i := 0) (c := 1) 0 d_Tr_hasRoom_21 rfl rfl rfl ?_
            refine z_getr (c := 1) (kI := 2) (r2 := 8) d_Tr_hasRoom_22 fd_Tr_lengths fl_Tr_18 rfl rfl rfl (ks_F_1 hx) (kl_F_1 hx) (kr_F_1_2 hx) ?_
            refine z_iload_n (i := 1) 1 d_Tr_hasRoom_25 rfl rfl ?_
            refine z_iald (c := 8) (m := 4) d_Tr_hasRoom_26 rfl (ks_F_8 hx) (kl_F_8 hx) rfl (by decide) c3 ?_
            refine z_i2l d_Tr_hasRoom_27 ?_
            refine z_lcmp_gt (tgt := 36) d_Tr_hasRoom_28 d_Tr_hasRoom_29 (by decide) (fun c8 => ?_) (fun c8 => ?_)
            · have h := h.1 c8
              refine z_iconst (n := 0) d_Tr_hasRoom_36 (by decide) ?_
              exact z_zret d_Tr_hasRoom_37 rfl (by decide) (by decide) (by decide) ⟨rfl, rfl, h⟩
            · have h := h.2 c8
              refine z_iconst (n := 1) d_Tr_hasRoom_32 (by decide) ?_
              refine z_goto (tgt := 37) d_Tr_hasRoom_33 (by decide) ?_
              exact z_zret d_Tr_hasRoom_37 rfl (by decide) (by decide) (by decide) ⟨rfl, rfl, h⟩
theorem d_Vi_startAt_0 : decode (z_c m_Vi_startAt) 0 = .ok (.aload_n 0, 1) := by decide +kernel
theorem d_Vi_startAt_1 : decode (z_c m_Vi_startAt) 1 = .ok (.iconst 0, 1) := by decide +kernel
theorem d_Vi_startAt_2 : decode (z_c m_Vi_startAt) 2 = .ok (.putfield 21, 3) := by decide +kernel
theorem d_Vi_startAt_5 : decode (z_c m_Vi_startAt) 5 = .ok (.aload_n 0, 1) := by decide +kernel
theorem d_Vi_startAt_6 : decode (z_c m_Vi_startAt) 6 = .ok (.aload_n 1, 1) := by decide +kernel
theorem d_Vi_startAt_7 : decode (z_c m_Vi_startAt) 7 = .ok (.invokevirtual 25, 3) := by decide +kernel
theorem d_Vi_startAt_10 : decode (z_c m_Vi_startAt) 10 = .ok (.return_, 1) := by decide +kernel
set_option maxRecDepth 8000 in
theorem b_Vi_startAt_0 {X : z_X} {N : Nat} {σ g : z_G} {Q : z_P} {o p1 : Nat} (ho : z_lay X N σ o z_SVi z_RVi) (hp1 : z_lay X N σ p1 z_SSp z_RSp) (h : z_O X 2 m_Vi_enter [(2, ((o : Nat) : Int)), (2, ((p1 : Nat) : Int))] N σ (z_up g o 1 0) (fun r0 g0 => Q 0 g0)) : z_O X 3 m_Vi_startAt [(2, ((o : Nat) : Int)), (2, ((p1 : Nat) : Int))] N σ g Q := by
  refine z_Oenter mi_Vi_startAt rfl (fun _ => ?_)
  show z_U X 3 m_Vi_startAt 0 [(0, (2, ((o : Nat) : Int))), (1, (2, ((p1 : Nat) : Int)))] [] N σ g Q
  refine z_aload_n (i := 0) (c := o) 0 d_Vi_startAt_0 rfl rfl rfl ?_
  refine z_iconst (n := 0) d_Vi_startAt_1 (by decide) ?_
  refine z_puti (c := o) (kI := 1) d_Vi_startAt_2 fd_Vi_many fl_Vi_21 pf_Vi_many rfl rfl rfl rfl (ks_Vi_0 ho) (kl_Vi_0 ho) ?_
  refine z_aload_n (i := 0) (c := o) 0 d_Vi_startAt_5 rfl rfl rfl ?_
  refine z_aload_n (i := 1) (c := p1) 1 d_Vi_startAt_6 rfl rfl rfl ?_
  refine z_cV (c := o) (as := [(2, ((p1 : Nat) : Int))]) (d' := 2) (st := []) d_Vi_startAt_7 mi_Vi_enter ml_Vi_25 mv_Vi_enter se_Vi_enter rfl rfl rfl rfl (ks_Vi_0 ho) rfl rfl (kl_Vi_0 ho) rfl rfl (z_Omono h (fun r0 g0 _ h hro => ?_))
  show z_U X 3 m_Vi_startAt 10 [(0, (2, ((o : Nat) : Int))), (1, (2, ((p1 : Nat) : Int)))] [] N σ g0 Q
  exact z_vret d_Vi_startAt_10 rfl (by decide) (by decide) ⟨rfl, rfl, h⟩
theorem d_Wk_holds_0 : decode (z_c m_Wk_holds) 0 = .ok (.aload_n 0, 1) := by decide +kernel
theorem d_Wk_holds_1 : decode (z_c m_Wk_holds) 1 = .ok (.getfield 40, 3) := by decide +kernel
theorem d_Wk_holds_4 : decode (z_c m_Wk_holds) 4 = .ok (.astore_n 2, 1) := by decide +kernel
theorem d_Wk_holds_5 : decode (z_c m_Wk_holds) 5 = .ok (.aload_n 2, 1) := by decide +kernel
theorem d_Wk_holds_6 : decode (z_c m_Wk_holds) 6 = .ok (.getfield 68, 3) := by decide +kernel
theorem d_Wk_holds_9 : decode (z_c m_Wk_holds) 9 = .ok (.iload_n 1, 1) := by decide +kernel
theorem d_Wk_holds_10 : decode (z_c m_Wk_holds) 10 = .ok (.iaload, 1) := by decide +kernel
theorem d_Wk_holds_11 : decode (z_c m_Wk_holds) 11 = .ok (.istore_n 3, 1) := by decide +kernel
theorem d_Wk_holds_12 : decode (z_c m_Wk_holds) 12 = .ok (.aload_n 2, 1) := by decide +kernel
theorem d_Wk_holds_13 : decode (z_c m_Wk_holds) 13 = .ok (.getfield 75, 3) := by decide +kernel
theorem d_Wk_holds_16 : decode (z_c m_Wk_holds) 16 = .ok (.iload_n 1, 1) := by decide +kernel
theorem d_Wk_holds_17 : decode (z_c m_Wk_holds) 17 = .ok (.iaload, 1) := by decide +kernel
theorem d_Wk_holds_18 : decode (z_c m_Wk_holds) 18 = .ok (.istore 4, 2) := by decide +kernel
theorem d_Wk_holds_20 : decode (z_c m_Wk_holds) 20 = .ok (.aload_n 0, 1) := by decide +kernel
theorem d_Wk_holds_21 : decode (z_c m_Wk_holds) 21 = .ok (.getfield 78, 3) := by decide +kernel
theorem d_Wk_holds_24 : decode (z_c m_Wk_holds) 24 = .ok (.astore 5, 2) := by decide +kernel
theorem d_Wk_holds_26 : decode (z_c m_Wk_holds) 26 = .ok (.aload_n 2, 1) := by decide +kernel
theorem d_Wk_holds_27 : decode (z_c m_Wk_holds) 27 = .ok (.getfield 82, 3) := by decide +kernel
theorem d_Wk_holds_30 : decode (z_c m_Wk_holds) 30 = .ok (.iload_n 1, 1) := by decide +kernel
theorem d_Wk_holds_31 : decode (z_c m_Wk_holds) 31 = .ok (.iaload, 1) := by decide +kernel
theorem d_Wk_holds_32 : decode (z_c m_Wk_holds) 32 = .ok (.tableswitch 78 0 2 #[28, 53, 66], 28) := by decide +kernel
theorem d_Wk_holds_60 : decode (z_c m_Wk_holds) 60 = .ok (.aload 5, 2) := by decide +kernel
theorem d_Wk_holds_62 : decode (z_c m_Wk_holds) 62 = .ok (.invokevirtual 85, 3) := by decide +kernel
theorem d_Wk_holds_65 : decode (z_c m_Wk_holds) 65 = .ok (.iload_n 3, 1) := by decide +kernel
theorem d_Wk_holds_66 : decode (z_c m_Wk_holds) 66 = .ok (.if_icmp .ne 17, 3) := by decide +kernel
theorem d_Wk_holds_69 : decode (z_c m_Wk_holds) 69 = .ok (.aload 5, 2) := by decide +kernel
theorem d_Wk_holds_71 : decode (z_c m_Wk_holds) 71 = .ok (.invokevirtual 91, 3) := by decide +kernel
theorem d_Wk_holds_74 : decode (z_c m_Wk_holds) 74 = .ok (.iload 4, 2) := by decide +kernel
theorem d_Wk_holds_76 : decode (z_c m_Wk_holds) 76 = .ok (.if_icmp .ne 7, 3) := by decide +kernel
theorem d_Wk_holds_79 : decode (z_c m_Wk_holds) 79 = .ok (.iconst 1, 1) := by decide +kernel
theorem d_Wk_holds_80 : decode (z_c m_Wk_holds) 80 = .ok (.goto 4, 3) := by decide +kernel
theorem d_Wk_holds_83 : decode (z_c m_Wk_holds) 83 = .ok (.iconst 0, 1) := by decide +kernel
theorem d_Wk_holds_84 : decode (z_c m_Wk_holds) 84 = .ok (.ireturn, 1) := by decide +kernel
theorem d_Wk_holds_85 : decode (z_c m_Wk_holds) 85 = .ok (.aload_n 0, 1) := by decide +kernel
theorem d_Wk_holds_86 : decode (z_c m_Wk_holds) 86 = .ok (.invokevirtual 94, 3) := by decide +kernel
theorem d_Wk_holds_89 : decode (z_c m_Wk_holds) 89 = .ok (.ifCond .lt 7, 3) := by decide +kernel
theorem d_Wk_holds_92 : decode (z_c m_Wk_holds) 92 = .ok (.iconst 1, 1) := by decide +kernel
theorem d_Wk_holds_93 : decode (z_c m_Wk_holds) 93 = .ok (.goto 4, 3) := by decide +kernel
theorem d_Wk_holds_96 : decode (z_c m_Wk_holds) 96 = .ok (.iconst 0, 1) := by decide +kernel
theorem d_Wk_holds_97 : decode (z_c m_Wk_holds) 97 = .ok (.ireturn, 1) := by decide +kernel
theorem d_Wk_holds_98 : decode (z_c m_Wk_holds) 98 = .ok (.aload 5, 2) := by decide +kernel
theorem d_Wk_holds_100 : decode (z_c m_Wk_holds) 100 = .ok (.getfield 97, 3) := by decide +kernel
theorem d_Wk_holds_103 : decode (z_c m_Wk_holds) 103 = .ok (.iload_n 3, 1) := by decide +kernel
theorem d_Wk_holds_104 : decode (z_c m_Wk_holds) 104 = .ok (.iload 4, 2) := by decide +kernel
theorem d_Wk_holds_106 : decode (z_c m_Wk_holds) 106 = .ok (.invokestatic 100, 3) := by decide +kernel
theorem d_Wk_holds_109 : decode (z_c m_Wk_holds) 109 = .ok (.ireturn, 1) := by decide +kernel
theorem d_Wk_holds_110 : decode (z_c m_Wk_holds) 110 = .ok (.aload 5, 2) := by decide +kernel
theorem d_Wk_holds_112 : decode (z_c m_Wk_holds) 112 = .ok (.invokevirtual 91, 3) := by decide +kernel
theorem d_Wk_holds_115 : decode (z_c m_Wk_holds) 115 = .ok (.iload_n 3, 1) := by decide +kernel
theorem d_Wk_holds_116 : decode (z_c m_Wk_holds) 116 = .ok (.iload 4, 2) := by decide +kernel
theorem d_Wk_holds_118 : decode (z_c m_Wk_holds) 118 = .ok (.invokestatic 100, 3) := by decide +kernel
theorem d_Wk_holds_121 : decode (z_c m_Wk_holds) 121 = .ok (.ireturn, 1) := by decide +kernel
set_option maxRecDepth 8000 in
theorem b_Wk_holds_0 {X : z_X} {N : Nat} {σ g : z_G} {Q : z_P} {a1 : Int} {p0 : Nat} (hp0 : z_lay X N σ p0 z_SBd z_RBd) (h : (0 ≤ a1 ∧ a1 < 60) ∧ ((((g (p0 + 10) a1) = 0) → ((-2147483648 ≤ ((g (p0 + 1) 0) + (g (p0 + 1) 2)) ∧ ((g (p0 + 1) 0) + (g (p0 + 1) 2)) ≤ 2147483647) ∧ (((((g (p0 + 1) 0) + (g (p0 + 1) 2)) = (g (p0 + 11) a1)) → ((-2147483648 ≤ ((g (p0 + 1) 1) + (g (p0 + 1) 3)) ∧ ((g (p0 + 1) 1) + (g (p0 + 1) 3)) ≤ 2147483647) ∧ (((((g (p0 + 1) 1) + (g (p0 + 1) 3)) = (g (p0 + 12) a1)) → Q 1 g) ∧ (¬ (((g (p0 + 1) 1) + (g (p0 + 1) 3)) = (g (p0 + 12) a1)) → Q 0 g)))) ∧ (¬ (((g (p0 + 1) 0) + (g (p0 + 1) 2)) = (g (p0 + 11) a1)) → Q 0 g)))) ∧ (((g (p0 + 10) a1) = 1) → (z_O X 2 m_Bd_pinHere [(2, ((p0 : Nat) : Int))] N σ g (fun r0 g0 => (((r0 < 0) → Q 0 g0) ∧ (¬ (r0 < 0) → Q 1 g0))))) ∧ (((g (p0 + 10) a1) = 2) → ((((g (p0 + 11) a1) = 60) → ((((g (p0 + 12) a1) ≤ (g (p0 + 1) 4)) → Q 0 g) ∧ (¬ ((g (p0 + 12) a1) ≤ (g (p0 + 1) 4)) → Q 1 g))) ∧ (¬ ((g (p0 + 11) a1) = 60) → ((((g (p0 + 11) a1) = 62) → ((((g (p0 + 1) 4) ≤ (g (p0 + 12) a1)) → Q 0 g) ∧ (¬ ((g (p0 + 1) 4) ≤ (g (p0 + 12) a1)) → Q 1 g))) ∧ (¬ ((g (p0 + 11) a1) = 62) → ((((g (p0 + 1) 4) = (g (p0 + 12) a1)) → Q 1 g) ∧ (¬ ((g (p0 + 1) 4) = (g (p0 + 12) a1)) → Q 0 g))))))) ∧ ((¬ ((g (p0 + 10) a1) = 0) ∧ ¬ ((g (p0 + 10) a1) = 1) ∧ ¬ ((g (p0 + 10) a1) = 2)) → ((-2147483648 ≤ ((g (p0 + 1) 1) + (g (p0 + 1) 3)) ∧ ((g (p0 + 1) 1) + (g (p0 + 1) 3)) ≤ 2147483647) ∧ ((((g (p0 + 11) a1) = 60) → ((((g (p0 + 12) a1) ≤ ((g (p0 + 1) 1) + (g (p0 + 1) 3))) → Q 0 g) ∧ (¬ ((g (p0 + 12) a1) ≤ ((g (p0 + 1) 1) + (g (p0 + 1) 3))) → Q 1 g))) ∧ (¬ ((g (p0 + 11) a1) = 60) → ((((g (p0 + 11) a1) = 62) → (((((g (p0 + 1) 1) + (g (p0 + 1) 3)) ≤ (g (p0 + 12) a1)) → Q 0 g) ∧ (¬ (((g (p0 + 1) 1) + (g (p0 + 1) 3)) ≤ (g (p0 + 12) a1)) → Q 1 g))) ∧ (¬ ((g (p0 + 11) a1) = 62) → (((((g (p0 + 1) 1) + (g (p0 + 1) 3)) = (g (p0 + 12) a1)) → Q 1 g) ∧ (¬ (((g (p0 + 1) 1) + (g (p0 + 1) 3)) = (g (p0 + 12) a1)) → Q 0 g)))))))))) : z_O X 3 m_Wk_holds [(2, ((p0 : Nat) : Int)), (0, a1)] N σ g Q := by
  refine z_Oenter mi_Wk_holds rfl (fun _ => ?_)
  show z_U X 3 m_Wk_holds 0 [(0, (2, ((p0 : Nat) : Int))), (1, (0, a1))] [] N σ g Q
  refine z_aload_n (i := 0) (c := p0) 0 d_Wk_holds_0 rfl rfl rfl ?_
  refine z_getr (c := p0) (kI := 5) (r2 := ((p0 + 8 : Nat) : Int)) d_Wk_holds_1 fd_Bd_program fl_Wk_40 rfl rfl rfl (ks_Bd_0 hp0) (kl_Bd_0 hp0) (kr_Bd_0_5 hp0) ?_
  refine z_astore_n (i := 2) (c := (p0 + 8)) (ls' := [(2, (2, ((p0 + 8 : Nat) : Int))), (0, (2, ((p0 : Nat) : Int))), (1, (0, a1))]) d_Wk_holds_4 rfl rfl rfl rfl ?_
  refine z_aload_n (i := 2) (c := (p0 + 8)) 0 d_Wk_holds_5 rfl rfl rfl ?_
  refine z_getr (c := (p0 + 8)) (kI := 5) (r2 := ((p0 + 11 : Nat) : Int)) d_Wk_holds_6 fd_Pg_firsts fl_Wk_68 rfl rfl rfl (ks_Bd_8 hp0) (kl_Bd_8 hp0) (kr_Bd_8_5 hp0) ?_
  refine z_iload_n (i := 1) 2 d_Wk_holds_9 rfl rfl ?_
  obtain ⟨c1, h⟩ := h
  refine z_iald (c := (p0 + 11)) (m := 60) d_Wk_holds_10 rfl (ks_Bd_11 hp0) (kl_Bd_11 hp0) rfl (by decide) c1 ?_
  refine z_istore_n (i := 3) (ls' := [(3, (0, g (p0 + 11) a1)), (2, (2, ((p0 + 8 : Nat) : Int))), (0, (2, ((p0 : Nat) : Int))), (1, (0, a1))]) d_Wk_holds_11 rfl rfl rfl ?_
  refine z_aload_n (i := 2) (c := (p0 + 8)) 1 d_Wk_holds_12 rfl rfl rfl ?_
  refine z_getr (c := (p0 + 8)) (kI := 6) (r2 := ((p0 + 12 : Nat) : Int)) d_Wk_holds_13 fd_Pg_seconds fl_Wk_75 rfl rfl rfl (ks_Bd_8 hp0) (kl_Bd_8 hp0) (kr_Bd_8_6 hp0) ?_
  refine z_iload_n (i := 1) 3 d_Wk_holds_16 rfl rfl ?_
  refine z_iald (c := (p0 + 12)) (m := 60) d_Wk_holds_17 rfl (ks_Bd_12 hp0) (kl_Bd_12 hp0) rfl (by decide) c1 ?_
  refine z_istore (ls' := [(4, (0, g (p0 + 12) a1)), (3, (0, g (p0 + 11) a1)), (2, (2, ((p0 + 8 : Nat) : Int))), (0, (2, ((p0 : Nat) : Int))), (1, (0, a1))]) d_Wk_holds_18 rfl rfl ?_
  refine z_aload_n (i := 0) (c := p0) 3 d_Wk_holds_20 rfl rfl rfl ?_
  refine z_getr (c := p0) (kI := 2) (r2 := ((p0 + 1 : Nat) : Int)) d_Wk_holds_21 fd_Bd_walker fl_Wk_78 rfl rfl rfl (ks_Bd_0 hp0) (kl_Bd_0 hp0) (kr_Bd_0_2 hp0) ?_
  refine z_astore (c := (p0 + 1)) (ls' := [(5, (2, ((p0 + 1 : Nat) : Int))), (4, (0, g (p0 + 12) a1)), (3, (0, g (p0 + 11) a1)), (2, (2, ((p0 + 8 : Nat) : Int))), (0, (2, ((p0 : Nat) : Int))), (1, (0, a1))]) d_Wk_holds_24 rfl rfl rfl ?_
  refine z_aload_n (i := 2) (c := (p0 + 8)) 3 d_Wk_holds_26 rfl rfl rfl ?_
  refine z_getr (c := (p0 + 8)) (kI := 4) (r2 := ((p0 + 10 : Nat) : Int)) d_Wk_holds_27 fd_Pg_tests fl_Wk_82 rfl rfl rfl (ks_Bd_8 hp0) (kl_Bd_8 hp0) (kr_Bd_8_4 hp0) ?_
  refine z_iload_n (i := 1) 5 d_Wk_holds_30 rfl rfl ?_
  refine z_iald (c := (p0 + 10)) (m := 60) d_Wk_holds_31 rfl (ks_Bd_10 hp0) (kl_Bd_10 hp0) rfl (by decide) c1 ?_
  by_cases c3 : (g (p0 + 10) a1) = 0
  · have h := h.1 c3
    refine z_ti c3 ?_
    refine z_tab (off := 28) (tgt := 60) d_Wk_holds_32 (by decide) (by decide) (by decide) (by decide) ?_
    refine z_aload (c := (p0 + 1)) 0 d_Wk_holds_60 rfl rfl ?_
    refine z_cV (c := (p0 + 1)) (as := []) (d' := 1) (st := []) d_Wk_holds_62 mi_Sp_ownTop ml_Wk_85 mv_Sp_ownTop se_Sp_ownTop rfl rfl rfl rfl (ks_Bd_1 hp0) rfl rfl (kl_Bd_1 hp0) rfl rfl (b_Sp_ownTop_0 (ky_Bd_1 hp0) ?_)
    obtain ⟨c4, h⟩ := h
    refine ⟨c4, ?_⟩
    intro _
    show z_U X 3 m_Wk_holds 65 [(5, (2, ((p0 + 1 : Nat) : Int))), (4, (0, g (p0 + 12) a1)), (3, (0, g (p0 + 11) a1)), (2, (2, ((p0 + 8 : Nat) : Int))), (0, (2, ((p0 : Nat) : Int))), (1, (0, a1))] [(0, (g (p0 + 1) 0) + (g (p0 + 1) 2))] N σ g Q
    refine z_iload_n (i := 3) 2 d_Wk_holds_65 rfl rfl ?_
    refine z_icmp_ne (tgt := 83) d_Wk_holds_66 (by decide) (fun c5 => ?_) (fun c5 => ?_)
    · have h := h.2 c5
      refine z_iconst (n := 0) d_Wk_holds_83 (by decide) ?_
      exact z_zret d_Wk_holds_84 rfl (by decide) (by decide) (by decide) ⟨rfl, rfl, h⟩
    · have h := h.1 c5
      refine z_aload (c := (p0 + 1)) 0 d_Wk_holds_69 rfl rfl ?_
      refine z_cV (c := (p0 + 1)) (as := []) (d' := 1) (st := []) d_Wk_holds_71 mi_Sp_ownBottom ml_Wk_91 mv_Sp_ownBottom se_Sp_ownBottom rfl rfl rfl rfl (ks_Bd_1 hp0) rfl rfl (kl_Bd_1 hp0) rfl rfl (b_Sp_ownBottom_0 (ky_Bd_1 hp0) ?_)
      obtain ⟨c6, h⟩ := h
      refine ⟨c6, ?_⟩
      intro _
      show z_U X 3 m_Wk_holds 74 [(5, (2, ((p0 + 1 : Nat) : Int))), (4, (0, g (p0 + 12) a1)), (3, (0, g (p0 + 11) a1)), (2, (2, ((p0 + 8 : Nat) : Int))), (0, (2, ((p0 : Nat) : Int))), (1, (0, a1))] [(0, (g (p0 + 1) 1) + (g (p0 + 1) 3))] N σ g Q
      refine z_iload 1 d_Wk_holds_74 rfl ?_
      refine z_icmp_ne (tgt := 83) d_Wk_holds_76 (by decide) (fun c7 => ?_) (fun c7 => ?_)
      · have h := h.2 c7
        refine z_iconst (n := 0) d_Wk_holds_83 (by decide) ?_
        exact z_zret d_Wk_holds_84 rfl (by decide) (by decide) (by decide) ⟨rfl, rfl, h⟩
      · have h := h.1 c7
        refine z_iconst (n := 1) d_Wk_holds_79 (by decide) ?_
        refine z_goto (tgt := 84) d_Wk_holds_80 (by decide) ?_
        exact z_zret d_Wk_holds_84 rfl (by decide) (by decide) (by decide) ⟨rfl, rfl, h⟩
  have h := h.2
  by_cases c8 : (g (p0 + 10) a1) = 1
  · have h := h.1 c8
    refine z_ti c8 ?_
    refine z_tab (off := 53) (tgt := 85) d_Wk_holds_32 (by decide) (by decide) (by decide) (by decide) ?_
    refine z_aload_n (i := 0) (c := p0) 4 d_Wk_holds_85 rfl rfl rfl ?_
    refine z_cV (c := p0) (as := []) (d' := 2) (st := []) d_Wk_holds_86 mi_Bd_pinHere ml_Wk_94 mv_Bd_pinHere se_Bd_pinHere rfl rfl rfl rfl (ks_Bd_0 hp0) rfl rfl (kl_Bd_0 hp0) rfl rfl (z_Omono h (fun r0 g0 _ h hro => ?_))
    show z_U X 3 m_Wk_holds 89 [(5, (2, ((p0 + 1 : Nat) : Int))), (4, (0, g (p0 + 12) a1)), (3, (0, g (p0 + 11) a1)), (2, (2, ((p0 + 8 : Nat) : Int))), (0, (2, ((p0 : Nat) : Int))), (1, (0, a1))] [(0, r0)] N σ g0 Q
    refine z_if_lt (tgt := 96) d_Wk_holds_89 (by decide) (fun c9 => ?_) (fun c9 => ?_)
    · have h := h.1 c9
      refine z_iconst (n := 0) d_Wk_holds_96 (by decide) ?_
      exact z_zret d_Wk_holds_97 rfl (by decide) (by decide) (by decide) ⟨rfl, rfl, h⟩
    · have h := h.2 c9
      refine z_iconst (n := 1) d_Wk_holds_92 (by decide) ?_
      refine z_goto (tgt := 97) d_Wk_holds_93 (by decide) ?_
      exact z_zret d_Wk_holds_97 rfl (by decide) (by decide) (by decide) ⟨rfl, rfl, h⟩
  have h := h.2
  by_cases c10 : (g (p0 + 10) a1) = 2
  · have h := h.1 c10
    refine z_ti c10 ?_
    refine z_tab (off := 66) (tgt := 98) d_Wk_holds_32 (by decide) (by decide) (by decide) (by decide) ?_
    refine z_aload (c := (p0 + 1)) 0 d_Wk_holds_98 rfl rfl ?_
    refine z_geti (c := (p0 + 1)) (kI := 4) d_Wk_holds_100 fd_Sp_deep fl_Wk_97 (Or.inl rfl) rfl rfl (ks_Bd_1 hp0) (kl_Bd_1 hp0) ?_
    refine z_iload_n (i := 3) 2 d_Wk_holds_103 rfl rfl ?_
    refine z_iload 1 d_Wk_holds_104 rfl ?_
    refine z_cS (as := [(0, g (p0 + 1) 4), (0, g (p0 + 11) a1), (0, g (p0 + 12) a1)]) (d' := 1) (st := []) d_Wk_holds_106 mi_Wk_compares ml_Wk_100 ms_Wk_compares rfl rfl rfl rfl rfl (b_Wk_compares_0  ?_)
    refine ⟨fun c11 => ?_, fun c11 => ?_⟩
    · have h := h.1 c11
      refine ⟨fun c12 => ?_, fun c12 => ?_⟩
      · have h := h.1 c12
        intro _
        show z_U X 3 m_Wk_holds 109 [(5, (2, ((p0 + 1 : Nat) : Int))), (4, (0, g (p0 + 12) a1)), (3, (0, g (p0 + 11) a1)), (2, (2, ((p0 + 8 : Nat) : Int))), (0, (2, ((p0 : Nat) : Int))), (1, (0, a1))] [(0, 0)] N σ g Q
        exact z_zret d_Wk_holds_109 rfl (by decide) (by decide) (by decide) ⟨rfl, rfl, h⟩
      · have h := h.2 c12
        intro _
        show z_U X 3 m_Wk_holds 109 [(5, (2, ((p0 + 1 : Nat) : Int))), (4, (0, g (p0 + 12) a1)), (3, (0, g (p0 + 11) a1)), (2, (2, ((p0 + 8 : Nat) : Int))), (0, (2, ((p0 : Nat) : Int))), (1, (0, a1))] [(0, 1)] N σ g Q
        exact z_zret d_Wk_holds_109 rfl (by decide) (by decide) (by decide) ⟨rfl, rfl, h⟩
    · have h := h.2 c11
      refine ⟨fun c13 => ?_, fun c13 => ?_⟩
      · have h := h.1 c13
        refine ⟨fun c14 => ?_, fun c14 => ?_⟩
        · have h := h.1 c14
          intro _
          show z_U X 3 m_Wk_holds 109 [(5, (2, ((p0 + 1 : Nat) : Int))), (4, (0, g (p0 + 12) a1)), (3, (0, g (p0 + 11) a1)), (2, (2, ((p0 + 8 : Nat) : Int))), (0, (2, ((p0 : Nat) : Int))), (1, (0, a1))] [(0, 0)] N σ g Q
          exact z_zret d_Wk_holds_109 rfl (by decide) (by decide) (by decide) ⟨rfl, rfl, h⟩
        · have h := h.2 c14
          intro _
          show z_U X 3 m_Wk_holds 109 [(5, (2, ((p0 + 1 : Nat) : Int))), (4, (0, g (p0 + 12) a1)), (3, (0, g (p0 + 11) a1)), (2, (2, ((p0 + 8 : Nat) : Int))), (0, (2, ((p0 : Nat) : Int))), (1, (0, a1))] [(0, 1)] N σ g Q
          exact z_zret d_Wk_holds_109 rfl (by decide) (by decide) (by decide) ⟨rfl, rfl, h⟩
      · have h := h.2 c13
        refine ⟨fun c15 => ?_, fun c15 => ?_⟩
        · have h := h.1 c15
          intro _
          show z_U X 3 m_Wk_holds 109 [(5, (2, ((p0 + 1 : Nat) : Int))), (4, (0, g (p0 + 12) a1)), (3, (0, g (p0 + 11) a1)), (2, (2, ((p0 + 8 : Nat) : Int))), (0, (2, ((p0 : Nat) : Int))), (1, (0, a1))] [(0, 1)] N σ g Q
          exact z_zret d_Wk_holds_109 rfl (by decide) (by decide) (by decide) ⟨rfl, rfl, h⟩
        · have h := h.2 c15
          intro _
          show z_U X 3 m_Wk_holds 109 [(5, (2, ((p0 + 1 : Nat) : Int))), (4, (0, g (p0 + 12) a1)), (3, (0, g (p0 + 11) a1)), (2, (2, ((p0 + 8 : Nat) : Int))), (0, (2, ((p0 : Nat) : Int))), (1, (0, a1))] [(0, 0)] N σ g Q
          exact z_zret d_Wk_holds_109 rfl (by decide) (by decide) (by decide) ⟨rfl, rfl, h⟩
  have h := h.2
  have h := h ⟨c3, c8, c10⟩
  refine z_tabo (tgt := 110) d_Wk_holds_32 ((Int.lt_or_le (g (p0 + 10) a1) 0).elim Or.inl (fun q => Or.inr (z_st (z_st (z_st q c3) c8) c10))) (by decide) ?_
  refine z_aload (c := (p0 + 1)) 0 d_Wk_holds_110 rfl rfl ?_
  refine z_cV (c := (p0 + 1)) (as := []) (d' := 1) (st := []) d_Wk_holds_112 mi_Sp_ownBottom ml_Wk_91 mv_Sp_ownBottom se_Sp_ownBottom rfl rfl rfl rfl (ks_Bd_1 hp0) rfl rfl (kl_Bd_1 hp0) rfl rfl (b_Sp_ownBottom_0 (ky_Bd_1 hp0) ?_)
  obtain ⟨c16, h⟩ := h
  refine ⟨c16, ?_⟩
  intro _
  show z_U X 3 m_Wk_holds 115 [(5, (2, ((p0 + 1 : Nat) : Int))), (4, (0, g (p0 + 12) a1)), (3, (0, g (p0 + 11) a1)), (2, (2, ((p0 + 8 : Nat) : Int))), (0, (2, ((p0 : Nat) : Int))), (1, (0, a1))] [(0, (g (p0 + 1) 1) + (g (p0 + 1) 3))] N σ g Q
  refine z_iload_n (i := 3) 2 d_Wk_holds_115 rfl rfl ?_
  refine z_iload 1 d_Wk_holds_116 rfl ?_
  refine z_cS (as := [(0, (g (p0 + 1) 1) + (g (p0 + 1) 3)), (0, g (p0 + 11) a1), (0, g (p0 + 12) a1)]) (d' := 1) (st := []) d_Wk_holds_118 mi_Wk_compares ml_Wk_100 ms_Wk_compares rfl rfl rfl rfl rfl (b_Wk_compares_0  ?_)
  refine ⟨fun c17 => ?_, fun c17 => ?_⟩
  · have h := h.1 c17
    refine ⟨fun c18 => ?_, fun c18 => ?_⟩
    · have h := h.1 c18
      intro _
      show z_U X 3 m_Wk_holds 121 [(5, (2, ((p0 + 1 : Nat) : Int))), (4, (0, g (p0 + 12) a1)), (3, (0, g (p0 + 11) a1)), (2, (2, ((p0 + 8 : Nat) : Int))), (0, (2, ((p0 : Nat) : Int))), (1, (0, a1))] [(0, 0)] N σ g Q
      exact z_zret d_Wk_holds_121 rfl (by decide) (by decide) (by decide) ⟨rfl, rfl, h⟩
    · have h := h.2 c18
      intro _
      show z_U X 3 m_Wk_holds 121 [(5, (2, ((p0 + 1 : Nat) : Int))), (4, (0, g (p0 + 12) a1)), (3, (0, g (p0 + 11) a1)), (2, (2, ((p0 + 8 : Nat) : Int))), (0, (2, ((p0 : Nat) : Int))), (1, (0, a1))] [(0, 1)] N σ g Q
      exact z_zret d_Wk_holds_121 rfl (by decide) (by decide) (by decide) ⟨rfl, rfl, h⟩
  · have h := h.2 c17
    refine ⟨fun c19 => ?_, fun c19 => ?_⟩
    · have h := h.1 c19
      refine ⟨fun c20 => ?_, fun c20 => ?_⟩
      · have h := h.1 c20
        intro _
        show z_U X 3 m_Wk_holds 121 [(5, (2, ((p0 + 1 : Nat) : Int))), (4, (0, g (p0 + 12) a1)), (3, (0, g (p0 + 11) a1)), (2, (2, ((p0 + 8 : Nat) : Int))), (0, (2, ((p0 : Nat) : Int))), (1, (0, a1))] [(0, 0)] N σ g Q
        exact z_zret d_Wk_holds_121 rfl (by decide) (by decide) (by decide) ⟨rfl, rfl, h⟩
      · have h := h.2 c20
        intro _
        show z_U X 3 m_Wk_holds 121 [(5, (2, ((p0 + 1 : Nat) : Int))), (4, (0, g (p0 + 12) a1)), (3, (0, g (p0 + 11) a1)), (2, (2, ((p0 + 8 : Nat) : Int))), (0, (2, ((p0 : Nat) : Int))), (1, (0, a1))] [(0, 1)] N σ g Q
        exact z_zret d_Wk_holds_121 rfl (by decide) (by decide) (by decide) ⟨rfl, rfl, h⟩
    · have h := h.2 c19
      refine ⟨fun c21 => ?_, fun c21 => ?_⟩
      · have h := h.1 c21
        intro _
        show z_U X 3 m_Wk_holds 121 [(5, (2, ((p0 + 1 : Nat) : Int))), (4, (0, g (p0 + 12) a1)), (3, (0, g (p0 + 11) a1)), (2, (2, ((p0 + 8 : Nat) : Int))), (0, (2, ((p0 : Nat) : Int))), (1, (0, a1))] [(0, 1)] N σ g Q
        exact z_zret d_Wk_holds_121 rfl (by decide) (by decide) (by decide) ⟨rfl, rfl, h⟩
      · have h := h.2 c21
        intro _
        show z_U X 3 m_Wk_holds 121 [(5, (2, ((p0 + 1 : Nat) : Int))), (4, (0, g (p0 + 12) a1)), (3, (0, g (p0 + 11) a1)), (2, (2, ((p0 + 8 : Nat) : Int))), (0, (2, ((p0 : Nat) : Int))), (1, (0, a1))] [(0, 0)] N σ g Q
        exact z_zret d_Wk_holds_121 rfl (by decide) (by decide) (by decide) ⟨rfl, rfl, h⟩
theorem d_Wk_lifts_0 : decode (z_c m_Wk_lifts) 0 = .ok (.aload_n 1, 1) := by decide +kernel
theorem d_Wk_lifts_1 : decode (z_c m_Wk_lifts) 1 = .ok (.invokevirtual 94, 3) := by decide +kernel
theorem d_Wk_lifts_4 : decode (z_c m_Wk_lifts) 4 = .ok (.istore_n 2, 1) := by decide +kernel
theorem d_Wk_lifts_5 : decode (z_c m_Wk_lifts) 5 = .ok (.iload_n 2, 1) := by decide +kernel
theorem d_Wk_lifts_6 : decode (z_c m_Wk_lifts) 6 = .ok (.ifCond .ge 5, 3) := by decide +kernel
theorem d_Wk_lifts_9 : decode (z_c m_Wk_lifts) 9 = .ok (.iconst 0, 1) := by decide +kernel
theorem d_Wk_lifts_10 : decode (z_c m_Wk_lifts) 10 = .ok (.ireturn, 1) := by decide +kernel
theorem d_Wk_lifts_11 : decode (z_c m_Wk_lifts) 11 = .ok (.aload_n 1, 1) := by decide +kernel
theorem d_Wk_lifts_12 : decode (z_c m_Wk_lifts) 12 = .ok (.getfield 132, 3) := by decide +kernel
theorem d_Wk_lifts_15 : decode (z_c m_Wk_lifts) 15 = .ok (.iload_n 2, 1) := by decide +kernel
theorem d_Wk_lifts_16 : decode (z_c m_Wk_lifts) 16 = .ok (.invokevirtual 144, 3) := by decide +kernel
theorem d_Wk_lifts_19 : decode (z_c m_Wk_lifts) 19 = .ok (.pop, 1) := by decide +kernel
theorem d_Wk_lifts_20 : decode (z_c m_Wk_lifts) 20 = .ok (.aload_n 0, 1) := by decide +kernel
theorem d_Wk_lifts_21 : decode (z_c m_Wk_lifts) 21 = .ok (.dup, 1) := by decide +kernel
theorem d_Wk_lifts_22 : decode (z_c m_Wk_lifts) 22 = .ok (.getfield 30, 3) := by decide +kernel
theorem d_Wk_lifts_25 : decode (z_c m_Wk_lifts) 25 = .ok (.iconst 1, 1) := by decide +kernel
theorem d_Wk_lifts_26 : decode (z_c m_Wk_lifts) 26 = .ok (.iadd, 1) := by decide +kernel
theorem d_Wk_lifts_27 : decode (z_c m_Wk_lifts) 27 = .ok (.putfield 30, 3) := by decide +kernel
theorem d_Wk_lifts_30 : decode (z_c m_Wk_lifts) 30 = .ok (.iconst 1, 1) := by decide +kernel
theorem d_Wk_lifts_31 : decode (z_c m_Wk_lifts) 31 = .ok (.ireturn, 1) := by decide +kernel
set_option maxRecDepth 8000 in
theorem b_Wk_lifts_0 {X : z_X} {N : Nat} {σ g : z_G} {Q : z_P} {o p1 : Nat} (ho : z_lay X N σ o z_SWk z_RWk) (hp1 : z_lay X N σ p1 z_SBd z_RBd) (h : z_O X 2 m_Bd_pinHere [(2, ((p1 : Nat) : Int))] N σ g (fun r0 g0 => (((0 ≤ r0) → (z_O X 1 m_Pi_drop [(2, ((p1 + 2 : Nat) : Int)), (0, r0)] N σ g0 (fun r1 g1 => ((-2147483648 ≤ ((g1 o 4) + 1) ∧ ((g1 o 4) + 1) ≤ 2147483647) ∧ Q 1 (z_up g1 o 4 ((g1 o 4) + 1)))))) ∧ (¬ (0 ≤ r0) → Q 0 g0)))) : z_O X 3 m_Wk_lifts [(2, ((o : Nat) : Int)), (2, ((p1 : Nat) : Int))] N σ g Q := by
  refine z_Oenter mi_Wk_lifts rfl (fun _ => ?_)
  show z_U X 3 m_Wk_lifts 0 [(0, (2, ((o : Nat) : Int))), (1, (2, ((p1 : Nat) : Int)))] [] N σ g Q
  refine z_aload_n (i := 1) (c := p1) 1 d_Wk_lifts_0 rfl rfl rfl ?_
  refine z_cV (c := p1) (as := []) (d' := 2) (st := []) d_Wk_lifts_1 mi_Bd_pinHere ml_Wk_94 mv_Bd_pinHere se_Bd_pinHere rfl rfl rfl rfl (ks_Bd_0 hp1) rfl rfl (kl_Bd_0 hp1) rfl rfl (z_Omono h (fun r0 g0 _ h hro => ?_))
  show z_U X 3 m_Wk_lifts 4 [(0, (2, ((o : Nat) : Int))), (1, (2, ((p1 : Nat) : Int)))] [(0, r0)] N σ g0 Q
  refine z_istore_n (i := 2) (ls' := [(2, (0, r0)), (0, (2, ((o : Nat) : Int))), (1, (2, ((p1 : Nat) : Int)))]) d_Wk_lifts_4 rfl rfl rfl ?_
  refine z_iload_n (i := 2) 0 d_Wk_lifts_5 rfl rfl ?_
  refine z_if_ge (tgt := 11) d_Wk_lifts_6 (by decide) (fun c1 => ?_) (fun c1 => ?_)
  · have h := h.1 c1
    refine z_aload_n (i := 1) (c := p1) 2 d_Wk_lifts_11 rfl rfl rfl ?_
    refine z_getr (c := p1) (kI := 3) (r2 := ((p1 + 2 : Nat) : Int)) d_Wk_lifts_12 fd_Bd_pins fl_Wk_132 rfl rfl rfl (ks_Bd_0 hp1) (kl_Bd_0 hp1) (kr_Bd_0_3 hp1) ?_
    refine z_iload_n (i := 2) 0 d_Wk_lifts_15 rfl rfl ?_
    refine z_cV (c := (p1 + 2)) (as := [(0, r0)]) (d' := 1) (st := []) d_Wk_lifts_16 mi_Pi_drop ml_Wk_144 mv_Pi_drop se_Pi_drop rfl rfl rfl rfl (ks_Bd_2 hp1) rfl rfl (kl_Bd_2 hp1) rfl rfl (z_Omono h (fun r1 g1 _ h hro => ?_))
    show z_U X 3 m_Wk_lifts 19 [(2, (0, r0)), (0, (2, ((o : Nat) : Int))), (1, (2, ((p1 : Nat) : Int)))] [(0, r1)] N σ g1 Q
    refine z_pop d_Wk_lifts_19 rfl ?_
    refine z_aload_n (i := 0) (c := o) 1 d_Wk_lifts_20 rfl rfl rfl ?_
    refine z_dup d_Wk_lifts_21 rfl ?_
    refine z_geti (c := o) (kI := 4) d_Wk_lifts_22 fd_Wk_lifted fl_Wk_30 (Or.inl rfl) rfl rfl (ks_Wk_0 ho) (kl_Wk_0 ho) ?_
    refine z_iconst (n := 1) d_Wk_lifts_25 (by decide) ?_
    obtain ⟨c2, h⟩ := h
    refine z_iadd d_Wk_lifts_26 c2 ?_
    refine z_puti (c := o) (kI := 4) d_Wk_lifts_27 fd_Wk_lifted fl_Wk_30 pf_Wk_lifted rfl rfl rfl rfl (ks_Wk_0 ho) (kl_Wk_0 ho) ?_
    refine z_iconst (n := 1) d_Wk_lifts_30 (by decide) ?_
    exact z_zret d_Wk_lifts_31 rfl (by decide) (by decide) (by decide) ⟨rfl, rfl, h⟩
  · have h := h.2 c1
    refine z_iconst (n := 0) d_Wk_lifts_9 (by decide) ?_
    exact z_zret d_Wk_lifts_10 rfl (by decide) (by decide) (by decide) ⟨rfl, rfl, h⟩
theorem d_Wk_pins_0 : decode (z_c m_Wk_pins) 0 = .ok (.aload_n 1, 1) := by decide +kernel
theorem d_Wk_pins_1 : decode (z_c m_Wk_pins) 1 = .ok (.getfield 78, 3) := by decide +kernel
theorem d_Wk_pins_4 : decode (z_c m_Wk_pins) 4 = .ok (.invokevirtual 85, 3) := by decide +kernel
theorem d_Wk_pins_7 : decode (z_c m_Wk_pins) 7 = .ok (.istore_n 3, 1) := by decide +kernel
theorem d_Wk_pins_8 : decode (z_c m_Wk_pins) 8 = .ok (.aload_n 1, 1) := by decide +kernel
theorem d_Wk_pins_9 : decode (z_c m_Wk_pins) 9 = .ok (.getfield 78, 3) := by decide +kernel
theorem d_Wk_pins_12 : decode (z_c m_Wk_pins) 12 = .ok (.invokevirtual 91, 3) := by decide +kernel
theorem d_Wk_pins_15 : decode (z_c m_Wk_pins) 15 = .ok (.istore 4, 2) := by decide +kernel
theorem d_Wk_pins_17 : decode (z_c m_Wk_pins) 17 = .ok (.aload_n 1, 1) := by decide +kernel
theorem d_Wk_pins_18 : decode (z_c m_Wk_pins) 18 = .ok (.getfield 132, 3) := by decide +kernel
theorem d_Wk_pins_21 : decode (z_c m_Wk_pins) 21 = .ok (.iload_n 3, 1) := by decide +kernel
theorem d_Wk_pins_22 : decode (z_c m_Wk_pins) 22 = .ok (.iload 4, 2) := by decide +kernel
theorem d_Wk_pins_24 : decode (z_c m_Wk_pins) 24 = .ok (.iload_n 2, 1) := by decide +kernel
theorem d_Wk_pins_25 : decode (z_c m_Wk_pins) 25 = .ok (.invokevirtual 135, 3) := by decide +kernel
theorem d_Wk_pins_28 : decode (z_c m_Wk_pins) 28 = .ok (.ifCond .eq 5, 3) := by decide +kernel
theorem d_Wk_pins_31 : decode (z_c m_Wk_pins) 31 = .ok (.iconst 0, 1) := by decide +kernel
theorem d_Wk_pins_32 : decode (z_c m_Wk_pins) 32 = .ok (.ireturn, 1) := by decide +kernel
theorem d_Wk_pins_33 : decode (z_c m_Wk_pins) 33 = .ok (.aload_n 1, 1) := by decide +kernel
theorem d_Wk_pins_34 : decode (z_c m_Wk_pins) 34 = .ok (.getfield 132, 3) := by decide +kernel
theorem d_Wk_pins_37 : decode (z_c m_Wk_pins) 37 = .ok (.iload_n 3, 1) := by decide +kernel
theorem d_Wk_pins_38 : decode (z_c m_Wk_pins) 38 = .ok (.iload 4, 2) := by decide +kernel
theorem d_Wk_pins_40 : decode (z_c m_Wk_pins) 40 = .ok (.iload_n 2, 1) := by decide +kernel
theorem d_Wk_pins_41 : decode (z_c m_Wk_pins) 41 = .ok (.invokevirtual 141, 3) := by decide +kernel
theorem d_Wk_pins_44 : decode (z_c m_Wk_pins) 44 = .ok (.pop, 1) := by decide +kernel
theorem d_Wk_pins_45 : decode (z_c m_Wk_pins) 45 = .ok (.aload_n 0, 1) := by decide +kernel
theorem d_Wk_pins_46 : decode (z_c m_Wk_pins) 46 = .ok (.dup, 1) := by decide +kernel
theorem d_Wk_pins_47 : decode (z_c m_Wk_pins) 47 = .ok (.getfield 27, 3) := by decide +kernel
theorem d_Wk_pins_50 : decode (z_c m_Wk_pins) 50 = .ok (.iconst 1, 1) := by decide +kernel
theorem d_Wk_pins_51 : decode (z_c m_Wk_pins) 51 = .ok (.iadd, 1) := by decide +kernel
theorem d_Wk_pins_52 : decode (z_c m_Wk_pins) 52 = .ok (.putfield 27, 3) := by decide +kernel
theorem d_Wk_pins_55 : decode (z_c m_Wk_pins) 55 = .ok (.iconst 1, 1) := by decide +kernel
theorem d_Wk_pins_56 : decode (z_c m_Wk_pins) 56 = .ok (.ireturn, 1) := by decide +kernel
set_option maxRecDepth 8000 in
theorem b_Wk_pins_0 {X : z_X} {N : Nat} {σ g : z_G} {Q : z_P} {a2 : Int} {o p1 : Nat} (ho : z_lay X N σ o z_SWk z_RWk) (hp1 : z_lay X N σ p1 z_SBd z_RBd) (h : (-2147483648 ≤ ((g (p1 + 1) 0) + (g (p1 + 1) 2)) ∧ ((g (p1 + 1) 0) + (g (p1 + 1) 2)) ≤ 2147483647) ∧ ((-2147483648 ≤ ((g (p1 + 1) 1) + (g (p1 + 1) 3)) ∧ ((g (p1 + 1) 1) + (g (p1 + 1) 3)) ≤ 2147483647) ∧ (z_O X 2 m_Pi_whyNotMore [(2, ((p1 + 2 : Nat) : Int)), (0, (g (p1 + 1) 0) + (g (p1 + 1) 2)), (0, (g (p1 + 1) 1) + (g (p1 + 1) 3)), (0, a2)] N σ g (fun r0 g0 => (((r0 = 0) → (z_O X 2 m_Pi_add [(2, ((p1 + 2 : Nat) : Int)), (0, (g (p1 + 1) 0) + (g (p1 + 1) 2)), (0, (g (p1 + 1) 1) + (g (p1 + 1) 3)), (0, a2)] N σ g0 (fun r1 g1 => ((-2147483648 ≤ ((g1 o 3) + 1) ∧ ((g1 o 3) + 1) ≤ 2147483647) ∧ Q 1 (z_up g1 o 3 ((g1 o 3) + 1)))))) ∧ (¬ (r0 = 0) → Q 0 g0)))))) : z_O X 3 m_Wk_pins [(2, ((o : Nat) : Int)), (2, ((p1 : Nat) : Int)), (0, a2)] N σ g Q := by
  refine z_Oenter mi_Wk_pins rfl (fun _ => ?_)
  show z_U X 3 m_Wk_pins 0 [(0, (2, ((o : Nat) : Int))), (1, (2, ((p1 : Nat) : Int))), (2, (0, a2))] [] N σ g Q
  refine z_aload_n (i := 1) (c := p1) 1 d_Wk_pins_0 rfl rfl rfl ?_
  refine z_getr (c := p1) (kI := 2) (r2 := ((p1 + 1 : Nat) : Int)) d_Wk_pins_1 fd_Bd_walker fl_Wk_78 rfl rfl rfl (ks_Bd_0 hp1) (kl_Bd_0 hp1) (kr_Bd_0_2 hp1) ?_
  refine z_cV (c := (p1 + 1)) (as := []) (d' := 1) (st := []) d_Wk_pins_4 mi_Sp_ownTop ml_Wk_85 mv_Sp_ownTop se_Sp_ownTop rfl rfl rfl rfl (ks_Bd_1 hp1) rfl rfl (kl_Bd_1 hp1) rfl rfl (b_Sp_ownTop_0 (ky_Bd_1 hp1) ?_)
  obtain ⟨c1, h⟩ := h
  refine ⟨c1, ?_⟩
  intro _
  show z_U X 3 m_Wk_pins 7 [(0, (2, ((o : Nat) : Int))), (1, (2, ((p1 : Nat) : Int))), (2, (0, a2))] [(0, (g (p1 + 1) 0) + (g (p1 + 1) 2))] N σ g Q
  refine z_istore_n (i := 3) (ls' := [(3, (0, (g (p1 + 1) 0) + (g (p1 + 1) 2))), (0, (2, ((o : Nat) : Int))), (1, (2, ((p1 : Nat) : Int))), (2, (0, a2))]) d_Wk_pins_7 rfl rfl rfl ?_
  refine z_aload_n (i := 1) (c := p1) 2 d_Wk_pins_8 rfl rfl rfl ?_
  refine z_getr (c := p1) (kI := 2) (r2 := ((p1 + 1 : Nat) : Int)) d_Wk_pins_9 fd_Bd_walker fl_Wk_78 rfl rfl rfl (ks_Bd_0 hp1) (kl_Bd_0 hp1) (kr_Bd_0_2 hp1) ?_
  refine z_cV (c := (p1 + 1)) (as := []) (d' := 1) (st := []) d_Wk_pins_12 mi_Sp_ownBottom ml_Wk_91 mv_Sp_ownBottom se_Sp_ownBottom rfl rfl rfl rfl (ks_Bd_1 hp1) rfl rfl (kl_Bd_1 hp1) rfl rfl (b_Sp_ownBottom_0 (ky_Bd_1 hp1) ?_)
  obtain ⟨c2, h⟩ := h
  refine ⟨c2, ?_⟩
  intro _
  show z_U X 3 m_Wk_pins 15 [(3, (0, (g (p1 + 1) 0) + (g (p1 + 1) 2))), (0, (2, ((o : Nat) : Int))), (1, (2, ((p1 : Nat) : Int))), (2, (0, a2))] [(0, (g (p1 + 1) 1) + (g (p1 + 1) 3))] N σ g Q
  refine z_istore (ls' := [(4, (0, (g (p1 + 1) 1) + (g (p1 + 1) 3))), (3, (0, (g (p1 + 1) 0) + (g (p1 + 1) 2))), (0, (2, ((o : Nat) : Int))), (1, (2, ((p1 : Nat) : Int))), (2, (0, a2))]) d_Wk_pins_15 rfl rfl ?_
  refine z_aload_n (i := 1) (c := p1) 3 d_Wk_pins_17 rfl rfl rfl ?_
  refine z_getr (c := p1) (kI := 3) (r2 := ((p1 + 2 : Nat) : Int)) d_Wk_pins_18 fd_Bd_pins fl_Wk_132 rfl rfl rfl (ks_Bd_0 hp1) (kl_Bd_0 hp1) (kr_Bd_0_3 hp1) ?_
  refine z_iload_n (i := 3) 1 d_Wk_pins_21 rfl rfl ?_
  refine z_iload 0 d_Wk_pins_22 rfl ?_
  refine z_iload_n (i := 2) 4 d_Wk_pins_24 rfl rfl ?_
  refine z_cV (c := (p1 + 2)) (as := [(0, (g (p1 + 1) 0) + (g (p1 + 1) 2)), (0, (g (p1 + 1) 1) + (g (p1 + 1) 3)), (0, a2)]) (d' := 2) (st := []) d_Wk_pins_25 mi_Pi_whyNotMore ml_Wk_135 mv_Pi_whyNotMore se_Pi_whyNotMore rfl rfl rfl rfl (ks_Bd_2 hp1) rfl rfl (kl_Bd_2 hp1) rfl rfl (z_Omono h (fun r0 g0 _ h hro => ?_))
  show z_U X 3 m_Wk_pins 28 [(4, (0, (g (p1 + 1) 1) + (g (p1 + 1) 3))), (3, (0, (g (p1 + 1) 0) + (g (p1 + 1) 2))), (0, (2, ((o : Nat) : Int))), (1, (2, ((p1 : Nat) : Int))), (2, (0, a2))] [(0, r0)] N σ g0 Q
  refine z_if_eq (tgt := 33) d_Wk_pins_28 (by decide) (fun c3 => ?_) (fun c3 => ?_)
  · have h := h.1 c3
    refine z_aload_n (i := 1) (c := p1) 3 d_Wk_pins_33 rfl rfl rfl ?_
    refine z_getr (c := p1) (kI := 3) (r2 := ((p1 + 2 : Nat) : Int)) d_Wk_pins_34 fd_Bd_pins fl_Wk_132 rfl rfl rfl (ks_Bd_0 hp1) (kl_Bd_0 hp1) (kr_Bd_0_3 hp1) ?_
    refine z_iload_n (i := 3) 1 d_Wk_pins_37 rfl rfl ?_
    refine z_iload 0 d_Wk_pins_38 rfl ?_
    refine z_iload_n (i := 2) 4 d_Wk_pins_40 rfl rfl ?_
    refine z_cV (c := (p1 + 2)) (as := [(0, (g (p1 + 1) 0) + (g (p1 + 1) 2)), (0, (g (p1 + 1) 1) + (g (p1 + 1) 3)), (0, a2)]) (d' := 2) (st := []) d_Wk_pins_41 mi_Pi_add ml_Wk_141 mv_Pi_add se_Pi_add rfl rfl rfl rfl (ks_Bd_2 hp1) rfl rfl (kl_Bd_2 hp1) rfl rfl (z_Omono h (fun r1 g1 _ h hro => ?_))
    show z_U X 3 m_Wk_pins 44 [(4, (0, (g (p1 + 1) 1) + (g (p1 + 1) 3))), (3, (0, (g (p1 + 1) 0) + (g (p1 + 1) 2))), (0, (2, ((o : Nat) : Int))), (1, (2, ((p1 : Nat) : Int))), (2, (0, a2))] [(0, r1)] N σ g1 Q
    refine z_pop d_Wk_pins_44 rfl ?_
    refine z_aload_n (i := 0) (c := o) 2 d_Wk_pins_45 rfl rfl rfl ?_
    refine z_dup d_Wk_pins_46 rfl ?_
    refine z_geti (c := o) (kI := 3) d_Wk_pins_47 fd_Wk_pinned fl_Wk_27 (Or.inl rfl) rfl rfl (ks_Wk_0 ho) (kl_Wk_0 ho) ?_
    refine z_iconst (n := 1) d_Wk_pins_50 (by decide) ?_
    obtain ⟨c4, h⟩ := h
    refine z_iadd d_Wk_pins_51 c4 ?_
    refine z_puti (c := o) (kI := 3) d_Wk_pins_52 fd_Wk_pinned fl_Wk_27 pf_Wk_pinned rfl rfl rfl rfl (ks_Wk_0 ho) (kl_Wk_0 ho) ?_
    refine z_iconst (n := 1) d_Wk_pins_55 (by decide) ?_
    exact z_zret d_Wk_pins_56 rfl (by decide) (by decide) (by decide) ⟨rfl, rfl, h⟩
  · have h := h.2 c3
    refine z_iconst (n := 0) d_Wk_pins_31 (by decide) ?_
    exact z_zret d_Wk_pins_32 rfl (by decide) (by decide) (by decide) ⟨rfl, rfl, h⟩
theorem d_Bd_clear_0 : decode (z_c m_Bd_clear) 0 = .ok (.aload_n 0, 1) := by decide +kernel
theorem d_Bd_clear_1 : decode (z_c m_Bd_clear) 1 = .ok (.iconst 5, 1) := by decide +kernel
theorem d_Bd_clear_2 : decode (z_c m_Bd_clear) 2 = .ok (.putfield 42, 3) := by decide +kernel
theorem d_Bd_clear_5 : decode (z_c m_Bd_clear) 5 = .ok (.aload_n 0, 1) := by decide +kernel
theorem d_Bd_clear_6 : decode (z_c m_Bd_clear) 6 = .ok (.iconst 4, 1) := by decide +kernel
theorem d_Bd_clear_7 : decode (z_c m_Bd_clear) 7 = .ok (.putfield 46, 3) := by decide +kernel
theorem d_Bd_clear_10 : decode (z_c m_Bd_clear) 10 = .ok (.aload_n 0, 1) := by decide +kernel
theorem d_Bd_clear_11 : decode (z_c m_Bd_clear) 11 = .ok (.getfield 12, 3) := by decide +kernel
theorem d_Bd_clear_14 : decode (z_c m_Bd_clear) 14 = .ok (.invokevirtual 49, 3) := by decide +kernel
theorem d_Bd_clear_17 : decode (z_c m_Bd_clear) 17 = .ok (.aload_n 0, 1) := by decide +kernel
theorem d_Bd_clear_18 : decode (z_c m_Bd_clear) 18 = .ok (.getfield 21, 3) := by decide +kernel
theorem d_Bd_clear_21 : decode (z_c m_Bd_clear) 21 = .ok (.iconst 0, 1) := by decide +kernel
theorem d_Bd_clear_22 : decode (z_c m_Bd_clear) 22 = .ok (.putfield 52, 3) := by decide +kernel
theorem d_Bd_clear_25 : decode (z_c m_Bd_clear) 25 = .ok (.aload_n 0, 1) := by decide +kernel
theorem d_Bd_clear_26 : decode (z_c m_Bd_clear) 26 = .ok (.getfield 28, 3) := by decide +kernel
theorem d_Bd_clear_29 : decode (z_c m_Bd_clear) 29 = .ok (.aload_n 0, 1) := by decide +kernel
theorem d_Bd_clear_30 : decode (z_c m_Bd_clear) 30 = .ok (.getfield 12, 3) := by decide +kernel
theorem d_Bd_clear_33 : decode (z_c m_Bd_clear) 33 = .ok (.invokevirtual 55, 3) := by decide +kernel
theorem d_Bd_clear_36 : decode (z_c m_Bd_clear) 36 = .ok (.aload_n 0, 1) := by decide +kernel
theorem d_Bd_clear_37 : decode (z_c m_Bd_clear) 37 = .ok (.getfield 35, 3) := by decide +kernel
theorem d_Bd_clear_40 : decode (z_c m_Bd_clear) 40 = .ok (.invokevirtual 59, 3) := by decide +kernel
theorem d_Bd_clear_43 : decode (z_c m_Bd_clear) 43 = .ok (.return_, 1) := by decide +kernel
set_option maxRecDepth 8000 in
theorem b_Bd_clear_0 {X : z_X} {N : Nat} {σ g : z_G} {Q : z_P} {o : Nat} (ho : z_lay X N σ o z_SBd z_RBd) (h : z_O X 1 m_Sp_toRoot [(2, ((o + 1 : Nat) : Int))] N σ (z_up (z_up g o 0 5) o 1 4) (fun r0 g0 => (z_O X 3 m_Vi_startAt [(2, ((o + 6 : Nat) : Int)), (2, ((o + 1 : Nat) : Int))] N σ (z_up g0 (o + 2) 3 0) (fun r1 g1 => (z_O X 1 m_Pg_clear [(2, ((o + 8 : Nat) : Int))] N σ g1 (fun r2 g2 => Q 0 g2)))))) : z_O X 4 m_Bd_clear [(2, ((o : Nat) : Int))] N σ g Q := by
  refine z_Oenter mi_Bd_clear rfl (fun _ => ?_)
  show z_U X 4 m_Bd_clear 0 [(0, (2, ((o : Nat) : Int)))] [] N σ g Q
  refine z_aload_n (i := 0) (c := o) 0 d_Bd_clear_0 rfl rfl rfl ?_
  refine z_iconst (n := 5) d_Bd_clear_1 (by decide) ?_
  refine z_puti (c := o) (kI := 0) d_Bd_clear_2 fd_Bd_order fl_Bd_42 pf_Bd_order rfl rfl rfl rfl (ks_Bd_0 ho) (kl_Bd_0 ho) ?_
  refine z_aload_n (i := 0) (c := o) 0 d_Bd_clear_5 rfl rfl rfl ?_
  refine z_iconst (n := 4) d_Bd_clear_6 (by decide) ?_
  refine z_puti (c := o) (kI := 1) d_Bd_clear_7 fd_Bd_odds fl_Bd_46 pf_Bd_odds rfl rfl rfl rfl (ks_Bd_0 ho) (kl_Bd_0 ho) ?_
  refine z_aload_n (i := 0) (c := o) 0 d_Bd_clear_10 rfl rfl rfl ?_
  refine z_getr (c := o) (kI := 2) (r2 := ((o + 1 : Nat) : Int)) d_Bd_clear_11 fd_Bd_walker fl_Bd_12 rfl rfl rfl (ks_Bd_0 ho) (kl_Bd_0 ho) (kr_Bd_0_2 ho) ?_
  refine z_cV (c := (o + 1)) (as := []) (d' := 1) (st := []) d_Bd_clear_14 mi_Sp_toRoot ml_Bd_49 mv_Sp_toRoot se_Sp_toRoot rfl rfl rfl rfl (ks_Bd_1 ho) rfl rfl (kl_Bd_1 ho) rfl rfl (z_Omono h (fun r0 g0 _ h hro => ?_))
  show z_U X 4 m_Bd_clear 17 [(0, (2, ((o : Nat) : Int)))] [] N σ g0 Q
  refine z_aload_n (i := 0) (c := o) 0 d_Bd_clear_17 rfl rfl rfl ?_
  refine z_getr (c := o) (kI := 3) (r2 := ((o + 2 : Nat) : Int)) d_Bd_clear_18 fd_Bd_pins fl_Bd_21 rfl rfl rfl (ks_Bd_0 ho) (kl_Bd_0 ho) (kr_Bd_0_3 ho) ?_
  refine z_iconst (n := 0) d_Bd_clear_21 (by decide) ?_
  refine z_puti (c := (o + 2)) (kI := 3) d_Bd_clear_22 fd_Pi_many fl_Bd_52 pf_Pi_many rfl rfl rfl rfl (ks_Bd_2 ho) (kl_Bd_2 ho) ?_
  refine z_aload_n (i := 0) (c := o) 0 d_Bd_clear_25 rfl rfl rfl ?_
  refine z_getr (c := o) (kI := 4) (r2 := ((o + 6 : Nat) : Int)) d_Bd_clear_26 fd_Bd_visits fl_Bd_28 rfl rfl rfl (ks_Bd_0 ho) (kl_Bd_0 ho) (kr_Bd_0_4 ho) ?_
  refine z_aload_n (i := 0) (c := o) 0 d_Bd_clear_29 rfl rfl rfl ?_
  refine z_getr (c := o) (kI := 2) (r2 := ((o + 1 : Nat) : Int)) d_Bd_clear_30 fd_Bd_walker fl_Bd_12 rfl rfl rfl (ks_Bd_0 ho) (kl_Bd_0 ho) (kr_Bd_0_2 ho) ?_
  refine z_cV (c := (o + 6)) (as := [(2, ((o + 1 : Nat) : Int))]) (d' := 3) (st := []) d_Bd_clear_33 mi_Vi_startAt ml_Bd_55 mv_Vi_startAt se_Vi_startAt rfl rfl rfl rfl (ks_Bd_6 ho) rfl rfl (kl_Bd_6 ho) rfl rfl (z_Omono h (fun r1 g1 _ h hro => ?_))
  show z_U X 4 m_Bd_clear 36 [(0, (2, ((o : Nat) : Int)))] [] N σ g1 Q
  refine z_aload_n (i := 0) (c := o) 0 d_Bd_clear_36 rfl rfl rfl ?_
  refine z_getr (c := o) (kI := 5) (r2 := ((o + 8 : Nat) : Int)) d_Bd_clear_37 fd_Bd_program fl_Bd_35 rfl rfl rfl (ks_Bd_0 ho) (kl_Bd_0 ho) (kr_Bd_0_5 ho) ?_
  refine z_cV (c := (o + 8)) (as := []) (d' := 1) (st := []) d_Bd_clear_40 mi_Pg_clear ml_Bd_59 mv_Pg_clear se_Pg_clear rfl rfl rfl rfl (ks_Bd_8 ho) rfl rfl (kl_Bd_8 ho) rfl rfl (z_Omono h (fun r2 g2 _ h hro => ?_))
  show z_U X 4 m_Bd_clear 43 [(0, (2, ((o : Nat) : Int)))] [] N σ g2 Q
  exact z_vret d_Bd_clear_43 rfl (by decide) (by decide) ⟨rfl, rfl, h⟩
theorem d_F_above_0 : decode (z_c m_F_above) 0 = .ok (.aload_n 0, 1) := by decide +kernel
theorem d_F_above_1 : decode (z_c m_F_above) 1 = .ok (.getfield 50, 3) := by decide +kernel
theorem d_F_above_4 : decode (z_c m_F_above) 4 = .ok (.iload_n 1, 1) := by decide +kernel
theorem d_F_above_5 : decode (z_c m_F_above) 5 = .ok (.iload_n 2, 1) := by decide +kernel
theorem d_F_above_6 : decode (z_c m_F_above) 6 = .ok (.invokevirtual 237, 3) := by decide +kernel
theorem d_F_above_9 : decode (z_c m_F_above) 9 = .ok (.ifCond .ne 9, 3) := by decide +kernel
theorem d_F_above_12 : decode (z_c m_F_above) 12 = .ok (.aload_n 0, 1) := by decide +kernel
theorem d_F_above_13 : decode (z_c m_F_above) 13 = .ok (.iconst 1, 1) := by decide +kernel
theorem d_F_above_14 : decode (z_c m_F_above) 14 = .ok (.invokevirtual 102, 3) := by decide +kernel
theorem d_F_above_17 : decode (z_c m_F_above) 17 = .ok (.ireturn, 1) := by decide +kernel
theorem d_F_above_18 : decode (z_c m_F_above) 18 = .ok (.aload_n 0, 1) := by decide +kernel
theorem d_F_above_19 : decode (z_c m_F_above) 19 = .ok (.getfield 50, 3) := by decide +kernel
theorem d_F_above_22 : decode (z_c m_F_above) 22 = .ok (.getfield 244, 3) := by decide +kernel
theorem d_F_above_25 : decode (z_c m_F_above) 25 = .ok (.aload_n 0, 1) := by decide +kernel
theorem d_F_above_26 : decode (z_c m_F_above) 26 = .ok (.getfield 50, 3) := by decide +kernel
theorem d_F_above_29 : decode (z_c m_F_above) 29 = .ok (.getfield 241, 3) := by decide +kernel
theorem d_F_above_32 : decode (z_c m_F_above) 32 = .ok (.if_icmp .ne 10, 3) := by decide +kernel
theorem d_F_above_35 : decode (z_c m_F_above) 35 = .ok (.aload_n 0, 1) := by decide +kernel
theorem d_F_above_36 : decode (z_c m_F_above) 36 = .ok (.bipush 6, 2) := by decide +kernel
theorem d_F_above_38 : decode (z_c m_F_above) 38 = .ok (.invokevirtual 102, 3) := by decide +kernel
theorem d_F_above_41 : decode (z_c m_F_above) 41 = .ok (.ireturn, 1) := by decide +kernel
theorem d_F_above_42 : decode (z_c m_F_above) 42 = .ok (.aload_n 0, 1) := by decide +kernel
theorem d_F_above_43 : decode (z_c m_F_above) 43 = .ok (.getfield 43, 3) := by decide +kernel
theorem d_F_above_46 : decode (z_c m_F_above) 46 = .ok (.aload_n 0, 1) := by decide +kernel
theorem d_F_above_47 : decode (z_c m_F_above) 47 = .ok (.getfield 67, 3) := by decide +kernel
theorem d_F_above_50 : decode (z_c m_F_above) 50 = .ok (.getfield 197, 3) := by decide +kernel
theorem d_F_above_53 : decode (z_c m_F_above) 53 = .ok (.aload_n 0, 1) := by decide +kernel
theorem d_F_above_54 : decode (z_c m_F_above) 54 = .ok (.getfield 50, 3) := by decide +kernel
theorem d_F_above_57 : decode (z_c m_F_above) 57 = .ok (.getfield 244, 3) := by decide +kernel
theorem d_F_above_60 : decode (z_c m_F_above) 60 = .ok (.aload_n 0, 1) := by decide +kernel
theorem d_F_above_61 : decode (z_c m_F_above) 61 = .ok (.getfield 50, 3) := by decide +kernel
theorem d_F_above_64 : decode (z_c m_F_above) 64 = .ok (.getfield 241, 3) := by decide +kernel
theorem d_F_above_67 : decode (z_c m_F_above) 67 = .ok (.iconst 1, 1) := by decide +kernel
theorem d_F_above_68 : decode (z_c m_F_above) 68 = .ok (.invokevirtual 253, 3) := by decide +kernel
theorem d_F_above_71 : decode (z_c m_F_above) 71 = .ok (.aload_n 0, 1) := by decide +kernel
theorem d_F_above_72 : decode (z_c m_F_above) 72 = .ok (.aload_n 0, 1) := by decide +kernel
theorem d_F_above_73 : decode (z_c m_F_above) 73 = .ok (.getfield 43, 3) := by decide +kernel
theorem d_F_above_76 : decode (z_c m_F_above) 76 = .ok (.getfield 257, 3) := by decide +kernel
theorem d_F_above_79 : decode (z_c m_F_above) 79 = .ok (.i2l, 1) := by decide +kernel
theorem d_F_above_80 : decode (z_c m_F_above) 80 = .ok (.aload_n 0, 1) := by decide +kernel
theorem d_F_above_81 : decode (z_c m_F_above) 81 = .ok (.getfield 43, 3) := by decide +kernel
theorem d_F_above_84 : decode (z_c m_F_above) 84 = .ok (.getfield 260, 3) := by decide +kernel
theorem d_F_above_87 : decode (z_c m_F_above) 87 = .ok (.i2l, 1) := by decide +kernel
theorem d_F_above_88 : decode (z_c m_F_above) 88 = .ok (.invokevirtual 233, 3) := by decide +kernel
theorem d_F_above_91 : decode (z_c m_F_above) 91 = .ok (.ireturn, 1) := by decide +kernel
set_option maxRecDepth 8000 in
theorem b_F_above_0 {X : z_X} {N : Nat} {σ g : z_G} {Q : z_P} {a1 a2 : Int} (hx : z_lay X N σ 0 z_SF z_RF) (h : z_O X 3 m_Ch_take [(2, 18), (0, a1), (0, a2)] N σ g (fun r0 g0 => (r0 = 0 ∨ r0 = 1) → (((r0 = 0) → Q 0 (z_up g0 0 0 1)) ∧ (¬ (r0 = 0) → ((((g0 18 3) = (g0 18 4)) → Q 0 (z_up g0 0 0 6)) ∧ (¬ ((g0 18 3) = (g0 18 4)) → (z_O X 2 m_Rw_pinch [(2, 15), (0, g0 23 0), (0, g0 18 3), (0, g0 18 4), (0, 1)] N σ g0 (fun r1 g1 => (z_O X 2 m_F_tell [(2, 0), (1, g1 15 4), (1, g1 15 5)] N σ g1 (fun r2 g2 => (r2 = 0 ∨ r2 = 1) → Q r2 g2)))))))))) : z_O X 4 m_F_above [(2, 0), (0, a1), (0, a2)] N σ g Q := by
  refine z_Oenter mi_F_above rfl (fun _ => ?_)
  show z_U X 4 m_F_above 0 [(0, (2, 0)), (1, (0, a1)), (2, (0, a2))] [] N σ g Q
  refine z_aload_n (i := 0) (c := 0) 0 d_F_above_0 rfl rfl rfl ?_
  refine z_getr (c := 0) (kI := 8) (r2 := 18) d_F_above_1 fd_F_chain fl_F_50 rfl rfl rfl (ks_F_0 hx) (kl_F_0 hx) (kr_F_0_8 hx) ?_
  refine z_iload_n (i := 1) 1 d_F_above_4 rfl rfl ?_
  refine z_iload_n (i := 2) 2 d_F_above_5 rfl rfl ?_
  refine z_cV (c := 18) (as := [(0, a1), (0, a2)]) (d' := 3) (st := []) d_F_above_6 mi_Ch_take ml_F_237 mv_Ch_take se_Ch_take rfl rfl rfl rfl (ks_F_18 hx) rfl rfl (kl_F_18 hx) rfl rfl (z_Omono h (fun r0 g0 _ h hro => ?_))
  have h := h (z_b01 hro)
  have hzr0 := z_b01 hro
  show z_U X 4 m_F_above 9 [(0, (2, 0)), (1, (0, a1)), (2, (0, a2))] [(0, r0)] N σ g0 Q
  refine z_if_ne (tgt := 18) d_F_above_9 (by decide) (fun c1 => ?_) (fun c1 => ?_)
  · have h := h.2 c1
    refine z_aload_n (i := 0) (c := 0) 0 d_F_above_18 rfl rfl rfl ?_
    refine z_getr (c := 0) (kI := 8) (r2 := 18) d_F_above_19 fd_F_chain fl_F_50 rfl rfl rfl (ks_F_0 hx) (kl_F_0 hx) (kr_F_0_8 hx) ?_
    refine z_geti (c := 18) (kI := 3) d_F_above_22 fd_Ch_top fl_F_244 (Or.inl rfl) rfl rfl (ks_F_18 hx) (kl_F_18 hx) ?_
    refine z_aload_n (i := 0) (c := 0) 0 d_F_above_25 rfl rfl rfl ?_
    refine z_getr (c := 0) (kI := 8) (r2 := 18) d_F_above_26 fd_F_chain fl_F_50 rfl rfl rfl (ks_F_0 hx) (kl_F_0 hx) (kr_F_0_8 hx) ?_
    refine z_geti (c := 18) (kI := 4) d_F_above_29 fd_Ch_bottom fl_F_241 (Or.inl rfl) rfl rfl (ks_F_18 hx) (kl_F_18 hx) ?_
    refine z_icmp_ne (tgt := 42) d_F_above_32 (by decide) (fun c2 => ?_) (fun c2 => ?_)
    · have h := h.2 c2
      refine z_aload_n (i := 0) (c := 0) 0 d_F_above_42 rfl rfl rfl ?_
      refine z_getr (c := 0) (kI := 7) (r2 := 15) d_F_above_43 fd_F_row fl_F_43 rfl rfl rfl (ks_F_0 hx) (kl_F_0 hx) (kr_F_0_7 hx) ?_
      refine z_aload_n (i := 0) (c := 0) 0 d_F_above_46 rfl rfl rfl ?_
      refine z_getr (c := 0) (kI := 11) (r2 := 23) d_F_above_47 fd_F_board fl_F_67 rfl rfl rfl (ks_F_0 hx) (kl_F_0 hx) (kr_F_0_11 hx) ?_
      refine z_geti (c := 23) (kI := 0) d_F_above_50 fd_Bd_order fl_F_197 (Or.inl rfl) rfl rfl (ks_F_23 hx) (kl_F_23 hx) ?_
      refine z_aload_n (i := 0) (c := 0) 0 d_F_above_53 rfl rfl rfl ?_
      refine z_getr (c := 0) (kI := 8) (r2 := 18) d_F_above_54 fd_F_chain fl_F_50 rfl rfl rfl (ks_F_0 hx) (kl_F_0 hx) (kr_F_0_8 hx) ?_
      refine z_geti (c := 18) (kI := 3) d_F_above_57 fd_Ch_top fl_F_244 (Or.inl rfl) rfl rfl (ks_F_18 hx) (kl_F_18 hx) ?_
      refine z_aload_n (i := 0) (c := 0) 0 d_F_above_60 rfl rfl rfl ?_
      refine z_getr (c := 0) (kI := 8) (r2 := 18) d_F_above_61 fd_F_chain fl_F_50 rfl rfl rfl (ks_F_0 hx) (kl_F_0 hx) (kr_F_0_8 hx) ?_
      refine z_geti (c := 18) (kI := 4) d_F_above_64 fd_Ch_bottom fl_F_241 (Or.inl rfl) rfl rfl (ks_F_18 hx) (kl_F_18 hx) ?_
      refine z_iconst (n := 1) d_F_above_67 (by decide) ?_
      refine z_cV (c := 15) (as := [(0, g0 23 0), (0, g0 18 3), (0, g0 18 4), (0, 1)]) (d' := 2) (st := []) d_F_above_68 mi_Rw_pinch ml_F_253 mv_Rw_pinch se_Rw_pinch rfl rfl rfl rfl (ks_F_15 hx) rfl rfl (kl_F_15 hx) rfl rfl (z_Omono h (fun r1 g1 _ h hro => ?_))
      show z_U X 4 m_F_above 71 [(0, (2, 0)), (1, (0, a1)), (2, (0, a2))] [] N σ g1 Q
      refine z_aload_n (i := 0) (c := 0) 0 d_F_above_71 rfl rfl rfl ?_
      refine z_aload_n (i := 0) (c := 0) 0 d_F_above_72 rfl rfl rfl ?_
      refine z_getr (c := 0) (kI := 7) (r2 := 15) d_F_above_73 fd_F_row fl_F_43 rfl rfl rfl (ks_F_0 hx) (kl_F_0 hx) (kr_F_0_7 hx) ?_
      refine z_geti (c := 15) (kI := 4) d_F_above_76 fd_Rw_highTop fl_F_257 (Or.inl rfl) rfl rfl (ks_F_15 hx) (kl_F_15 hx) ?_
      refine z_i2l d_F_above_79 ?_
      refine z_aload_n (i := 0) (c := 0) 0 d_F_above_80 rfl rfl rfl ?_
      refine z_getr (c := 0) (kI := 7) (r2 := 15) d_F_above_81 fd_F_row fl_F_43 rfl rfl rfl (ks_F_0 hx) (kl_F_0 hx) (kr_F_0_7 hx) ?_
      refine z_geti (c := 15) (kI := 5) d_F_above_84 fd_Rw_highBottom fl_F_260 (Or.inl rfl) rfl rfl (ks_F_15 hx) (kl_F_15 hx) ?_
      refine z_i2l d_F_above_87 ?_
      refine z_cV (c := 0) (as := [(1, g1 15 4), (1, g1 15 5)]) (d' := 2) (st := []) d_F_above_88 mi_F_tell ml_F_233 mv_F_tell se_F_tell rfl rfl rfl rfl (ks_F_0 hx) rfl rfl (kl_F_0 hx) rfl rfl (z_Omono h (fun r2 g2 _ h hro => ?_))
      have h := h (z_b01 hro)
      have hzr2 := z_b01 hro
      show z_U X 4 m_F_above 91 [(0, (2, 0)), (1, (0, a1)), (2, (0, a2))] [(0, r2)] N σ g2 Q
      exact z_zret d_F_above_91 rfl (by decide) (by decide) hzr2 ⟨rfl, rfl, h⟩
    · have h := h.1 c2
      refine z_aload_n (i := 0) (c := 0) 0 d_F_above_35 rfl rfl rfl ?_
      refine z_bipush (n := 6) d_F_above_36 (by decide) (by decide) ?_
      refine z_cV (c := 0) (as := [(0, 6)]) (d' := 1) (st := []) d_F_above_38 mi_F_refuse ml_F_102 mv_F_refuse se_F_refuse rfl rfl rfl rfl (ks_F_0 hx) rfl rfl (kl_F_0 hx) rfl rfl (b_F_refuse_0 hx ?_)
      intro _
      show z_U X 4 m_F_above 41 [(0, (2, 0)), (1, (0, a1)), (2, (0, a2))] [(0, 0)] N σ (z_up g0 0 0 6) Q
      exact z_zret d_F_above_41 rfl (by decide) (by decide) (by decide) ⟨rfl, rfl, h⟩
  · have h := h.1 c1
    refine z_aload_n (i := 0) (c := 0) 0 d_F_above_12 rfl rfl rfl ?_
    refine z_iconst (n := 1) d_F_above_13 (by decide) ?_
    refine z_cV (c := 0) (as := [(0, 1)]) (d' := 1) (st := []) d_F_above_14 mi_F_refuse ml_F_102 mv_F_refuse se_F_refuse rfl rfl rfl rfl (ks_F_0 hx) rfl rfl (kl_F_0 hx) rfl rfl (b_F_refuse_0 hx ?_)
    intro _
    show z_U X 4 m_F_above 17 [(0, (2, 0)), (1, (0, a1)), (2, (0, a2))] [(0, 0)] N σ (z_up g0 0 0 1) Q
    exact z_zret d_F_above_17 rfl (by decide) (by decide) (by decide) ⟨rfl, rfl, h⟩
theorem d_F_ahead_0 : decode (z_c m_F_ahead) 0 = .ok (.aload_n 0, 1) := by decide +kernel
theorem d_F_ahead_1 : decode (z_c m_F_ahead) 1 = .ok (.getfield 50, 3) := by decide +kernel
theorem d_F_ahead_4 : decode (z_c m_F_ahead) 4 = .ok (.iload_n 1, 1) := by decide +kernel
theorem d_F_ahead_5 : decode (z_c m_F_ahead) 5 = .ok (.iload_n 2, 1) := by decide +kernel
theorem d_F_ahead_6 : decode (z_c m_F_ahead) 6 = .ok (.invokevirtual 237, 3) := by decide +kernel
theorem d_F_ahead_9 : decode (z_c m_F_ahead) 9 = .ok (.ifCond .ne 9, 3) := by decide +kernel
theorem d_F_ahead_12 : decode (z_c m_F_ahead) 12 = .ok (.aload_n 0, 1) := by decide +kernel
theorem d_F_ahead_13 : decode (z_c m_F_ahead) 13 = .ok (.iconst 1, 1) := by decide +kernel
theorem d_F_ahead_14 : decode (z_c m_F_ahead) 14 = .ok (.invokevirtual 102, 3) := by decide +kernel
theorem d_F_ahead_17 : decode (z_c m_F_ahead) 17 = .ok (.ireturn, 1) := by decide +kernel
theorem d_F_ahead_18 : decode (z_c m_F_ahead) 18 = .ok (.aload_n 0, 1) := by decide +kernel
theorem d_F_ahead_19 : decode (z_c m_F_ahead) 19 = .ok (.getfield 50, 3) := by decide +kernel
theorem d_F_ahead_22 : decode (z_c m_F_ahead) 22 = .ok (.getfield 244, 3) := by decide +kernel
theorem d_F_ahead_25 : decode (z_c m_F_ahead) 25 = .ok (.ifCond .ne 10, 3) := by decide +kernel
theorem d_F_ahead_28 : decode (z_c m_F_ahead) 28 = .ok (.aload_n 0, 1) := by decide +kernel
theorem d_F_ahead_29 : decode (z_c m_F_ahead) 29 = .ok (.bipush 6, 2) := by decide +kernel
theorem d_F_ahead_31 : decode (z_c m_F_ahead) 31 = .ok (.invokevirtual 102, 3) := by decide +kernel
theorem d_F_ahead_34 : decode (z_c m_F_ahead) 34 = .ok (.ireturn, 1) := by decide +kernel
theorem d_F_ahead_35 : decode (z_c m_F_ahead) 35 = .ok (.aload_n 0, 1) := by decide +kernel
theorem d_F_ahead_36 : decode (z_c m_F_ahead) 36 = .ok (.getfield 43, 3) := by decide +kernel
theorem d_F_ahead_39 : decode (z_c m_F_ahead) 39 = .ok (.aload_n 0, 1) := by decide +kernel
theorem d_F_ahead_40 : decode (z_c m_F_ahead) 40 = .ok (.getfield 67, 3) := by decide +kernel
theorem d_F_ahead_43 : decode (z_c m_F_ahead) 43 = .ok (.getfield 197, 3) := by decide +kernel
theorem d_F_ahead_46 : decode (z_c m_F_ahead) 46 = .ok (.aload_n 0, 1) := by decide +kernel
theorem d_F_ahead_47 : decode (z_c m_F_ahead) 47 = .ok (.getfield 50, 3) := by decide +kernel
theorem d_F_ahead_50 : decode (z_c m_F_ahead) 50 = .ok (.getfield 244, 3) := by decide +kernel
theorem d_F_ahead_53 : decode (z_c m_F_ahead) 53 = .ok (.aload_n 0, 1) := by decide +kernel
theorem d_F_ahead_54 : decode (z_c m_F_ahead) 54 = .ok (.getfield 50, 3) := by decide +kernel
theorem d_F_ahead_57 : decode (z_c m_F_ahead) 57 = .ok (.getfield 241, 3) := by decide +kernel
theorem d_F_ahead_60 : decode (z_c m_F_ahead) 60 = .ok (.iconst 0, 1) := by decide +kernel
theorem d_F_ahead_61 : decode (z_c m_F_ahead) 61 = .ok (.invokevirtual 253, 3) := by decide +kernel
theorem d_F_ahead_64 : decode (z_c m_F_ahead) 64 = .ok (.aload_n 0, 1) := by decide +kernel
theorem d_F_ahead_65 : decode (z_c m_F_ahead) 65 = .ok (.aload_n 0, 1) := by decide +kernel
theorem d_F_ahead_66 : decode (z_c m_F_ahead) 66 = .ok (.getfield 43, 3) := by decide +kernel
theorem d_F_ahead_69 : decode (z_c m_F_ahead) 69 = .ok (.getfield 227, 3) := by decide +kernel
theorem d_F_ahead_72 : decode (z_c m_F_ahead) 72 = .ok (.i2l, 1) := by decide +kernel
theorem d_F_ahead_73 : decode (z_c m_F_ahead) 73 = .ok (.aload_n 0, 1) := by decide +kernel
theorem d_F_ahead_74 : decode (z_c m_F_ahead) 74 = .ok (.getfield 43, 3) := by decide +kernel
theorem d_F_ahead_77 : decode (z_c m_F_ahead) 77 = .ok (.getfield 230, 3) := by decide +kernel
theorem d_F_ahead_80 : decode (z_c m_F_ahead) 80 = .ok (.i2l, 1) := by decide +kernel
theorem d_F_ahead_81 : decode (z_c m_F_ahead) 81 = .ok (.invokevirtual 233, 3) := by decide +kernel
theorem d_F_ahead_84 : decode (z_c m_F_ahead) 84 = .ok (.ireturn, 1) := by decide +kernel
set_option maxRecDepth 8000 in
theorem b_F_ahead_0 {X : z_X} {N : Nat} {σ g : z_G} {Q : z_P} {a1 a2 : Int} (hx : z_lay X N σ 0 z_SF z_RF) (h : z_O X 3 m_Ch_take [(2, 18), (0, a1), (0, a2)] N σ g (fun r0 g0 => (r0 = 0 ∨ r0 = 1) → (((r0 = 0) → Q 0 (z_up g0 0 0 1)) ∧ (¬ (r0 = 0) → ((((g0 18 3) = 0) → Q 0 (z_up g0 0 0 6)) ∧ (¬ ((g0 18 3) = 0) → (z_O X 2 m_Rw_pinch [(2, 15), (0, g0 23 0), (0, g0 18 3), (0, g0 18 4), (0, 0)] N σ g0 (fun r1 g1 => (z_O X 2 m_F_tell [(2, 0), (1, g1 15 2), (1, g1 15 3)] N σ g1 (fun r2 g2 => (r2 = 0 ∨ r2 = 1) → Q r2 g2)))))))))) : z_O X 4 m_F_ahead [(2, 0), (0, a1), (0, a2)] N σ g Q := by
  refine z_Oenter mi_F_ahead rfl (fun _ => ?_)
  show z_U X 4 m_F_ahead 0 [(0, (2, 0)), (1, (0, a1)), (2, (0, a2))] [] N σ g Q
  refine z_aload_n (i := 0) (c := 0) 0 d_F_ahead_0 rfl rfl rfl ?_
  refine z_getr (c := 0) (kI := 8) (r2 := 18) d_F_ahead_1 fd_F_chain fl_F_50 rfl rfl rfl (ks_F_0 hx) (kl_F_0 hx) (kr_F_0_8 hx) ?_
  refine z_iload_n (i := 1) 1 d_F_ahead_4 rfl rfl ?_
  refine z_iload_n (i := 2) 2 d_F_ahead_5 rfl rfl ?_
  refine z_cV (c := 18) (as := [(0, a1), (0, a2)]) (d' := 3) (st := []) d_F_ahead_6 mi_Ch_take ml_F_237 mv_Ch_take se_Ch_take rfl rfl rfl rfl (ks_F_18 hx) rfl rfl (kl_F_18 hx) rfl rfl (z_Omono h (fun r0 g0 _ h hro => ?_))
  have h := h (z_b01 hro)
  have hzr0 := z_b01 hro
  show z_U X 4 m_F_ahead 9 [(0, (2, 0)), (1, (0, a1)), (2, (0, a2))] [(0, r0)] N σ g0 Q
  refine z_if_ne (tgt := 18) d_F_ahead_9 (by decide) (fun c1 => ?_) (fun c1 => ?_)
  · have h := h.2 c1
    refine z_aload_n (i := 0) (c := 0) 0 d_F_ahead_18 rfl rfl rfl ?_
    refine z_getr (c := 0) (kI := 8) (r2 := 18) d_F_ahead_19 fd_F_chain fl_F_50 rfl rfl rfl (ks_F_0 hx) (kl_F_0 hx) (kr_F_0_8 hx) ?_
    refine z_geti (c := 18) (kI := 3) d_F_ahead_22 fd_Ch_top fl_F_244 (Or.inl rfl) rfl rfl (ks_F_18 hx) (kl_F_18 hx) ?_
    refine z_if_ne (tgt := 35) d_F_ahead_25 (by decide) (fun c2 => ?_) (fun c2 => ?_)
    · have h := h.2 c2
      refine z_aload_n (i := 0) (c := 0) 0 d_F_ahead_35 rfl rfl rfl ?_
      refine z_getr (c := 0) (kI := 7) (r2 := 15) d_F_ahead_36 fd_F_row fl_F_43 rfl rfl rfl (ks_F_0 hx) (kl_F_0 hx) (kr_F_0_7 hx) ?_
      refine z_aload_n (i := 0) (c := 0) 0 d_F_ahead_39 rfl rfl rfl ?_
      refine z_getr (c := 0) (kI := 11) (r2 := 23) d_F_ahead_40 fd_F_board fl_F_67 rfl rfl rfl (ks_F_0 hx) (kl_F_0 hx) (kr_F_0_11 hx) ?_
      refine z_geti (c := 23) (kI := 0) d_F_ahead_43 fd_Bd_order fl_F_197 (Or.inl rfl) rfl rfl (ks_F_23 hx) (kl_F_23 hx) ?_
      refine z_aload_n (i := 0) (c := 0) 0 d_F_ahead_46 rfl rfl rfl ?_
      refine z_getr (c := 0) (kI := 8) (r2 := 18) d_F_ahead_47 fd_F_chain fl_F_50 rfl rfl rfl (ks_F_0 hx) (kl_F_0 hx) (kr_F_0_8 hx) ?_
      refine z_geti (c := 18) (kI := 3) d_F_ahead_50 fd_Ch_top fl_F_244 (Or.inl rfl) rfl rfl (ks_F_18 hx) (kl_F_18 hx) ?_
      refine z_aload_n (i := 0) (c := 0) 0 d_F_ahead_53 rfl rfl rfl ?_
      refine z_getr (c := 0) (kI := 8) (r2 := 18) d_F_ahead_54 fd_F_chain fl_F_50 rfl rfl rfl (ks_F_0 hx) (kl_F_0 hx) (kr_F_0_8 hx) ?_
      refine z_geti (c := 18) (kI := 4) d_F_ahead_57 fd_Ch_bottom fl_F_241 (Or.inl rfl) rfl rfl (ks_F_18 hx) (kl_F_18 hx) ?_
      refine z_iconst (n := 0) d_F_ahead_60 (by decide) ?_
      refine z_cV (c := 15) (as := [(0, g0 23 0), (0, g0 18 3), (0, g0 18 4), (0, 0)]) (d' := 2) (st := []) d_F_ahead_61 mi_Rw_pinch ml_F_253 mv_Rw_pinch se_Rw_pinch rfl rfl rfl rfl (ks_F_15 hx) rfl rfl (kl_F_15 hx) rfl rfl (z_Omono h (fun r1 g1 _ h hro => ?_))
      show z_U X 4 m_F_ahead 64 [(0, (2, 0)), (1, (0, a1)), (2, (0, a2))] [] N σ g1 Q
      refine z_aload_n (i := 0) (c := 0) 0 d_F_ahead_64 rfl rfl rfl ?_
      refine z_aload_n (i := 0) (c := 0) 0 d_F_ahead_65 rfl rfl rfl ?_
      refine z_getr (c := 0) (kI := 7) (r2 := 15) d_F_ahead_66 fd_F_row fl_F_43 rfl rfl rfl (ks_F_0 hx) (kl_F_0 hx) (kr_F_0_7 hx) ?_
      refine z_geti (c := 15) (kI := 2) d_F_ahead_69 fd_Rw_lowTop fl_F_227 (Or.inl rfl) rfl rfl (ks_F_15 hx) (kl_F_15 hx) ?_
      refine z_i2l d_F_ahead_72 ?_
      refine z_aload_n (i := 0) (c := 0) 0 d_F_ahead_73 rfl rfl rfl ?_
      refine z_getr (c := 0) (kI := 7) (r2 := 15) d_F_ahead_74 fd_F_row fl_F_43 rfl rfl rfl (ks_F_0 hx) (kl_F_0 hx) (kr_F_0_7 hx) ?_
      refine z_geti (c := 15) (kI := 3) d_F_ahead_77 fd_Rw_lowBottom fl_F_230 (Or.inl rfl) rfl rfl (ks_F_15 hx) (kl_F_15 hx) ?_
      refine z_i2l d_F_ahead_80 ?_
      refine z_cV (c := 0) (as := [(1, g1 15 2), (1, g1 15 3)]) (d' := 2) (st := []) d_F_ahead_81 mi_F_tell ml_F_233 mv_F_tell se_F_tell rfl rfl rfl rfl (ks_F_0 hx) rfl rfl (kl_F_0 hx) rfl rfl (z_Omono h (fun r2 g2 _ h hro => ?_))
      have h := h (z_b01 hro)
      have hzr2 := z_b01 hro
      show z_U X 4 m_F_ahead 84 [(0, (2, 0)), (1, (0, a1)), (2, (0, a2))] [(0, r2)] N σ g2 Q
      exact z_zret d_F_ahead_84 rfl (by decide) (by decide) hzr2 ⟨rfl, rfl, h⟩
    · have h := h.1 c2
      refine z_aload_n (i := 0) (c := 0) 0 d_F_ahead_28 rfl rfl rfl ?_
      refine z_bipush (n := 6) d_F_ahead_29 (by decide) (by decide) ?_
      refine z_cV (c := 0) (as := [(0, 6)]) (d' := 1) (st := []) d_F_ahead_31 mi_F_refuse ml_F_102 mv_F_refuse se_F_refuse rfl rfl rfl rfl (ks_F_0 hx) rfl rfl (kl_F_0 hx) rfl rfl (b_F_refuse_0 hx ?_)
      intro _
      show z_U X 4 m_F_ahead 34 [(0, (2, 0)), (1, (0, a1)), (2, (0, a2))] [(0, 0)] N σ (z_up g0 0 0 6) Q
      exact z_zret d_F_ahead_34 rfl (by decide) (by decide) (by decide) ⟨rfl, rfl, h⟩
  · have h := h.1 c1
    refine z_aload_n (i := 0) (c := 0) 0 d_F_ahead_12 rfl rfl rfl ?_
    refine z_iconst (n := 1) d_F_ahead_13 (by decide) ?_
    refine z_cV (c := 0) (as := [(0, 1)]) (d' := 1) (st := []) d_F_ahead_14 mi_F_refuse ml_F_102 mv_F_refuse se_F_refuse rfl rfl rfl rfl (ks_F_0 hx) rfl rfl (kl_F_0 hx) rfl rfl (b_F_refuse_0 hx ?_)
    intro _
    show z_U X 4 m_F_ahead 17 [(0, (2, 0)), (1, (0, a1)), (2, (0, a2))] [(0, 0)] N σ (z_up g0 0 0 1) Q
    exact z_zret d_F_ahead_17 rfl (by decide) (by decide) (by decide) ⟨rfl, rfl, h⟩
theorem d_F_between_0 : decode (z_c m_F_between) 0 = .ok (.aload_n 0, 1) := by decide +kernel
theorem d_F_between_1 : decode (z_c m_F_between) 1 = .ok (.iload_n 1, 1) := by decide +kernel
theorem d_F_between_2 : decode (z_c m_F_between) 2 = .ok (.iload_n 2, 1) := by decide +kernel
theorem d_F_between_3 : decode (z_c m_F_between) 3 = .ok (.iload_n 3, 1) := by decide +kernel
theorem d_F_between_4 : decode (z_c m_F_between) 4 = .ok (.iload 4, 2) := by decide +kernel
theorem d_F_between_6 : decode (z_c m_F_between) 6 = .ok (.invokevirtual 267, 3) := by decide +kernel
theorem d_F_between_9 : decode (z_c m_F_between) 9 = .ok (.ifCond .ne 9, 3) := by decide +kernel
theorem d_F_between_12 : decode (z_c m_F_between) 12 = .ok (.aload_n 0, 1) := by decide +kernel
theorem d_F_between_13 : decode (z_c m_F_between) 13 = .ok (.iconst 1, 1) := by decide +kernel
theorem d_F_between_14 : decode (z_c m_F_between) 14 = .ok (.invokevirtual 121, 3) := by decide +kernel
theorem d_F_between_17 : decode (z_c m_F_between) 17 = .ok (.ireturn, 1) := by decide +kernel
theorem d_F_between_18 : decode (z_c m_F_between) 18 = .ok (.aload_n 0, 1) := by decide +kernel
theorem d_F_between_19 : decode (z_c m_F_between) 19 = .ok (.getfield 50, 3) := by decide +kernel
theorem d_F_between_22 : decode (z_c m_F_between) 22 = .ok (.aload_n 0, 1) := by decide +kernel
theorem d_F_between_23 : decode (z_c m_F_between) 23 = .ok (.getfield 54, 3) := by decide +kernel
theorem d_F_between_26 : decode (z_c m_F_between) 26 = .ok (.invokevirtual 271, 3) := by decide +kernel
theorem d_F_between_29 : decode (z_c m_F_between) 29 = .ok (.ifCond .eq 9, 3) := by decide +kernel
theorem d_F_between_32 : decode (z_c m_F_between) 32 = .ok (.aload_n 0, 1) := by decide +kernel
theorem d_F_between_33 : decode (z_c m_F_between) 33 = .ok (.iconst 0, 1) := by decide +kernel
theorem d_F_between_34 : decode (z_c m_F_between) 34 = .ok (.invokevirtual 176, 3) := by decide +kernel
theorem d_F_between_37 : decode (z_c m_F_between) 37 = .ok (.ireturn, 1) := by decide +kernel
theorem d_F_between_38 : decode (z_c m_F_between) 38 = .ok (.aload_n 0, 1) := by decide +kernel
theorem d_F_between_39 : decode (z_c m_F_between) 39 = .ok (.getfield 43, 3) := by decide +kernel
theorem d_F_between_42 : decode (z_c m_F_between) 42 = .ok (.aload_n 0, 1) := by decide +kernel
theorem d_F_between_43 : decode (z_c m_F_between) 43 = .ok (.getfield 67, 3) := by decide +kernel
theorem d_F_between_46 : decode (z_c m_F_between) 46 = .ok (.getfield 197, 3) := by decide +kernel
theorem d_F_between_49 : decode (z_c m_F_between) 49 = .ok (.aload_n 0, 1) := by decide +kernel
theorem d_F_between_50 : decode (z_c m_F_between) 50 = .ok (.getfield 50, 3) := by decide +kernel
theorem d_F_between_53 : decode (z_c m_F_between) 53 = .ok (.getfield 244, 3) := by decide +kernel
theorem d_F_between_56 : decode (z_c m_F_between) 56 = .ok (.i2l, 1) := by decide +kernel
theorem d_F_between_57 : decode (z_c m_F_between) 57 = .ok (.aload_n 0, 1) := by decide +kernel
theorem d_F_between_58 : decode (z_c m_F_between) 58 = .ok (.getfield 50, 3) := by decide +kernel
theorem d_F_between_61 : decode (z_c m_F_between) 61 = .ok (.getfield 241, 3) := by decide +kernel
theorem d_F_between_64 : decode (z_c m_F_between) 64 = .ok (.i2l, 1) := by decide +kernel
theorem d_F_between_65 : decode (z_c m_F_between) 65 = .ok (.invokevirtual 247, 3) := by decide +kernel
theorem d_F_between_68 : decode (z_c m_F_between) 68 = .ok (.istore 5, 2) := by decide +kernel
theorem d_F_between_70 : decode (z_c m_F_between) 70 = .ok (.aload_n 0, 1) := by decide +kernel
theorem d_F_between_71 : decode (z_c m_F_between) 71 = .ok (.getfield 50, 3) := by decide +kernel
theorem d_F_between_74 : decode (z_c m_F_between) 74 = .ok (.getfield 241, 3) := by decide +kernel
theorem d_F_between_77 : decode (z_c m_F_between) 77 = .ok (.aload_n 0, 1) := by decide +kernel
theorem d_F_between_78 : decode (z_c m_F_between) 78 = .ok (.getfield 67, 3) := by decide +kernel
theorem d_F_between_81 : decode (z_c m_F_between) 81 = .ok (.getfield 197, 3) := by decide +kernel
theorem d_F_between_84 : decode (z_c m_F_between) 84 = .ok (.if_icmp .gt 6, 3) := by decide +kernel
theorem d_F_between_87 : decode (z_c m_F_between) 87 = .ok (.iinc 5 1, 3) := by decide +kernel
theorem d_F_between_90 : decode (z_c m_F_between) 90 = .ok (.aload_n 0, 1) := by decide +kernel
theorem d_F_between_91 : decode (z_c m_F_between) 91 = .ok (.aload_n 0, 1) := by decide +kernel
theorem d_F_between_92 : decode (z_c m_F_between) 92 = .ok (.getfield 43, 3) := by decide +kernel
theorem d_F_between_95 : decode (z_c m_F_between) 95 = .ok (.aload_n 0, 1) := by decide +kernel
theorem d_F_between_96 : decode (z_c m_F_between) 96 = .ok (.getfield 67, 3) := by decide +kernel
theorem d_F_between_99 : decode (z_c m_F_between) 99 = .ok (.getfield 197, 3) := by decide +kernel
theorem d_F_between_102 : decode (z_c m_F_between) 102 = .ok (.aload_n 0, 1) := by decide +kernel
theorem d_F_between_103 : decode (z_c m_F_between) 103 = .ok (.getfield 54, 3) := by decide +kernel
theorem d_F_between_106 : decode (z_c m_F_between) 106 = .ok (.getfield 244, 3) := by decide +kernel
theorem d_F_between_109 : decode (z_c m_F_between) 109 = .ok (.i2l, 1) := by decide +kernel
theorem d_F_between_110 : decode (z_c m_F_between) 110 = .ok (.aload_n 0, 1) := by decide +kernel
theorem d_F_between_111 : decode (z_c m_F_between) 111 = .ok (.getfield 54, 3) := by decide +kernel
theorem d_F_between_114 : decode (z_c m_F_between) 114 = .ok (.getfield 241, 3) := by decide +kernel
theorem d_F_between_117 : decode (z_c m_F_between) 117 = .ok (.i2l, 1) := by decide +kernel
theorem d_F_between_118 : decode (z_c m_F_between) 118 = .ok (.invokevirtual 247, 3) := by decide +kernel
theorem d_F_between_121 : decode (z_c m_F_between) 121 = .ok (.iload 5, 2) := by decide +kernel
theorem d_F_between_123 : decode (z_c m_F_between) 123 = .ok (.isub, 1) := by decide +kernel
theorem d_F_between_124 : decode (z_c m_F_between) 124 = .ok (.invokevirtual 176, 3) := by decide +kernel
theorem d_F_between_127 : decode (z_c m_F_between) 127 = .ok (.ireturn, 1) := by decide +kernel
set_option maxRecDepth 8000 in
theorem b_F_between_0 {X : z_X} {N : Nat} {σ g : z_G} {Q : z_P} {a1 a2 a3 a4 : Int} (hx : z_lay X N σ 0 z_SF z_RF) (h : z_O X 3 m_F_takeRising [(2, 0), (0, a1), (0, a2), (0, a3), (0, a4)] N σ g (fun r0 g0 => (r0 = 0 ∨ r0 = 1) → (((r0 = 0) → Q (-1) (z_up g0 0 0 1)) ∧ (¬ (r0 = 0) → ((((g0 18 3) = (g0 20 3)) → ((((g0 18 4) = (g0 20 4)) → Q 0 (z_up g0 0 0 0)) ∧ (¬ ((g0 18 4) = (g0 20 4)) → (z_O X 1 m_Rw_countUnder [(2, 15), (0, g0 23 0), (1, g0 18 3), (1, g0 18 4)] N σ g0 (fun r1 g1 => ((((g1 23 0) < (g1 18 4)) → (z_O X 1 m_Rw_countUnder [(2, 15), (0, g1 23 0), (1, g1 20 3), (1, g1 20 4)] N σ g1 (fun r2 g2 => ((-2147483648 ≤ (r2 - r1) ∧ (r2 - r1) ≤ 2147483647) ∧ Q (r2 - r1) (z_up g2 0 0 0))))) ∧ (¬ ((g1 23 0) < (g1 18 4)) → ((-2147483648 ≤ (r1 + 1) ∧ (r1 + 1) ≤ 2147483647) ∧ (z_O X 1 m_Rw_countUnder [(2, 15), (0, g1 23 0), (1, g1 20 3), (1, g1 20 4)] N σ g1 (fun r3 g3 => ((-2147483648 ≤ (r3 - (r1 + 1)) ∧ (r3 - (r1 + 1)) ≤ 2147483647) ∧ Q (r3 - (r1 + 1)) (z_up g3 0 0 0)))))))))))) ∧ (¬ ((g0 18 3) = (g0 20 3)) → (z_O X 1 m_Rw_countUnder [(2, 15), (0, g0 23 0), (1, g0 18 3), (1, g0 18 4)] N σ g0 (fun r4 g4 => ((((g4 23 0) < (g4 18 4)) → (z_O X 1 m_Rw_countUnder [(2, 15), (0, g4 23 0), (1, g4 20 3), (1, g4 20 4)] N σ g4 (fun r5 g5 => ((-2147483648 ≤ (r5 - r4) ∧ (r5 - r4) ≤ 2147483647) ∧ Q (r5 - r4) (z_up g5 0 0 0))))) ∧ (¬ ((g4 23 0) < (g4 18 4)) → ((-2147483648 ≤ (r4 + 1) ∧ (r4 + 1) ≤ 2147483647) ∧ (z_O X 1 m_Rw_countUnder [(2, 15), (0, g4 23 0), (1, g4 20 3), (1, g4 20 4)] N σ g4 (fun r6 g6 => ((-2147483648 ≤ (r6 - (r4 + 1)) ∧ (r6 - (r4 + 1)) ≤ 2147483647) ∧ Q (r6 - (r4 + 1)) (z_up g6 0 0 0))))))))))))))) : z_O X 4 m_F_between [(2, 0), (0, a1), (0, a2), (0, a3), (0, a4)] N σ g Q := by
  refine z_Oenter mi_F_between rfl (fun _ => ?_)
  show z_U X 4 m_F_between 0 [(0, (2, 0)), (1, (0, a1)), (2, (0, a2)), (3, (0, a3)), (4, (0, a4))] [] N σ g Q
  refine z_aload_n (i := 0) (c := 0) 0 d_F_between_0 rfl rfl rfl ?_
  refine z_iload_n (i := 1) 1 d_F_between_1 rfl rfl ?_
  refine z_iload_n (i := 2) 2 d_F_between_2 rfl rfl ?_
  refine z_iload_n (i := 3) 3 d_F_between_3 rfl rfl ?_
  refine z_iload 4 d_F_between_4 rfl ?_
  refine z_cV (c := 0) (as := [(0, a1), (0, a2), (0, a3), (0, a4)]) (d' := 3) (st := []) d_F_between_6 mi_F_takeRising ml_F_267 mv_F_takeRising se_F_takeRising rfl rfl rfl rfl (ks_F_0 hx) rfl rfl (kl_F_0 hx) rfl rfl (z_Omono h (fun r0 g0 _ h hro => ?_))
  have h := h (z_b01 hro)
  have hzr0 := z_b01 hro
  show z_U X 4 m_F_between 9 [(0, (2, 0)), (1, (0, a1)), (2, (0, a2)), (3, (0, a3)), (4, (0, a4))] [(0, r0)] N σ g0 Q
  refine z_if_ne (tgt := 18) d_F_between_9 (by decide) (fun c1 => ?_) (fun c1 => ?_)
  · have h := h.2 c1
    refine z_aload_n (i := 0) (c := 0) 0 d_F_between_18 rfl rfl rfl ?_
    refine z_getr (c := 0) (kI := 8) (r2 := 18) d_F_between_19 fd_F_chain fl_F_50 rfl rfl rfl (ks_F_0 hx) (kl_F_0 hx) (kr_F_0_8 hx) ?_
    refine z_aload_n (i := 0) (c := 0) 0 d_F_between_22 rfl rfl rfl ?_
    refine z_getr (c := 0) (kI := 9) (r2 := 20) d_F_between_23 fd_F_otherChain fl_F_54 rfl rfl rfl (ks_F_0 hx) (kl_F_0 hx) (kr_F_0_9 hx) ?_
    refine z_cV (c := 18) (as := [(2, 20)]) (d' := 1) (st := []) d_F_between_26 mi_Ch_isAlike ml_F_271 mv_Ch_isAlike se_Ch_isAlike rfl rfl rfl rfl (ks_F_18 hx) rfl rfl (kl_F_18 hx) rfl rfl (b_Ch_isAlike_0 (ky_F_18 hx) (ky_F_20 hx) ?_)
    refine ⟨fun c2 => ?_, fun c2 => ?_⟩
    · have h := h.1 c2
      refine ⟨fun c3 => ?_, fun c3 => ?_⟩
      · have h := h.1 c3
        intro _
        show z_U X 4 m_F_between 29 [(0, (2, 0)), (1, (0, a1)), (2, (0, a2)), (3, (0, a3)), (4, (0, a4))] [(0, 1)] N σ g0 Q
        refine z_if_eq (tgt := 38) d_F_between_29 (by decide) (fun c => absurd c (by decide)) (fun _ => ?_)
        refine z_aload_n (i := 0) (c := 0) 0 d_F_between_32 rfl rfl rfl ?_
        refine z_iconst (n := 0) d_F_between_33 (by decide) ?_
        refine z_cV (c := 0) (as := [(0, 0)]) (d' := 1) (st := []) d_F_between_34 mi_F_give ml_F_176 mv_F_give se_F_give rfl rfl rfl rfl (ks_F_0 hx) rfl rfl (kl_F_0 hx) rfl rfl (b_F_give_0 hx ?_)
        intro _
        show z_U X 4 m_F_between 37 [(0, (2, 0)), (1, (0, a1)), (2, (0, a2)), (3, (0, a3)), (4, (0, a4))] [(0, 0)] N σ (z_up g0 0 0 0) Q
        exact z_iret d_F_between_37 rfl (by decide) (by decide) ⟨rfl, rfl, h⟩
      · have h := h.2 c3
        intro _
        show z_U X 4 m_F_between 29 [(0, (2, 0)), (1, (0, a1)), (2, (0, a2)), (3, (0, a3)), (4, (0, a4))] [(0, 0)] N σ g0 Q
        refine z_if_eq (tgt := 38) d_F_between_29 (by decide) (fun _ => ?_) (fun c => absurd (by decide) c)
        refine z_aload_n (i := 0) (c := 0) 0 d_F_between_38 rfl rfl rfl ?_
        refine z_getr (c := 0) (kI := 7) (r2 := 15) d_F_between_39 fd_F_row fl_F_43 rfl rfl rfl (ks_F_0 hx) (kl_F_0 hx) (kr_F_0_7 hx) ?_
        refine z_aload_n (i := 0) (c := 0) 0 d_F_between_42 rfl rfl rfl ?_
        refine z_getr (c := 0) (kI := 11) (r2 := 23) d_F_between_43 fd_F_board fl_F_67 rfl rfl rfl (ks_F_0 hx) (kl_F_0 hx) (kr_F_0_11 hx) ?_
        refine z_geti (c := 23) (kI := 0) d_F_between_46 fd_Bd_order fl_F_197 (Or.inl rfl) rfl rfl (ks_F_23 hx) (kl_F_23 hx) ?_
        refine z_aload_n (i := 0) (c := 0) 0 d_F_between_49 rfl rfl rfl ?_
        refine z_getr (c := 0) (kI := 8) (r2 := 18) d_F_between_50 fd_F_chain fl_F_50 rfl rfl rfl (ks_F_0 hx) (kl_F_0 hx) (kr_F_0_8 hx) ?_
        refine z_geti (c := 18) (kI := 3) d_F_between_53 fd_Ch_top fl_F_244 (Or.inl rfl) rfl rfl (ks_F_18 hx) (kl_F_18 hx) ?_
        refine z_i2l d_F_between_56 ?_
        refine z_aload_n (i := 0) (c := 0) 0 d_F_between_57 rfl rfl rfl ?_
        refine z_getr (c := 0) (kI := 8) (r2 := 18) d_F_between_58 fd_F_chain fl_F_50 rfl rfl rfl (ks_F_0 hx) (kl_F_0 hx) (kr_F_0_8 hx) ?_
        refine z_geti (c := 18) (kI := 4) d_F_between_61 fd_Ch_bottom fl_F_241 (Or.inl rfl) rfl rfl (ks_F_18 hx) (kl_F_18 hx) ?_
        refine z_i2l d_F_between_64 ?_
        refine z_cV (c := 15) (as := [(0, g0 23 0), (1, g0 18 3), (1, g0 18 4)]) (d' := 1) (st := []) d_F_between_65 mi_Rw_countUnder ml_F_247 mv_Rw_countUnder se_Rw_countUnder rfl rfl rfl rfl (ks_F_15 hx) rfl rfl (kl_F_15 hx) rfl rfl (z_Omono h (fun r1 g1 _ h hro => ?_))
        show z_U X 4 m_F_between 68 [(0, (2, 0)), (1, (0, a1)), (2, (0, a2)), (3, (0, a3)), (4, (0, a4))] [(0, r1)] N σ g1 Q
        refine z_istore (ls' := [(5, (0, r1)), (0, (2, 0)), (1, (0, a1)), (2, (0, a2)), (3, (0, a3)), (4, (0, a4))]) d_F_between_68 rfl rfl ?_
        refine z_aload_n (i := 0) (c := 0) 1 d_F_between_70 rfl rfl rfl ?_
        refine z_getr (c := 0) (kI := 8) (r2 := 18) d_F_between_71 fd_F_chain fl_F_50 rfl rfl rfl (ks_F_0 hx) (kl_F_0 hx) (kr_F_0_8 hx) ?_
        refine z_geti (c := 18) (kI := 4) d_F_between_74 fd_Ch_bottom fl_F_241 (Or.inl rfl) rfl rfl (ks_F_18 hx) (kl_F_18 hx) ?_
        refine z_aload_n (i := 0) (c := 0) 1 d_F_between_77 rfl rfl rfl ?_
        refine z_getr (c := 0) (kI := 11) (r2 := 23) d_F_between_78 fd_F_board fl_F_67 rfl rfl rfl (ks_F_0 hx) (kl_F_0 hx) (kr_F_0_11 hx) ?_
        refine z_geti (c := 23) (kI := 0) d_F_between_81 fd_Bd_order fl_F_197 (Or.inl rfl) rfl rfl (ks_F_23 hx) (kl_F_23 hx) ?_
        refine z_icmp_gt (tgt := 90) d_F_between_84 (by decide) (fun c4 => ?_) (fun c4 => ?_)
        · have h := h.1 c4
          refine z_aload_n (i := 0) (c := 0) 1 d_F_between_90 rfl rfl rfl ?_
          refine z_aload_n (i := 0) (c := 0) 1 d_F_between_91 rfl rfl rfl ?_
          refine z_getr (c := 0) (kI := 7) (r2 := 15) d_F_between_92 fd_F_row fl_F_43 rfl rfl rfl (ks_F_0 hx) (kl_F_0 hx) (kr_F_0_7 hx) ?_
          refine z_aload_n (i := 0) (c := 0) 1 d_F_between_95 rfl rfl rfl ?_
          refine z_getr (c := 0) (kI := 11) (r2 := 23) d_F_between_96 fd_F_board fl_F_67 rfl rfl rfl (ks_F_0 hx) (kl_F_0 hx) (kr_F_0_11 hx) ?_
          refine z_geti (c := 23) (kI := 0) d_F_between_99 fd_Bd_order fl_F_197 (Or.inl rfl) rfl rfl (ks_F_23 hx) (kl_F_23 hx) ?_
          refine z_aload_n (i := 0) (c := 0) 1 d_F_between_102 rfl rfl rfl ?_
          refine z_getr (c := 0) (kI := 9) (r2 := 20) d_F_between_103 fd_F_otherChain fl_F_54 rfl rfl rfl (ks_F_0 hx) (kl_F_0 hx) (kr_F_0_9 hx) ?_
          refine z_geti (c := 20) (kI := 3) d_F_between_106 fd_Ch_top fl_F_244 (Or.inl rfl) rfl rfl (ks_F_20 hx) (kl_F_20 hx) ?_
          refine z_i2l d_F_between_109 ?_
          refine z_aload_n (i := 0) (c := 0) 1 d_F_between_110 rfl rfl rfl ?_
          refine z_getr (c := 0) (kI := 9) (r2 := 20) d_F_between_111 fd_F_otherChain fl_F_54 rfl rfl rfl (ks_F_0 hx) (kl_F_0 hx) (kr_F_0_9 hx) ?_
          refine z_geti (c := 20) (kI := 4) d_F_between_114 fd_Ch_bottom fl_F_241 (Or.inl rfl) rfl rfl (ks_F_20 hx) (kl_F_20 hx) ?_
          refine z_i2l d_F_between_117 ?_
          refine z_cV (c := 15) (as := [(0, g1 23 0), (1, g1 20 3), (1, g1 20 4)]) (d' := 1) (st := [(2, 0)]) d_F_between_118 mi_Rw_countUnder ml_F_247 mv_Rw_countUnder se_Rw_countUnder rfl rfl rfl rfl (ks_F_15 hx) rfl rfl (kl_F_15 hx) rfl rfl (z_Omono h (fun r2 g2 _ h hro => ?_))
          show z_U X 4 m_F_between 121 [(5, (0, r1)), (0, (2, 0)), (1, (0, a1)), (2, (0, a2)), (3, (0, a3)), (4, (0, a4))] [(0, r2), (2, 0)] N σ g2 Q
          refine z_iload 0 d_F_between_121 rfl ?_
          obtain ⟨c5, h⟩ := h
          refine z_isub d_F_between_123 c5 ?_
          refine z_cV (c := 0) (as := [(0, r2 - r1)]) (d' := 1) (st := []) d_F_between_124 mi_F_give ml_F_176 mv_F_give se_F_give rfl rfl rfl rfl (ks_F_0 hx) rfl rfl (kl_F_0 hx) rfl rfl (b_F_give_0 hx ?_)
          intro _
          show z_U X 4 m_F_between 127 [(5, (0, r1)), (0, (2, 0)), (1, (0, a1)), (2, (0, a2)), (3, (0, a3)), (4, (0, a4))] [(0, r2 - r1)] N σ (z_up g2 0 0 0) Q
          exact z_iret d_F_between_127 rfl (by decide) (by decide) ⟨rfl, rfl, h⟩
        · have h := h.2 c4
          obtain ⟨c6, h⟩ := h
          refine z_iinc (n := 1) (ls' := [(5, (0, r1 + 1)), (0, (2, 0)), (1, (0, a1)), (2, (0, a2)), (3, (0, a3)), (4, (0, a4))]) 0 d_F_between_87 rfl c6 rfl rfl ?_
          refine z_aload_n (i := 0) (c := 0) 1 d_F_between_90 rfl rfl rfl ?_
          refine z_aload_n (i := 0) (c := 0) 1 d_F_between_91 rfl rfl rfl ?_
          refine z_getr (c := 0) (kI := 7) (r2 := 15) d_F_between_92 fd_F_row fl_F_43 rfl rfl rfl (ks_F_0 hx) (kl_F_0 hx) (kr_F_0_7 hx) ?_
          refine z_aload_n (i := 0) (c := 0) 1 d_F_between_95 rfl rfl rfl ?_
          refine z_getr (c := 0) (kI := 11) (r2 := 23) d_F_between_96 fd_F_board fl_F_67 rfl rfl rfl (ks_F_0 hx) (kl_F_0 hx) (kr_F_0_11 hx) ?_
          refine z_geti (c := 23) (kI := 0) d_F_between_99 fd_Bd_order fl_F_197 (Or.inl rfl) rfl rfl (ks_F_23 hx) (kl_F_23 hx) ?_
          refine z_aload_n (i := 0) (c := 0) 1 d_F_between_102 rfl rfl rfl ?_
          refine z_getr (c := 0) (kI := 9) (r2 := 20) d_F_between_103 fd_F_otherChain fl_F_54 rfl rfl rfl (ks_F_0 hx) (kl_F_0 hx) (kr_F_0_9 hx) ?_
          refine z_geti (c := 20) (kI := 3) d_F_between_106 fd_Ch_top fl_F_244 (Or.inl rfl) rfl rfl (ks_F_20 hx) (kl_F_20 hx) ?_
          refine z_i2l d_F_between_109 ?_
          refine z_aload_n (i := 0) (c := 0) 1 d_F_between_110 rfl rfl rfl ?_
          refine z_getr (c := 0) (kI := 9) (r2 := 20) d_F_between_111 fd_F_otherChain fl_F_54 rfl rfl rfl (ks_F_0 hx) (kl_F_0 hx) (kr_F_0_9 hx) ?_
          refine z_geti (c := 20) (kI := 4) d_F_between_114 fd_Ch_bottom fl_F_241 (Or.inl rfl) rfl rfl (ks_F_20 hx) (kl_F_20 hx) ?_
          refine z_i2l d_F_between_117 ?_
          refine z_cV (c := 15) (as := [(0, g1 23 0), (1, g1 20 3), (1, g1 20 4)]) (d' := 1) (st := [(2, 0)]) d_F_between_118 mi_Rw_countUnder ml_F_247 mv_Rw_countUnder se_Rw_countUnder rfl rfl rfl rfl (ks_F_15 hx) rfl rfl (kl_F_15 hx) rfl rfl (z_Omono h (fun r3 g3 _ h hro => ?_))
          show z_U X 4 m_F_between 121 [(5, (0, r1 + 1)), (0, (2, 0)), (1, (0, a1)), (2, (0, a2)), (3, (0, a3)), (4, (0, a4))] [(0, r3), (2, 0)] N σ g3 Q
          refine z_iload 0 d_F_between_121 rfl ?_
          obtain ⟨c7, h⟩ := h
          refine z_isub d_F_between_123 c7 ?_
          refine z_cV (c := 0) (as := [(0, r3 - (r1 + 1))]) (d' := 1) (st := []) d_F_between_124 mi_F_give ml_F_176 mv_F_give se_F_give rfl rfl rfl rfl (ks_F_0 hx) rfl rfl (kl_F_0 hx) rfl rfl (b_F_give_0 hx ?_)
          intro _
          show z_U X 4 m_F_between 127 [(5, (0, r1 + 1)), (0, (2, 0)), (1, (0, a1)), (2, (0, a2)), (3, (0, a3)), (4, (0, a4))] [(0, r3 - (r1 + 1))] N σ (z_up g3 0 0 0) Q
          exact z_iret d_F_between_127 rfl (by decide) (by decide) ⟨rfl, rfl, h⟩
    · have h := h.2 c2
      intro _
      show z_U X 4 m_F_between 29 [(0, (2, 0)), (1, (0, a1)), (2, (0, a2)), (3, (0, a3)), (4, (0, a4))] [(0, 0)] N σ g0 Q
      refine z_if_eq (tgt := 38) d_F_between_29 (by decide) (fun _ => ?_) (fun c => absurd (by decide) c)
      refine z_aload_n (i := 0) (c := 0) 0 d_F_between_38 rfl rfl rfl ?_
      refine z_getr (c := 0) (kI := 7) (r2 := 15) d_F_between_39 fd_F_row fl_F_43 rfl rfl rfl (ks_F_0 hx) (kl_F_0 hx) (kr_F_0_7 hx) ?_
      refine z_aload_n (i := 0) (c := 0) 0 d_F_between_42 rfl rfl rfl ?_
      refine z_getr (c := 0) (kI := 11) (r2 := 23) d_F_between_43 fd_F_board fl_F_67 rfl rfl rfl (ks_F_0 hx) (kl_F_0 hx) (kr_F_0_11 hx) ?_
      refine z_geti (c := 23) (kI := 0) d_F_between_46 fd_Bd_order fl_F_197 (Or.inl rfl) rfl rfl (ks_F_23 hx) (kl_F_23 hx) ?_
      refine z_aload_n (i := 0) (c := 0) 0 d_F_between_49 rfl rfl rfl ?_
      refine z_getr (c := 0) (kI := 8) (r2 := 18) d_F_between_50 fd_F_chain fl_F_50 rfl rfl rfl (ks_F_0 hx) (kl_F_0 hx) (kr_F_0_8 hx) ?_
      refine z_geti (c := 18) (kI := 3) d_F_between_53 fd_Ch_top fl_F_244 (Or.inl rfl) rfl rfl (ks_F_18 hx) (kl_F_18 hx) ?_
      refine z_i2l d_F_between_56 ?_
      refine z_aload_n (i := 0) (c := 0) 0 d_F_between_57 rfl rfl rfl ?_
      refine z_getr (c := 0) (kI := 8) (r2 := 18) d_F_between_58 fd_F_chain fl_F_50 rfl rfl rfl (ks_F_0 hx) (kl_F_0 hx) (kr_F_0_8 hx) ?_
      refine z_geti (c := 18) (kI := 4) d_F_between_61 fd_Ch_bottom fl_F_241 (Or.inl rfl) rfl rfl (ks_F_18 hx) (kl_F_18 hx) ?_
      refine z_i2l d_F_between_64 ?_
      refine z_cV (c := 15) (as := [(0, g0 23 0), (1, g0 18 3), (1, g0 18 4)]) (d' := 1) (st := []) d_F_between_65 mi_Rw_countUnder ml_F_247 mv_Rw_countUnder se_Rw_countUnder rfl rfl rfl rfl (ks_F_15 hx) rfl rfl (kl_F_15 hx) rfl rfl (z_Omono h (fun r4 g4 _ h hro => ?_))
      show z_U X 4 m_F_between 68 [(0, (2, 0)), (1, (0, a1)), (2, (0, a2)), (3, (0, a3)), (4, (0, a4))] [(0, r4)] N σ g4 Q
      refine z_istore (ls' := [(5, (0, r4)), (0, (2, 0)), (1, (0, a1)), (2, (0, a2)), (3, (0, a3)), (4, (0, a4))]) d_F_between_68 rfl rfl ?_
      refine z_aload_n (i := 0) (c := 0) 1 d_F_between_70 rfl rfl rfl ?_
      refine z_getr (c := 0) (kI := 8) (r2 := 18) d_F_between_71 fd_F_chain fl_F_50 rfl rfl rfl (ks_F_0 hx) (kl_F_0 hx) (kr_F_0_8 hx) ?_
      refine z_geti (c := 18) (kI := 4) d_F_between_74 fd_Ch_bottom fl_F_241 (Or.inl rfl) rfl rfl (ks_F_18 hx) (kl_F_18 hx) ?_
      refine z_aload_n (i := 0) (c := 0) 1 d_F_between_77 rfl rfl rfl ?_
      refine z_getr (c := 0) (kI := 11) (r2 := 23) d_F_between_78 fd_F_board fl_F_67 rfl rfl rfl (ks_F_0 hx) (kl_F_0 hx) (kr_F_0_11 hx) ?_
      refine z_geti (c := 23) (kI := 0) d_F_between_81 fd_Bd_order fl_F_197 (Or.inl rfl) rfl rfl (ks_F_23 hx) (kl_F_23 hx) ?_
      refine z_icmp_gt (tgt := 90) d_F_between_84 (by decide) (fun c8 => ?_) (fun c8 => ?_)
      · have h := h.1 c8
        refine z_aload_n (i := 0) (c := 0) 1 d_F_between_90 rfl rfl rfl ?_
        refine z_aload_n (i := 0) (c := 0) 1 d_F_between_91 rfl rfl rfl ?_
        refine z_getr (c := 0) (kI := 7) (r2 := 15) d_F_between_92 fd_F_row fl_F_43 rfl rfl rfl (ks_F_0 hx) (kl_F_0 hx) (kr_F_0_7 hx) ?_
        refine z_aload_n (i := 0) (c := 0) 1 d_F_between_95 rfl rfl rfl ?_
        refine z_getr (c := 0) (kI := 11) (r2 := 23) d_F_between_96 fd_F_board fl_F_67 rfl rfl rfl (ks_F_0 hx) (kl_F_0 hx) (kr_F_0_11 hx) ?_
        refine z_geti (c := 23) (kI := 0) d_F_between_99 fd_Bd_order fl_F_197 (Or.inl rfl) rfl rfl (ks_F_23 hx) (kl_F_23 hx) ?_
        refine z_aload_n (i := 0) (c := 0) 1 d_F_between_102 rfl rfl rfl ?_
        refine z_getr (c := 0) (kI := 9) (r2 := 20) d_F_between_103 fd_F_otherChain fl_F_54 rfl rfl rfl (ks_F_0 hx) (kl_F_0 hx) (kr_F_0_9 hx) ?_
        refine z_geti (c := 20) (kI := 3) d_F_between_106 fd_Ch_top fl_F_244 (Or.inl rfl) rfl rfl (ks_F_20 hx) (kl_F_20 hx) ?_
        refine z_i2l d_F_between_109 ?_
        refine z_aload_n (i := 0) (c := 0) 1 d_F_between_110 rfl rfl rfl ?_
        refine z_getr (c := 0) (kI := 9) (r2 := 20) d_F_between_111 fd_F_otherChain fl_F_54 rfl rfl rfl (ks_F_0 hx) (kl_F_0 hx) (kr_F_0_9 hx) ?_
        refine z_geti (c := 20) (kI := 4) d_F_between_114 fd_Ch_bottom fl_F_241 (Or.inl rfl) rfl rfl (ks_F_20 hx) (kl_F_20 hx) ?_
        refine z_i2l d_F_between_117 ?_
        refine z_cV (c := 15) (as := [(0, g4 23 0), (1, g4 20 3), (1, g4 20 4)]) (d' := 1) (st := [(2, 0)]) d_F_between_118 mi_Rw_countUnder ml_F_247 mv_Rw_countUnder se_Rw_countUnder rfl rfl rfl rfl (ks_F_15 hx) rfl rfl (kl_F_15 hx) rfl rfl (z_Omono h (fun r5 g5 _ h hro => ?_))
        show z_U X 4 m_F_between 121 [(5, (0, r4)), (0, (2, 0)), (1, (0, a1)), (2, (0, a2)), (3, (0, a3)), (4, (0, a4))] [(0, r5), (2, 0)] N σ g5 Q
        refine z_iload 0 d_F_between_121 rfl ?_
        obtain ⟨c9, h⟩ := h
        refine z_isub d_F_between_123 c9 ?_
        refine z_cV (c := 0) (as := [(0, r5 - r4)]) (d' := 1) (st := []) d_F_between_124 mi_F_give ml_F_176 mv_F_give se_F_give rfl rfl rfl rfl (ks_F_0 hx) rfl rfl (kl_F_0 hx) rfl rfl (b_F_give_0 hx ?_)
        intro _
        show z_U X 4 m_F_between 127 [(5, (0, r4)), (0, (2, 0)), (1, (0, a1)), (2, (0, a2)), (3, (0, a3)), (4, (0, a4))] [(0, r5 - r4)] N σ (z_up g5 0 0 0) Q
        exact z_iret d_F_between_127 rfl (by decide) (by decide) ⟨rfl, rfl, h⟩
      · have h := h.2 c8
        obtain ⟨c10, h⟩ := h
        refine z_iinc (n := 1) (ls' := [(5, (0, r4 + 1)), (0, (2, 0)), (1, (0, a1)), (2, (0, a2)), (3, (0, a3)), (4, (0, a4))]) 0 d_F_between_87 rfl c10 rfl rfl ?_
        refine z_aload_n (i := 0) (c := 0) 1 d_F_between_90 rfl rfl rfl ?_
        refine z_aload_n (i := 0) (c := 0) 1 d_F_between_91 rfl rfl rfl ?_
        refine z_getr (c := 0) (kI := 7) (r2 := 15) d_F_between_92 fd_F_row fl_F_43 rfl rfl rfl (ks_F_0 hx) (kl_F_0 hx) (kr_F_0_7 hx) ?_
        refine z_aload_n (i := 0) (c := 0) 1 d_F_between_95 rfl rfl rfl ?_
        refine z_getr (c := 0) (kI := 11) (r2 := 23) d_F_between_96 fd_F_board fl_F_67 rfl rfl rfl (ks_F_0 hx) (kl_F_0 hx) (kr_F_0_11 hx) ?_
        refine z_geti (c := 23) (kI := 0) d_F_between_99 fd_Bd_order fl_F_197 (Or.inl rfl) rfl rfl (ks_F_23 hx) (kl_F_23 hx) ?_
        refine z_aload_n (i := 0) (c := 0) 1 d_F_between_102 rfl rfl rfl ?_
        refine z_getr (c := 0) (kI := 9) (r2 := 20) d_F_between_103 fd_F_otherChain fl_F_54 rfl rfl rfl (ks_F_0 hx) (kl_F_0 hx) (kr_F_0_9 hx) ?_
        refine z_geti (c := 20) (kI := 3) d_F_between_106 fd_Ch_top fl_F_244 (Or.inl rfl) rfl rfl (ks_F_20 hx) (kl_F_20 hx) ?_
        refine z_i2l d_F_between_109 ?_
        refine z_aload_n (i := 0) (c := 0) 1 d_F_between_110 rfl rfl rfl ?_
        refine z_getr (c := 0) (kI := 9) (r2 := 20) d_F_between_111 fd_F_otherChain fl_F_54 rfl rfl rfl (ks_F_0 hx) (kl_F_0 hx) (kr_F_0_9 hx) ?_
        refine z_geti (c := 20) (kI := 4) d_F_between_114 fd_Ch_bottom fl_F_241 (Or.inl rfl) rfl rfl (ks_F_20 hx) (kl_F_20 hx) ?_
        refine z_i2l d_F_between_117 ?_
        refine z_cV (c := 15) (as := [(0, g4 23 0), (1, g4 20 3), (1, g4 20 4)]) (d' := 1) (st := [(2, 0)]) d_F_between_118 mi_Rw_countUnder ml_F_247 mv_Rw_countUnder se_Rw_countUnder rfl rfl rfl rfl (ks_F_15 hx) rfl rfl (kl_F_15 hx) rfl rfl (z_Omono h (fun r6 g6 _ h hro => ?_))
        show z_U X 4 m_F_between 121 [(5, (0, r4 + 1)), (0, (2, 0)), (1, (0, a1)), (2, (0, a2)), (3, (0, a3)), (4, (0, a4))] [(0, r6), (2, 0)] N σ g6 Q
        refine z_iload 0 d_F_between_121 rfl ?_
        obtain ⟨c11, h⟩ := h
        refine z_isub d_F_between_123 c11 ?_
        refine z_cV (c := 0) (as := [(0, r6 - (r4 + 1))]) (d' := 1) (st := []) d_F_between_124 mi_F_give ml_F_176 mv_F_give se_F_give rfl rfl rfl rfl (ks_F_0 hx) rfl rfl (kl_F_0 hx) rfl rfl (b_F_give_0 hx ?_)
        intro _
        show z_U X 4 m_F_between 127 [(5, (0, r4 + 1)), (0, (2, 0)), (1, (0, a1)), (2, (0, a2)), (3, (0, a3)), (4, (0, a4))] [(0, r6 - (r4 + 1))] N σ (z_up g6 0 0 0) Q
        exact z_iret d_F_between_127 rfl (by decide) (by decide) ⟨rfl, rfl, h⟩
  · have h := h.1 c1
    refine z_aload_n (i := 0) (c := 0) 0 d_F_between_12 rfl rfl rfl ?_
    refine z_iconst (n := 1) d_F_between_13 (by decide) ?_
    refine z_cV (c := 0) (as := [(0, 1)]) (d' := 1) (st := []) d_F_between_14 mi_F_none ml_F_121 mv_F_none se_F_none rfl rfl rfl rfl (ks_F_0 hx) rfl rfl (kl_F_0 hx) rfl rfl (b_F_none_0 hx ?_)
    intro _
    show z_U X 4 m_F_between 17 [(0, (2, 0)), (1, (0, a1)), (2, (0, a2)), (3, (0, a3)), (4, (0, a4))] [(0, (-1))] N σ (z_up g0 0 0 1) Q
    exact z_iret d_F_between_17 rfl (by decide) (by decide) ⟨rfl, rfl, h⟩
theorem d_F_digitAt_0 : decode (z_c m_F_digitAt) 0 = .ok (.iload_n 3, 1) := by decide +kernel
theorem d_F_digitAt_1 : decode (z_c m_F_digitAt) 1 = .ok (.ifCond .lt 22, 3) := by decide +kernel
theorem d_F_digitAt_4 : decode (z_c m_F_digitAt) 4 = .ok (.iload_n 3, 1) := by decide +kernel
theorem d_F_digitAt_5 : decode (z_c m_F_digitAt) 5 = .ok (.sipush 9999, 3) := by decide +kernel
theorem d_F_digitAt_8 : decode (z_c m_F_digitAt) 8 = .ok (.if_icmp .gt 15, 3) := by decide +kernel
theorem d_F_digitAt_11 : decode (z_c m_F_digitAt) 11 = .ok (.aload_n 0, 1) := by decide +kernel
theorem d_F_digitAt_12 : decode (z_c m_F_digitAt) 12 = .ok (.getfield 50, 3) := by decide +kernel
theorem d_F_digitAt_15 : decode (z_c m_F_digitAt) 15 = .ok (.iload_n 1, 1) := by decide +kernel
theorem d_F_digitAt_16 : decode (z_c m_F_digitAt) 16 = .ok (.iload_n 2, 1) := by decide +kernel
theorem d_F_digitAt_17 : decode (z_c m_F_digitAt) 17 = .ok (.invokevirtual 237, 3) := by decide +kernel
theorem d_F_digitAt_20 : decode (z_c m_F_digitAt) 20 = .ok (.ifCond .ne 9, 3) := by decide +kernel
theorem d_F_digitAt_23 : decode (z_c m_F_digitAt) 23 = .ok (.aload_n 0, 1) := by decide +kernel
theorem d_F_digitAt_24 : decode (z_c m_F_digitAt) 24 = .ok (.iconst 1, 1) := by decide +kernel
theorem d_F_digitAt_25 : decode (z_c m_F_digitAt) 25 = .ok (.invokevirtual 121, 3) := by decide +kernel
theorem d_F_digitAt_28 : decode (z_c m_F_digitAt) 28 = .ok (.ireturn, 1) := by decide +kernel
theorem d_F_digitAt_29 : decode (z_c m_F_digitAt) 29 = .ok (.aload_n 0, 1) := by decide +kernel
theorem d_F_digitAt_30 : decode (z_c m_F_digitAt) 30 = .ok (.getfield 50, 3) := by decide +kernel
theorem d_F_digitAt_33 : decode (z_c m_F_digitAt) 33 = .ok (.getfield 244, 3) := by decide +kernel
theorem d_F_digitAt_36 : decode (z_c m_F_digitAt) 36 = .ok (.iload_n 3, 1) := by decide +kernel
theorem d_F_digitAt_37 : decode (z_c m_F_digitAt) 37 = .ok (.aload_n 0, 1) := by decide +kernel
theorem d_F_digitAt_38 : decode (z_c m_F_digitAt) 38 = .ok (.getfield 50, 3) := by decide +kernel
theorem d_F_digitAt_41 : decode (z_c m_F_digitAt) 41 = .ok (.getfield 241, 3) := by decide +kernel
theorem d_F_digitAt_44 : decode (z_c m_F_digitAt) 44 = .ok (.invokestatic 335, 3) := by decide +kernel
theorem d_F_digitAt_47 : decode (z_c m_F_digitAt) 47 = .ok (.istore 4, 2) := by decide +kernel
theorem d_F_digitAt_49 : decode (z_c m_F_digitAt) 49 = .ok (.aload_n 0, 1) := by decide +kernel
theorem d_F_digitAt_50 : decode (z_c m_F_digitAt) 50 = .ok (.aload_n 0, 1) := by decide +kernel
theorem d_F_digitAt_51 : decode (z_c m_F_digitAt) 51 = .ok (.getfield 50, 3) := by decide +kernel
theorem d_F_digitAt_54 : decode (z_c m_F_digitAt) 54 = .ok (.getfield 241, 3) := by decide +kernel
theorem d_F_digitAt_57 : decode (z_c m_F_digitAt) 57 = .ok (.iconst 1, 1) := by decide +kernel
theorem d_F_digitAt_58 : decode (z_c m_F_digitAt) 58 = .ok (.if_icmp .ge 7, 3) := by decide +kernel
theorem d_F_digitAt_61 : decode (z_c m_F_digitAt) 61 = .ok (.iconst 0, 1) := by decide +kernel
theorem d_F_digitAt_62 : decode (z_c m_F_digitAt) 62 = .ok (.goto 16, 3) := by decide +kernel
theorem d_F_digitAt_65 : decode (z_c m_F_digitAt) 65 = .ok (.iload 4, 2) := by decide +kernel
theorem d_F_digitAt_67 : decode (z_c m_F_digitAt) 67 = .ok (.bipush 10, 2) := by decide +kernel
theorem d_F_digitAt_69 : decode (z_c m_F_digitAt) 69 = .ok (.imul, 1) := by decide +kernel
theorem d_F_digitAt_70 : decode (z_c m_F_digitAt) 70 = .ok (.aload_n 0, 1) := by decide +kernel
theorem d_F_digitAt_71 : decode (z_c m_F_digitAt) 71 = .ok (.getfield 50, 3) := by decide +kernel
theorem d_F_digitAt_74 : decode (z_c m_F_digitAt) 74 = .ok (.getfield 241, 3) := by decide +kernel
theorem d_F_digitAt_77 : decode (z_c m_F_digitAt) 77 = .ok (.idiv, 1) := by decide +kernel
theorem d_F_digitAt_78 : decode (z_c m_F_digitAt) 78 = .ok (.invokevirtual 176, 3) := by decide +kernel
theorem d_F_digitAt_81 : decode (z_c m_F_digitAt) 81 = .ok (.ireturn, 1) := by decide +kernel
set_option maxRecDepth 8000 in
theorem b_F_digitAt_0 {X : z_X} {N : Nat} {σ g : z_G} {Q : z_P} {a1 a2 a3 : Int} (hx : z_lay X N σ 0 z_SF z_RF) (h : ((a3 < 0) → Q (-1) (z_up g 0 0 1)) ∧ (¬ (a3 < 0) → (((9999 < a3) → Q (-1) (z_up g 0 0 1)) ∧ (¬ (9999 < a3) → (z_O X 3 m_Ch_take [(2, 18), (0, a1), (0, a2)] N σ g (fun r0 g0 => (r0 = 0 ∨ r0 = 1) → (((r0 = 0) → Q (-1) (z_up g0 0 0 1)) ∧ (¬ (r0 = 0) → (z_O X 1 m_F_restOf [(0, g0 18 3), (0, a3), (0, g0 18 4)] N σ g0 (fun r1 g1 => (((1 ≤ (g1 18 4)) → ((-2147483648 ≤ (r1 * 10) ∧ (r1 * 10) ≤ 2147483647) ∧ ((0 < (g1 18 4)) ∧ Q (Int.tdiv (r1 * 10) (g1 18 4)) (z_up g1 0 0 0)))) ∧ (¬ (1 ≤ (g1 18 4)) → Q 0 (z_up g1 0 0 0))))))))))))) : z_O X 4 m_F_digitAt [(2, 0), (0, a1), (0, a2), (0, a3)] N σ g Q := by
  refine z_Oenter mi_F_digitAt rfl (fun _ => ?_)
  show z_U X 4 m_F_digitAt 0 [(0, (2, 0)), (1, (0, a1)), (2, (0, a2)), (3, (0, a3))] [] N σ g Q
  refine z_iload_n (i := 3) 3 d_F_digitAt_0 rfl rfl ?_
  refine z_if_lt (tgt := 23) d_F_digitAt_1 (by decide) (fun c1 => ?_) (fun c1 => ?_)
  · have h := h.1 c1
    refine z_aload_n (i := 0) (c := 0) 0 d_F_digitAt_23 rfl rfl rfl ?_
    refine z_iconst (n := 1) d_F_digitAt_24 (by decide) ?_
    refine z_cV (c := 0) (as := [(0, 1)]) (d' := 1) (st := []) d_F_digitAt_25 mi_F_none ml_F_121 mv_F_none se_F_none rfl rfl rfl rfl (ks_F_0 hx) rfl rfl (kl_F_0 hx) rfl rfl (b_F_none_0 hx ?_)
    intro _
    show z_U X 4 m_F_digitAt 28 [(0, (2, 0)), (1, (0, a1)), (2, (0, a2)), (3, (0, a3))] [(0, (-1))] N σ (z_up g 0 0 1) Q
    exact z_iret d_F_digitAt_28 rfl (by decide) (by decide) ⟨rfl, rfl, h⟩
  · have h := h.2 c1
    refine z_iload_n (i := 3) 3 d_F_digitAt_4 rfl rfl ?_
    refine z_sipush (n := 9999) d_F_digitAt_5 (by decide) (by decide) ?_
    refine z_icmp_gt (tgt := 23) d_F_digitAt_8 (by decide) (fun c2 => ?_) (fun c2 => ?_)
    · have h := h.1 c2
      refine z_aload_n (i := 0) (c := 0) 0 d_F_digitAt_23 rfl rfl rfl ?_
      refine z_iconst (n := 1) d_F_digitAt_24 (by decide) ?_
      refine z_cV (c := 0) (as := [(0, 1)]) (d' := 1) (st := []) d_F_digitAt_25 mi_F_none ml_F_121 mv_F_none se_F_none rfl rfl rfl rfl (ks_F_0 hx) rfl rfl (kl_F_0 hx) rfl rfl (b_F_none_0 hx ?_)
      intro _
      show z_U X 4 m_F_digitAt 28 [(0, (2, 0)), (1, (0, a1)), (2, (0, a2)), (3, (0, a3))] [(0, (-1))] N σ (z_up g 0 0 1) Q
      exact z_iret d_F_digitAt_28 rfl (by decide) (by decide) ⟨rfl, rfl, h⟩
    · have h := h.2 c2
      refine z_aload_n (i := 0) (c := 0) 0 d_F_digitAt_11 rfl rfl rfl ?_
      refine z_getr (c := 0) (kI := 8) (r2 := 18) d_F_digitAt_12 fd_F_chain fl_F_50 rfl rfl rfl (ks_F_0 hx) (kl_F_0 hx) (kr_F_0_8 hx) ?_
      refine z_iload_n (i := 1) 1 d_F_digitAt_15 rfl rfl ?_
      refine z_iload_n (i := 2) 2 d_F_digitAt_16 rfl rfl ?_
      refine z_cV (c := 18) (as := [(0, a1), (0, a2)]) (d' := 3) (st := []) d_F_digitAt_17 mi_Ch_take ml_F_237 mv_Ch_take se_Ch_take rfl rfl rfl rfl (ks_F_18 hx) rfl rfl (kl_F_18 hx) rfl rfl (z_Omono h (fun r0 g0 _ h hro => ?_))
      have h := h (z_b01 hro)
      have hzr0 := z_b01 hro
      show z_U X 4 m_F_digitAt 20 [(0, (2, 0)), (1, (0, a1)), (2, (0, a2)), (3, (0, a3))] [(0, r0)] N σ g0 Q
      refine z_if_ne (tgt := 29) d_F_digitAt_20 (by decide) (fun c3 => ?_) (fun c3 => ?_)
      · have h := h.2 c3
        refine z_aload_n (i := 0) (c := 0) 0 d_F_digitAt_29 rfl rfl rfl ?_
        refine z_getr (c := 0) (kI := 8) (r2 := 18) d_F_digitAt_30 fd_F_chain fl_F_50 rfl rfl rfl (ks_F_0 hx) (kl_F_0 hx) (kr_F_0_8 hx) ?_
        refine z_geti (c := 18) (kI := 3) d_F_digitAt_33 fd_Ch_top fl_F_244 (Or.inl rfl) rfl rfl (ks_F_18 hx) (kl_F_18 hx) ?_
        refine z_iload_n (i := 3) 3 d_F_digitAt_36 rfl rfl ?_
        refine z_aload_n (i := 0) (c := 0) 0 d_F_digitAt_37 rfl rfl rfl ?_
        refine z_getr (c := 0) (kI := 8) (r2 := 18) d_F_digitAt_38 fd_F_chain fl_F_50 rfl rfl rfl (ks_F_0 hx) (kl_F_0 hx) (kr_F_0_8 hx) ?_
        refine z_geti (c := 18) (kI := 4) d_F_digitAt_41 fd_Ch_bottom fl_F_241 (Or.inl rfl) rfl rfl (ks_F_18 hx) (kl_F_18 hx) ?_
        refine z_cS (as := [(0, g0 18 3), (0, a3), (0, g0 18 4)]) (d' := 1) (st := []) d_F_digitAt_44 mi_F_restOf ml_F_335 ms_F_restOf rfl rfl rfl rfl rfl (z_Omono h (fun r1 g1 _ h hro => ?_))
        show z_U X 4 m_F_digitAt 47 [(0, (2, 0)), (1, (0, a1)), (2, (0, a2)), (3, (0, a3))] [(0, r1)] N σ g1 Q
        refine z_istore (ls' := [(4, (0, r1)), (0, (2, 0)), (1, (0, a1)), (2, (0, a2)), (3, (0, a3))]) d_F_digitAt_47 rfl rfl ?_
        refine z_aload_n (i := 0) (c := 0) 1 d_F_digitAt_49 rfl rfl rfl ?_
        refine z_aload_n (i := 0) (c := 0) 1 d_F_digitAt_50 rfl rfl rfl ?_
        refine z_getr (c := 0) (kI := 8) (r2 := 18) d_F_digitAt_51 fd_F_chain fl_F_50 rfl rfl rfl (ks_F_0 hx) (kl_F_0 hx) (kr_F_0_8 hx) ?_
        refine z_geti (c := 18) (kI := 4) d_F_digitAt_54 fd_Ch_bottom fl_F_241 (Or.inl rfl) rfl rfl (ks_F_18 hx) (kl_F_18 hx) ?_
        refine z_iconst (n := 1) d_F_digitAt_57 (by decide) ?_
        refine z_icmp_ge (tgt := 65) d_F_digitAt_58 (by decide) (fun c4 => ?_) (fun c4 => ?_)
        · have h := h.1 c4
          refine z_iload 0 d_F_digitAt_65 rfl ?_
          refine z_bipush (n := 10) d_F_digitAt_67 (by decide) (by decide) ?_
          obtain ⟨c5, h⟩ := h
          refine z_imul d_F_digitAt_69 c5 ?_
          refine z_aload_n (i := 0) (c := 0) 1 d_F_digitAt_70 rfl rfl rfl ?_
          refine z_getr (c := 0) (kI := 8) (r2 := 18) d_F_digitAt_71 fd_F_chain fl_F_50 rfl rfl rfl (ks_F_0 hx) (kl_F_0 hx) (kr_F_0_8 hx) ?_
          refine z_geti (c := 18) (kI := 4) d_F_digitAt_74 fd_Ch_bottom fl_F_241 (Or.inl rfl) rfl rfl (ks_F_18 hx) (kl_F_18 hx) ?_
          obtain ⟨c6, h⟩ := h
          refine z_idiv d_F_digitAt_77 c6 ?_
          refine z_cV (c := 0) (as := [(0, Int.tdiv (r1 * 10) (g1 18 4))]) (d' := 1) (st := []) d_F_digitAt_78 mi_F_give ml_F_176 mv_F_give se_F_give rfl rfl rfl rfl (ks_F_0 hx) rfl rfl (kl_F_0 hx) rfl rfl (b_F_give_0 hx ?_)
          intro _
          show z_U X 4 m_F_digitAt 81 [(4, (0, r1)), (0, (2, 0)), (1, (0, a1)), (2, (0, a2)), (3, (0, a3))] [(0, Int.tdiv (r1 * 10) (g1 18 4))] N σ (z_up g1 0 0 0) Q
          exact z_iret d_F_digitAt_81 rfl (by decide) (by decide) ⟨rfl, rfl, h⟩
        · have h := h.2 c4
          refine z_iconst (n := 0) d_F_digitAt_61 (by decide) ?_
          refine z_goto (tgt := 78) d_F_digitAt_62 (by decide) ?_
          refine z_cV (c := 0) (as := [(0, 0)]) (d' := 1) (st := []) d_F_digitAt_78 mi_F_give ml_F_176 mv_F_give se_F_give rfl rfl rfl rfl (ks_F_0 hx) rfl rfl (kl_F_0 hx) rfl rfl (b_F_give_0 hx ?_)
          intro _
          show z_U X 4 m_F_digitAt 81 [(4, (0, r1)), (0, (2, 0)), (1, (0, a1)), (2, (0, a2)), (3, (0, a3))] [(0, 0)] N σ (z_up g1 0 0 0) Q
          exact z_iret d_F_digitAt_81 rfl (by decide) (by decide) ⟨rfl, rfl, h⟩
      · have h := h.1 c3
        refine z_aload_n (i := 0) (c := 0) 0 d_F_digitAt_23 rfl rfl rfl ?_
        refine z_iconst (n := 1) d_F_digitAt_24 (by decide) ?_
        refine z_cV (c := 0) (as := [(0, 1)]) (d' := 1) (st := []) d_F_digitAt_25 mi_F_none ml_F_121 mv_F_none se_F_none rfl rfl rfl rfl (ks_F_0 hx) rfl rfl (kl_F_0 hx) rfl rfl (b_F_none_0 hx ?_)
        intro _
        show z_U X 4 m_F_digitAt 28 [(0, (2, 0)), (1, (0, a1)), (2, (0, a2)), (3, (0, a3))] [(0, (-1))] N σ (z_up g0 0 0 1) Q
        exact z_iret d_F_digitAt_28 rfl (by decide) (by decide) ⟨rfl, rfl, h⟩
theorem d_F_digits_0 : decode (z_c m_F_digits) 0 = .ok (.iload_n 3, 1) := by decide +kernel
theorem d_F_digits_1 : decode (z_c m_F_digits) 1 = .ok (.ifCond .lt 20, 3) := by decide +kernel
theorem d_F_digits_4 : decode (z_c m_F_digits) 4 = .ok (.iload_n 3, 1) := by decide +kernel
theorem d_F_digits_5 : decode (z_c m_F_digits) 5 = .ok (.iconst 1, 1) := by decide +kernel
theorem d_F_digits_6 : decode (z_c m_F_digits) 6 = .ok (.if_icmp .gt 15, 3) := by decide +kernel
theorem d_F_digits_9 : decode (z_c m_F_digits) 9 = .ok (.aload_n 0, 1) := by decide +kernel
theorem d_F_digits_10 : decode (z_c m_F_digits) 10 = .ok (.getfield 50, 3) := by decide +kernel
theorem d_F_digits_13 : decode (z_c m_F_digits) 13 = .ok (.iload_n 1, 1) := by decide +kernel
theorem d_F_digits_14 : decode (z_c m_F_digits) 14 = .ok (.iload_n 2, 1) := by decide +kernel
theorem d_F_digits_15 : decode (z_c m_F_digits) 15 = .ok (.invokevirtual 237, 3) := by decide +kernel
theorem d_F_digits_18 : decode (z_c m_F_digits) 18 = .ok (.ifCond .ne 9, 3) := by decide +kernel
theorem d_F_digits_21 : decode (z_c m_F_digits) 21 = .ok (.aload_n 0, 1) := by decide +kernel
theorem d_F_digits_22 : decode (z_c m_F_digits) 22 = .ok (.iconst 1, 1) := by decide +kernel
theorem d_F_digits_23 : decode (z_c m_F_digits) 23 = .ok (.invokevirtual 121, 3) := by decide +kernel
theorem d_F_digits_26 : decode (z_c m_F_digits) 26 = .ok (.ireturn, 1) := by decide +kernel
theorem d_F_digits_27 : decode (z_c m_F_digits) 27 = .ok (.iconst 2, 1) := by decide +kernel
theorem d_F_digits_28 : decode (z_c m_F_digits) 28 = .ok (.aload_n 0, 1) := by decide +kernel
theorem d_F_digits_29 : decode (z_c m_F_digits) 29 = .ok (.getfield 50, 3) := by decide +kernel
theorem d_F_digits_32 : decode (z_c m_F_digits) 32 = .ok (.getfield 241, 3) := by decide +kernel
theorem d_F_digits_35 : decode (z_c m_F_digits) 35 = .ok (.invokestatic 320, 3) := by decide +kernel
theorem d_F_digits_38 : decode (z_c m_F_digits) 38 = .ok (.istore 4, 2) := by decide +kernel
theorem d_F_digits_40 : decode (z_c m_F_digits) 40 = .ok (.iconst 5, 1) := by decide +kernel
theorem d_F_digits_41 : decode (z_c m_F_digits) 41 = .ok (.aload_n 0, 1) := by decide +kernel
theorem d_F_digits_42 : decode (z_c m_F_digits) 42 = .ok (.getfield 50, 3) := by decide +kernel
theorem d_F_digits_45 : decode (z_c m_F_digits) 45 = .ok (.getfield 241, 3) := by decide +kernel
theorem d_F_digits_48 : decode (z_c m_F_digits) 48 = .ok (.invokestatic 320, 3) := by decide +kernel
theorem d_F_digits_51 : decode (z_c m_F_digits) 51 = .ok (.istore 5, 2) := by decide +kernel
theorem d_F_digits_53 : decode (z_c m_F_digits) 53 = .ok (.iload_n 3, 1) := by decide +kernel
theorem d_F_digits_54 : decode (z_c m_F_digits) 54 = .ok (.ifCond .ne 15, 3) := by decide +kernel
theorem d_F_digits_57 : decode (z_c m_F_digits) 57 = .ok (.aload_n 0, 1) := by decide +kernel
theorem d_F_digits_58 : decode (z_c m_F_digits) 58 = .ok (.iload 4, 2) := by decide +kernel
theorem d_F_digits_60 : decode (z_c m_F_digits) 60 = .ok (.iload 5, 2) := by decide +kernel
theorem d_F_digits_62 : decode (z_c m_F_digits) 62 = .ok (.invokestatic 323, 3) := by decide +kernel
theorem d_F_digits_65 : decode (z_c m_F_digits) 65 = .ok (.invokevirtual 176, 3) := by decide +kernel
theorem d_F_digits_68 : decode (z_c m_F_digits) 68 = .ok (.ireturn, 1) := by decide +kernel
theorem d_F_digits_69 : decode (z_c m_F_digits) 69 = .ok (.aload_n 0, 1) := by decide +kernel
theorem d_F_digits_70 : decode (z_c m_F_digits) 70 = .ok (.iconst 5, 1) := by decide +kernel
theorem d_F_digits_71 : decode (z_c m_F_digits) 71 = .ok (.iload 5, 2) := by decide +kernel
theorem d_F_digits_73 : decode (z_c m_F_digits) 73 = .ok (.iconst 2, 1) := by decide +kernel
theorem d_F_digits_74 : decode (z_c m_F_digits) 74 = .ok (.iload 4, 2) := by decide +kernel
theorem d_F_digits_76 : decode (z_c m_F_digits) 76 = .ok (.aload_n 0, 1) := by decide +kernel
theorem d_F_digits_77 : decode (z_c m_F_digits) 77 = .ok (.getfield 50, 3) := by decide +kernel
theorem d_F_digits_80 : decode (z_c m_F_digits) 80 = .ok (.getfield 241, 3) := by decide +kernel
theorem d_F_digits_83 : decode (z_c m_F_digits) 83 = .ok (.invokestatic 328, 3) := by decide +kernel
theorem d_F_digits_86 : decode (z_c m_F_digits) 86 = .ok (.invokestatic 328, 3) := by decide +kernel
theorem d_F_digits_89 : decode (z_c m_F_digits) 89 = .ok (.invokestatic 332, 3) := by decide +kernel
theorem d_F_digits_92 : decode (z_c m_F_digits) 92 = .ok (.invokevirtual 176, 3) := by decide +kernel
theorem d_F_digits_95 : decode (z_c m_F_digits) 95 = .ok (.ireturn, 1) := by decide +kernel
set_option maxRecDepth 8000 in
theorem b_F_digits_0 {X : z_X} {N : Nat} {σ g : z_G} {Q : z_P} {a1 a2 a3 : Int} (hx : z_lay X N σ 0 z_SF z_RF) (h : ((a3 < 0) → Q (-1) (z_up g 0 0 1)) ∧ (¬ (a3 < 0) → (((1 < a3) → Q (-1) (z_up g 0 0 1)) ∧ (¬ (1 < a3) → (z_O X 3 m_Ch_take [(2, 18), (0, a1), (0, a2)] N σ g (fun r0 g0 => (r0 = 0 ∨ r0 = 1) → (((r0 = 0) → Q (-1) (z_up g0 0 0 1)) ∧ (¬ (r0 = 0) → (z_O X 1 m_F_timesWithin [(0, 2), (0, g0 18 4)] N σ g0 (fun r1 g1 => (z_O X 1 m_F_timesWithin [(0, 5), (0, g1 18 4)] N σ g1 (fun r2 g2 => (((a3 = 0) → (((r1 < r2) → Q r2 (z_up g2 0 0 0)) ∧ (¬ (r1 < r2) → Q r1 (z_up g2 0 0 0)))) ∧ (¬ (a3 = 0) → (z_O X 1 m_F_without [(0, 2), (0, r1), (0, g2 18 4)] N σ g2 (fun r3 g3 => (z_O X 1 m_F_without [(0, 5), (0, r2), (0, r3)] N σ g3 (fun r4 g4 => (z_O X 1 m_F_periodOf [(0, r4)] N σ g4 (fun r5 g5 => Q r5 (z_up g5 0 0 0))))))))))))))))))))) : z_O X 4 m_F_digits [(2, 0), (0, a1), (0, a2), (0, a3)] N σ g Q := by
  refine z_Oenter mi_F_digits rfl (fun _ => ?_)
  show z_U X 4 m_F_digits 0 [(0, (2, 0)), (1, (0, a1)), (2, (0, a2)), (3, (0, a3))] [] N σ g Q
  refine z_iload_n (i := 3) 3 d_F_digits_0 rfl rfl ?_
  refine z_if_lt (tgt := 21) d_F_digits_1 (by decide) (fun c1 => ?_) (fun c1 => ?_)
  · have h := h.1 c1
    refine z_aload_n (i := 0) (c := 0) 0 d_F_digits_21 rfl rfl rfl ?_
    refine z_iconst (n := 1) d_F_digits_22 (by decide) ?_
    refine z_cV (c := 0) (as := [(0, 1)]) (d' := 1) (st := []) d_F_digits_23 mi_F_none ml_F_121 mv_F_none se_F_none rfl rfl rfl rfl (ks_F_0 hx) rfl rfl (kl_F_0 hx) rfl rfl (b_F_none_0 hx ?_)
    intro _
    show z_U X 4 m_F_digits 26 [(0, (2, 0)), (1, (0, a1)), (2, (0, a2)), (3, (0, a3))] [(0, (-1))] N σ (z_up g 0 0 1) Q
    exact z_iret d_F_digits_26 rfl (by decide) (by decide) ⟨rfl, rfl, h⟩
  · have h := h.2 c1
    refine z_iload_n (i := 3) 3 d_F_digits_4 rfl rfl ?_
    refine z_iconst (n := 1) d_F_digits_5 (by decide) ?_
    refine z_icmp_gt (tgt := 21) d_F_digits_6 (by decide) (fun c2 => ?_) (fun c2 => ?_)
    · have h := h.1 c2
      refine z_aload_n (i := 0) (c := 0) 0 d_F_digits_21 rfl rfl rfl ?_
      refine z_iconst (n := 1) d_F_digits_22 (by decide) ?_
      refine z_cV (c := 0) (as := [(0, 1)]) (d' := 1) (st := []) d_F_digits_23 mi_F_none ml_F_121 mv_F_none se_F_none rfl rfl rfl rfl (ks_F_0 hx) rfl rfl (kl_F_0 hx) rfl rfl (b_F_none_0 hx ?_)
      intro _
      show z_U X 4 m_F_digits 26 [(0, (2, 0)), (1, (0, a1)), (2, (0, a2)), (3, (0, a3))] [(0, (-1))] N σ (z_up g 0 0 1) Q
      exact z_iret d_F_digits_26 rfl (by decide) (by decide) ⟨rfl, rfl, h⟩
    · have h := h.2 c2
      refine z_aload_n (i := 0) (c := 0) 0 d_F_digits_9 rfl rfl rfl ?_
      refine z_getr (c := 0) (kI := 8) (r2 := 18) d_F_digits_10 fd_F_chain fl_F_50 rfl rfl rfl (ks_F_0 hx) (kl_F_0 hx) (kr_F_0_8 hx) ?_
      refine z_iload_n (i := 1) 1 d_F_digits_13 rfl rfl ?_
      refine z_iload_n (i := 2) 2 d_F_digits_14 rfl rfl ?_
      refine z_cV (c := 18) (as := [(0, a1), (0, a2)]) (d' := 3) (st := []) d_F_digits_15 mi_Ch_take ml_F_237 mv_Ch_take se_Ch_take rfl rfl rfl rfl (ks_F_18 hx) rfl rfl (kl_F_18 hx) rfl rfl (z_Omono h (fun r0 g0 _ h hro => ?_))
      have h := h (z_b01 hro)
      have hzr0 := z_b01 hro
      show z_U X 4 m_F_digits 18 [(0, (2, 0)), (1, (0, a1)), (2, (0, a2)), (3, (0, a3))] [(0, r0)] N σ g0 Q
      refine z_if_ne (tgt := 27) d_F_digits_18 (by decide) (fun c3 => ?_) (fun c3 => ?_)
      · have h := h.2 c3
        refine z_iconst (n := 2) d_F_digits_27 (by decide) ?_
        refine z_aload_n (i := 0) (c := 0) 0 d_F_digits_28 rfl rfl rfl ?_
        refine z_getr (c := 0) (kI := 8) (r2 := 18) d_F_digits_29 fd_F_chain fl_F_50 rfl rfl rfl (ks_F_0 hx) (kl_F_0 hx) (kr_F_0_8 hx) ?_
        refine z_geti (c := 18) (kI := 4) d_F_digits_32 fd_Ch_bottom fl_F_241 (Or.inl rfl) rfl rfl (ks_F_18 hx) (kl_F_18 hx) ?_
        refine z_cS (as := [(0, 2), (0, g0 18 4)]) (d' := 1) (st := []) d_F_digits_35 mi_F_timesWithin ml_F_320 ms_F_timesWithin rfl rfl rfl rfl rfl (z_Omono h (fun r1 g1 _ h hro => ?_))
        show z_U X 4 m_F_digits 38 [(0, (2, 0)), (1, (0, a1)), (2, (0, a2)), (3, (0, a3))] [(0, r1)] N σ g1 Q
        refine z_istore (ls' := [(4, (0, r1)), (0, (2, 0)), (1, (0, a1)), (2, (0, a2)), (3, (0, a3))]) d_F_digits_38 rfl rfl ?_
        refine z_iconst (n := 5) d_F_digits_40 (by decide) ?_
        refine z_aload_n (i := 0) (c := 0) 1 d_F_digits_41 rfl rfl rfl ?_
        refine z_getr (c := 0) (kI := 8) (r2 := 18) d_F_digits_42 fd_F_chain fl_F_50 rfl rfl rfl (ks_F_0 hx) (kl_F_0 hx) (kr_F_0_8 hx) ?_
        refine z_geti (c := 18) (kI := 4) d_F_digits_45 fd_Ch_bottom fl_F_241 (Or.inl rfl) rfl rfl (ks_F_18 hx) (kl_F_18 hx) ?_
        refine z_cS (as := [(0, 5), (0, g1 18 4)]) (d' := 1) (st := []) d_F_digits_48 mi_F_timesWithin ml_F_320 ms_F_timesWithin rfl rfl rfl rfl rfl (z_Omono h (fun r2 g2 _ h hro => ?_))
        show z_U X 4 m_F_digits 51 [(4, (0, r1)), (0, (2, 0)), (1, (0, a1)), (2, (0, a2)), (3, (0, a3))] [(0, r2)] N σ g2 Q
        refine z_istore (ls' := [(5, (0, r2)), (4, (0, r1)), (0, (2, 0)), (1, (0, a1)), (2, (0, a2)), (3, (0, a3))]) d_F_digits_51 rfl rfl ?_
        refine z_iload_n (i := 3) 5 d_F_digits_53 rfl rfl ?_
        refine z_if_ne (tgt := 69) d_F_digits_54 (by decide) (fun c4 => ?_) (fun c4 => ?_)
        · have h := h.2 c4
          refine z_aload_n (i := 0) (c := 0) 2 d_F_digits_69 rfl rfl rfl ?_
          refine z_iconst (n := 5) d_F_digits_70 (by decide) ?_
          refine z_iload 0 d_F_digits_71 rfl ?_
          refine z_iconst (n := 2) d_F_digits_73 (by decide) ?_
          refine z_iload 1 d_F_digits_74 rfl ?_
          refine z_aload_n (i := 0) (c := 0) 2 d_F_digits_76 rfl rfl rfl ?_
          refine z_getr (c := 0) (kI := 8) (r2 := 18) d_F_digits_77 fd_F_chain fl_F_50 rfl rfl rfl (ks_F_0 hx) (kl_F_0 hx) (kr_F_0_8 hx) ?_
          refine z_geti (c := 18) (kI := 4) d_F_digits_80 fd_Ch_bottom fl_F_241 (Or.inl rfl) rfl rfl (ks_F_18 hx) (kl_F_18 hx) ?_
          refine z_cS (as := [(0, 2), (0, r1), (0, g2 18 4)]) (d' := 1) (st := [(0, r2), (0, 5), (2, 0)]) d_F_digits_83 mi_F_without ml_F_328 ms_F_without rfl rfl rfl rfl rfl (z_Omono h (fun r3 g3 _ h hro => ?_))
          show z_U X 4 m_F_digits 86 [(5, (0, r2)), (4, (0, r1)), (0, (2, 0)), (1, (0, a1)), (2, (0, a2)), (3, (0, a3))] [(0, r3), (0, r2), (0, 5), (2, 0)] N σ g3 Q
          refine z_cS (as := [(0, 5), (0, r2), (0, r3)]) (d' := 1) (st := [(2, 0)]) d_F_digits_86 mi_F_without ml_F_328 ms_F_without rfl rfl rfl rfl rfl (z_Omono h (fun r4 g4 _ h hro => ?_))
          show z_U X 4 m_F_digits 89 [(5, (0, r2)), (4, (0, r1)), (0, (2, 0)), (1, (0, a1)), (2, (0, a2)), (3, (0, a3))] [(0, r4), (2, 0)] N σ g4 Q
          refine z_cS (as := [(0, r4)]) (d' := 1) (st := [(2, 0)]) d_F_digits_89 mi_F_periodOf ml_F_332 ms_F_periodOf rfl rfl rfl rfl rfl (z_Omono h (fun r5 g5 _ h hro => ?_))
          show z_U X 4 m_F_digits 92 [(5, (0, r2)), (4, (0, r1)), (0, (2, 0)), (1, (0, a1)), (2, (0, a2)), (3, (0, a3))] [(0, r5), (2, 0)] N σ g5 Q
          refine z_cV (c := 0) (as := [(0, r5)]) (d' := 1) (st := []) d_F_digits_92 mi_F_give ml_F_176 mv_F_give se_F_give rfl rfl rfl rfl (ks_F_0 hx) rfl rfl (kl_F_0 hx) rfl rfl (b_F_give_0 hx ?_)
          intro _
          show z_U X 4 m_F_digits 95 [(5, (0, r2)), (4, (0, r1)), (0, (2, 0)), (1, (0, a1)), (2, (0, a2)), (3, (0, a3))] [(0, r5)] N σ (z_up g5 0 0 0) Q
          exact z_iret d_F_digits_95 rfl (by decide) (by decide) ⟨rfl, rfl, h⟩
        · have h := h.1 c4
          refine z_aload_n (i := 0) (c := 0) 2 d_F_digits_57 rfl rfl rfl ?_
          refine z_iload 1 d_F_digits_58 rfl ?_
          refine z_iload 0 d_F_digits_60 rfl ?_
          refine z_mmax d_F_digits_62 kmm_max_F_323 kms_max kmi kmc_max (by decide) (Nat.le_of_ble_eq_true rfl) (fun c5 => ?_) (fun c5 => ?_)
          · have h := h.1 c5
            refine z_cV (c := 0) (as := [(0, r2)]) (d' := 1) (st := []) d_F_digits_65 mi_F_give ml_F_176 mv_F_give se_F_give rfl rfl rfl rfl (ks_F_0 hx) rfl rfl (kl_F_0 hx) rfl rfl (b_F_give_0 hx ?_)
            intro _
            show z_U X 4 m_F_digits 68 [(5, (0, r2)), (4, (0, r1)), (0, (2, 0)), (1, (0, a1)), (2, (0, a2)), (3, (0, a3))] [(0, r2)] N σ (z_up g2 0 0 0) Q
            exact z_iret d_F_digits_68 rfl (by decide) (by decide) ⟨rfl, rfl, h⟩
          · have h := h.2 c5
            refine z_cV (c := 0) (as := [(0, r1)]) (d' := 1) (st := []) d_F_digits_65 mi_F_give ml_F_176 mv_F_give se_F_give rfl rfl rfl rfl (ks_F_0 hx) rfl rfl (kl_F_0 hx) rfl rfl (b_F_give_0 hx ?_)
            intro _
            show z_U X 4 m_F_digits 68 [(5, (0, r2)), (4, (0, r1)), (0, (2, 0)), (1, (0, a1)), (2, (0, a2)), (3, (0, a3))] [(0, r1)] N σ (z_up g2 0 0 0) Q
            exact z_iret d_F_digits_68 rfl (by decide) (by decide) ⟨rfl, rfl, h⟩
      · have h := h.1 c3
        refine z_aload_n (i := 0) (c := 0) 0 d_F_digits_21 rfl rfl rfl ?_
        refine z_iconst (n := 1) d_F_digits_22 (by decide) ?_
        refine z_cV (c := 0) (as := [(0, 1)]) (d' := 1) (st := []) d_F_digits_23 mi_F_none ml_F_121 mv_F_none se_F_none rfl rfl rfl rfl (ks_F_0 hx) rfl rfl (kl_F_0 hx) rfl rfl (b_F_none_0 hx ?_)
        intro _
        show z_U X 4 m_F_digits 26 [(0, (2, 0)), (1, (0, a1)), (2, (0, a2)), (3, (0, a3))] [(0, (-1))] N σ (z_up g0 0 0 1) Q
        exact z_iret d_F_digits_26 rfl (by decide) (by decide) ⟨rfl, rfl, h⟩
theorem d_F_flip_0 : decode (z_c m_F_flip) 0 = .ok (.aload_n 0, 1) := by decide +kernel
theorem d_F_flip_1 : decode (z_c m_F_flip) 1 = .ok (.getfield 67, 3) := by decide +kernel
theorem d_F_flip_4 : decode (z_c m_F_flip) 4 = .ok (.invokevirtual 347, 3) := by decide +kernel
theorem d_F_flip_7 : decode (z_c m_F_flip) 7 = .ok (.aload_n 0, 1) := by decide +kernel
theorem d_F_flip_8 : decode (z_c m_F_flip) 8 = .ok (.aload_n 0, 1) := by decide +kernel
theorem d_F_flip_9 : decode (z_c m_F_flip) 9 = .ok (.getfield 67, 3) := by decide +kernel
theorem d_F_flip_12 : decode (z_c m_F_flip) 12 = .ok (.getfield 217, 3) := by decide +kernel
theorem d_F_flip_15 : decode (z_c m_F_flip) 15 = .ok (.getfield 220, 3) := by decide +kernel
theorem d_F_flip_18 : decode (z_c m_F_flip) 18 = .ok (.invokevirtual 176, 3) := by decide +kernel
theorem d_F_flip_21 : decode (z_c m_F_flip) 21 = .ok (.ireturn, 1) := by decide +kernel
set_option maxRecDepth 8000 in
theorem b_F_flip_0 {X : z_X} {N : Nat} {σ g : z_G} {Q : z_P} (hx : z_lay X N σ 0 z_SF z_RF) (h : z_O X 3 m_Bd_goAcross [(2, 23)] N σ g (fun r0 g0 => Q (g0 24 4) (z_up g0 0 0 0))) : z_O X 4 m_F_flip [(2, 0)] N σ g Q := by
  refine z_Oenter mi_F_flip rfl (fun _ => ?_)
  show z_U X 4 m_F_flip 0 [(0, (2, 0))] [] N σ g Q
  refine z_aload_n (i := 0) (c := 0) 0 d_F_flip_0 rfl rfl rfl ?_
  refine z_getr (c := 0) (kI := 11) (r2 := 23) d_F_flip_1 fd_F_board fl_F_67 rfl rfl rfl (ks_F_0 hx) (kl_F_0 hx) (kr_F_0_11 hx) ?_
  refine z_cV (c := 23) (as := []) (d' := 3) (st := []) d_F_flip_4 mi_Bd_goAcross ml_F_347 mv_Bd_goAcross se_Bd_goAcross rfl rfl rfl rfl (ks_F_23 hx) rfl rfl (kl_F_23 hx) rfl rfl (z_Omono h (fun r0 g0 _ h hro => ?_))
  show z_U X 4 m_F_flip 7 [(0, (2, 0))] [] N σ g0 Q
  refine z_aload_n (i := 0) (c := 0) 0 d_F_flip_7 rfl rfl rfl ?_
  refine z_aload_n (i := 0) (c := 0) 0 d_F_flip_8 rfl rfl rfl ?_
  refine z_getr (c := 0) (kI := 11) (r2 := 23) d_F_flip_9 fd_F_board fl_F_67 rfl rfl rfl (ks_F_0 hx) (kl_F_0 hx) (kr_F_0_11 hx) ?_
  refine z_getr (c := 23) (kI := 2) (r2 := 24) d_F_flip_12 fd_Bd_walker fl_F_217 rfl rfl rfl (ks_F_23 hx) (kl_F_23 hx) (kr_F_23_2 hx) ?_
  refine z_geti (c := 24) (kI := 4) d_F_flip_15 fd_Sp_deep fl_F_220 (Or.inl rfl) rfl rfl (ks_F_24 hx) (kl_F_24 hx) ?_
  refine z_cV (c := 0) (as := [(0, g0 24 4)]) (d' := 1) (st := []) d_F_flip_18 mi_F_give ml_F_176 mv_F_give se_F_give rfl rfl rfl rfl (ks_F_0 hx) rfl rfl (kl_F_0 hx) rfl rfl (b_F_give_0 hx ?_)
  intro _
  show z_U X 4 m_F_flip 21 [(0, (2, 0))] [(0, g0 24 4)] N σ (z_up g0 0 0 0) Q
  exact z_iret d_F_flip_21 rfl (by decide) (by decide) ⟨rfl, rfl, h⟩
theorem d_F_fraction_0 : decode (z_c m_F_fraction) 0 = .ok (.iload_n 1, 1) := by decide +kernel
theorem d_F_fraction_1 : decode (z_c m_F_fraction) 1 = .ok (.ifCond .ge 9, 3) := by decide +kernel
theorem d_F_fraction_4 : decode (z_c m_F_fraction) 4 = .ok (.aload_n 0, 1) := by decide +kernel
theorem d_F_fraction_5 : decode (z_c m_F_fraction) 5 = .ok (.iconst 1, 1) := by decide +kernel
theorem d_F_fraction_6 : decode (z_c m_F_fraction) 6 = .ok (.invokevirtual 102, 3) := by decide +kernel
theorem d_F_fraction_9 : decode (z_c m_F_fraction) 9 = .ok (.ireturn, 1) := by decide +kernel
theorem d_F_fraction_10 : decode (z_c m_F_fraction) 10 = .ok (.iload_n 1, 1) := by decide +kernel
theorem d_F_fraction_11 : decode (z_c m_F_fraction) 11 = .ok (.aload_n 0, 1) := by decide +kernel
theorem d_F_fraction_12 : decode (z_c m_F_fraction) 12 = .ok (.getfield 43, 3) := by decide +kernel
theorem d_F_fraction_15 : decode (z_c m_F_fraction) 15 = .ok (.aload_n 0, 1) := by decide +kernel
theorem d_F_fraction_16 : decode (z_c m_F_fraction) 16 = .ok (.getfield 67, 3) := by decide +kernel
theorem d_F_fraction_19 : decode (z_c m_F_fraction) 19 = .ok (.getfield 197, 3) := by decide +kernel
theorem d_F_fraction_22 : decode (z_c m_F_fraction) 22 = .ok (.invokevirtual 207, 3) := by decide +kernel
theorem d_F_fraction_25 : decode (z_c m_F_fraction) 25 = .ok (.if_icmp .lt 10, 3) := by decide +kernel
theorem d_F_fraction_28 : decode (z_c m_F_fraction) 28 = .ok (.aload_n 0, 1) := by decide +kernel
theorem d_F_fraction_29 : decode (z_c m_F_fraction) 29 = .ok (.bipush 6, 2) := by decide +kernel
theorem d_F_fraction_31 : decode (z_c m_F_fraction) 31 = .ok (.invokevirtual 102, 3) := by decide +kernel
theorem d_F_fraction_34 : decode (z_c m_F_fraction) 34 = .ok (.ireturn, 1) := by decide +kernel
theorem d_F_fraction_35 : decode (z_c m_F_fraction) 35 = .ok (.aload_n 0, 1) := by decide +kernel
theorem d_F_fraction_36 : decode (z_c m_F_fraction) 36 = .ok (.getfield 43, 3) := by decide +kernel
theorem d_F_fraction_39 : decode (z_c m_F_fraction) 39 = .ok (.aload_n 0, 1) := by decide +kernel
theorem d_F_fraction_40 : decode (z_c m_F_fraction) 40 = .ok (.getfield 67, 3) := by decide +kernel
theorem d_F_fraction_43 : decode (z_c m_F_fraction) 43 = .ok (.getfield 197, 3) := by decide +kernel
theorem d_F_fraction_46 : decode (z_c m_F_fraction) 46 = .ok (.iload_n 1, 1) := by decide +kernel
theorem d_F_fraction_47 : decode (z_c m_F_fraction) 47 = .ok (.invokevirtual 223, 3) := by decide +kernel
theorem d_F_fraction_50 : decode (z_c m_F_fraction) 50 = .ok (.aload_n 0, 1) := by decide +kernel
theorem d_F_fraction_51 : decode (z_c m_F_fraction) 51 = .ok (.aload_n 0, 1) := by decide +kernel
theorem d_F_fraction_52 : decode (z_c m_F_fraction) 52 = .ok (.getfield 43, 3) := by decide +kernel
theorem d_F_fraction_55 : decode (z_c m_F_fraction) 55 = .ok (.getfield 227, 3) := by decide +kernel
theorem d_F_fraction_58 : decode (z_c m_F_fraction) 58 = .ok (.i2l, 1) := by decide +kernel
theorem d_F_fraction_59 : decode (z_c m_F_fraction) 59 = .ok (.aload_n 0, 1) := by decide +kernel
theorem d_F_fraction_60 : decode (z_c m_F_fraction) 60 = .ok (.getfield 43, 3) := by decide +kernel
theorem d_F_fraction_63 : decode (z_c m_F_fraction) 63 = .ok (.getfield 230, 3) := by decide +kernel
theorem d_F_fraction_66 : decode (z_c m_F_fraction) 66 = .ok (.i2l, 1) := by decide +kernel
theorem d_F_fraction_67 : decode (z_c m_F_fraction) 67 = .ok (.invokevirtual 233, 3) := by decide +kernel
theorem d_F_fraction_70 : decode (z_c m_F_fraction) 70 = .ok (.ireturn, 1) := by decide +kernel
set_option maxRecDepth 8000 in
theorem b_F_fraction_0 {X : z_X} {N : Nat} {σ g : z_G} {Q : z_P} {a1 : Int} (hx : z_lay X N σ 0 z_SF z_RF) (h : ((0 ≤ a1) → (z_O X 2 m_Rw_valuesOf [(2, 15), (0, g 23 0)] N σ g (fun r0 g0 => (((a1 < r0) → (z_O X 3 m_Rw_seek [(2, 15), (0, g0 23 0), (0, a1)] N σ g0 (fun r1 g1 => (z_O X 2 m_F_tell [(2, 0), (1, g1 15 2), (1, g1 15 3)] N σ g1 (fun r2 g2 => (r2 = 0 ∨ r2 = 1) → Q r2 g2))))) ∧ (¬ (a1 < r0) → Q 0 (z_up g0 0 0 6)))))) ∧ (¬ (0 ≤ a1) → Q 0 (z_up g 0 0 1))) : z_O X 4 m_F_fraction [(2, 0), (0, a1)] N σ g Q := by
  refine z_Oenter mi_F_fraction rfl (fun _ => ?_)
  show z_U X 4 m_F_fraction 0 [(0, (2, 0)), (1, (0, a1))] [] N σ g Q
  refine z_iload_n (i := 1) 1 d_F_fraction_0 rfl rfl ?_
  refine z_if_ge (tgt := 10) d_F_fraction_1 (by decide) (fun c1 => ?_) (fun c1 => ?_)
  · have h := h.1 c1
    refine z_iload_n (i := 1) 1 d_F_fraction_10 rfl rfl ?_
    refine z_aload_n (i := 0) (c := 0) 0 d_F_fraction_11 rfl rfl rfl ?_
    refine z_getr (c := 0) (kI := 7) (r2 := 15) d_F_fraction_12 fd_F_row fl_F_43 rfl rfl rfl (ks_F_0 hx) (kl_F_0 hx) (kr_F_0_7 hx) ?_
    refine z_aload_n (i := 0) (c := 0) 0 d_F_fraction_15 rfl rfl rfl ?_
    refine z_getr (c := 0) (kI := 11) (r2 := 23) d_F_fraction_16 fd_F_board fl_F_67 rfl rfl rfl (ks_F_0 hx) (kl_F_0 hx) (kr_F_0_11 hx) ?_
    refine z_geti (c := 23) (kI := 0) d_F_fraction_19 fd_Bd_order fl_F_197 (Or.inl rfl) rfl rfl (ks_F_23 hx) (kl_F_23 hx) ?_
    refine z_cV (c := 15) (as := [(0, g 23 0)]) (d' := 2) (st := [(0, a1)]) d_F_fraction_22 mi_Rw_valuesOf ml_F_207 mv_Rw_valuesOf se_Rw_valuesOf rfl rfl rfl rfl (ks_F_15 hx) rfl rfl (kl_F_15 hx) rfl rfl (z_Omono h (fun r0 g0 _ h hro => ?_))
    show z_U X 4 m_F_fraction 25 [(0, (2, 0)), (1, (0, a1))] [(0, r0), (0, a1)] N σ g0 Q
    refine z_icmp_lt (tgt := 35) d_F_fraction_25 (by decide) (fun c2 => ?_) (fun c2 => ?_)
    · have h := h.1 c2
      refine z_aload_n (i := 0) (c := 0) 0 d_F_fraction_35 rfl rfl rfl ?_
      refine z_getr (c := 0) (kI := 7) (r2 := 15) d_F_fraction_36 fd_F_row fl_F_43 rfl rfl rfl (ks_F_0 hx) (kl_F_0 hx) (kr_F_0_7 hx) ?_
      refine z_aload_n (i := 0) (c := 0) 0 d_F_fraction_39 rfl rfl rfl ?_
      refine z_getr (c := 0) (kI := 11) (r2 := 23) d_F_fraction_40 fd_F_board fl_F_67 rfl rfl rfl (ks_F_0 hx) (kl_F_0 hx) (kr_F_0_11 hx) ?_
      refine z_geti (c := 23) (kI := 0) d_F_fraction_43 fd_Bd_order fl_F_197 (Or.inl rfl) rfl rfl (ks_F_23 hx) (kl_F_23 hx) ?_
      refine z_iload_n (i := 1) 1 d_F_fraction_46 rfl rfl ?_
      refine z_cV (c := 15) (as := [(0, g0 23 0), (0, a1)]) (d' := 3) (st := []) d_F_fraction_47 mi_Rw_seek ml_F_223 mv_Rw_seek se_Rw_seek rfl rfl rfl rfl (ks_F_15 hx) rfl rfl (kl_F_15 hx) rfl rfl (z_Omono h (fun r1 g1 _ h hro => ?_))
      show z_U X 4 m_F_fraction 50 [(0, (2, 0)), (1, (0, a1))] [] N σ g1 Q
      refine z_aload_n (i := 0) (c := 0) 0 d_F_fraction_50 rfl rfl rfl ?_
      refine z_aload_n (i := 0) (c := 0) 0 d_F_fraction_51 rfl rfl rfl ?_
      refine z_getr (c := 0) (kI := 7) (r2 := 15) d_F_fraction_52 fd_F_row fl_F_43 rfl rfl rfl (ks_F_0 hx) (kl_F_0 hx) (kr_F_0_7 hx) ?_
      refine z_geti (c := 15) (kI := 2) d_F_fraction_55 fd_Rw_lowTop fl_F_227 (Or.inl rfl) rfl rfl (ks_F_15 hx) (kl_F_15 hx) ?_
      refine z_i2l d_F_fraction_58 ?_
      refine z_aload_n (i := 0) (c := 0) 0 d_F_fraction_59 rfl rfl rfl ?_
      refine z_getr (c := 0) (kI := 7) (r2 := 15) d_F_fraction_60 fd_F_row fl_F_43 rfl rfl rfl (ks_F_0 hx) (kl_F_0 hx) (kr_F_0_7 hx) ?_
      refine z_geti (c := 15) (kI := 3) d_F_fraction_63 fd_Rw_lowBottom fl_F_230 (Or.inl rfl) rfl rfl (ks_F_15 hx) (kl_F_15 hx) ?_
      refine z_i2l d_F_fraction_66 ?_
      refine z_cV (c := 0) (as := [(1, g1 15 2), (1, g1 15 3)]) (d' := 2) (st := []) d_F_fraction_67 mi_F_tell ml_F_233 mv_F_tell se_F_tell rfl rfl rfl rfl (ks_F_0 hx) rfl rfl (kl_F_0 hx) rfl rfl (z_Omono h (fun r2 g2 _ h hro => ?_))
      have h := h (z_b01 hro)
      have hzr2 := z_b01 hro
      show z_U X 4 m_F_fraction 70 [(0, (2, 0)), (1, (0, a1))] [(0, r2)] N σ g2 Q
      exact z_zret d_F_fraction_70 rfl (by decide) (by decide) hzr2 ⟨rfl, rfl, h⟩
    · have h := h.2 c2
      refine z_aload_n (i := 0) (c := 0) 0 d_F_fraction_28 rfl rfl rfl ?_
      refine z_bipush (n := 6) d_F_fraction_29 (by decide) (by decide) ?_
      refine z_cV (c := 0) (as := [(0, 6)]) (d' := 1) (st := []) d_F_fraction_31 mi_F_refuse ml_F_102 mv_F_refuse se_F_refuse rfl rfl rfl rfl (ks_F_0 hx) rfl rfl (kl_F_0 hx) rfl rfl (b_F_refuse_0 hx ?_)
      intro _
      show z_U X 4 m_F_fraction 34 [(0, (2, 0)), (1, (0, a1))] [(0, 0)] N σ (z_up g0 0 0 6) Q
      exact z_zret d_F_fraction_34 rfl (by decide) (by decide) (by decide) ⟨rfl, rfl, h⟩
  · have h := h.2 c1
    refine z_aload_n (i := 0) (c := 0) 0 d_F_fraction_4 rfl rfl rfl ?_
    refine z_iconst (n := 1) d_F_fraction_5 (by decide) ?_
    refine z_cV (c := 0) (as := [(0, 1)]) (d' := 1) (st := []) d_F_fraction_6 mi_F_refuse ml_F_102 mv_F_refuse se_F_refuse rfl rfl rfl rfl (ks_F_0 hx) rfl rfl (kl_F_0 hx) rfl rfl (b_F_refuse_0 hx ?_)
    intro _
    show z_U X 4 m_F_fraction 9 [(0, (2, 0)), (1, (0, a1))] [(0, 0)] N σ (z_up g 0 0 1) Q
    exact z_zret d_F_fraction_9 rfl (by decide) (by decide) (by decide) ⟨rfl, rfl, h⟩
theorem d_F_go_0 : decode (z_c m_F_go) 0 = .ok (.iload_n 1, 1) := by decide +kernel
theorem d_F_go_1 : decode (z_c m_F_go) 1 = .ok (.ifCond .eq 14, 3) := by decide +kernel
theorem d_F_go_4 : decode (z_c m_F_go) 4 = .ok (.iload_n 1, 1) := by decide +kernel
theorem d_F_go_5 : decode (z_c m_F_go) 5 = .ok (.iconst 1, 1) := by decide +kernel
theorem d_F_go_6 : decode (z_c m_F_go) 6 = .ok (.if_icmp .eq 9, 3) := by decide +kernel
theorem d_F_go_9 : decode (z_c m_F_go) 9 = .ok (.aload_n 0, 1) := by decide +kernel
theorem d_F_go_10 : decode (z_c m_F_go) 10 = .ok (.iconst 1, 1) := by decide +kernel
theorem d_F_go_11 : decode (z_c m_F_go) 11 = .ok (.invokevirtual 121, 3) := by decide +kernel
theorem d_F_go_14 : decode (z_c m_F_go) 14 = .ok (.ireturn, 1) := by decide +kernel
theorem d_F_go_15 : decode (z_c m_F_go) 15 = .ok (.aload_n 0, 1) := by decide +kernel
theorem d_F_go_16 : decode (z_c m_F_go) 16 = .ok (.getfield 67, 3) := by decide +kernel
theorem d_F_go_19 : decode (z_c m_F_go) 19 = .ok (.iload_n 1, 1) := by decide +kernel
theorem d_F_go_20 : decode (z_c m_F_go) 20 = .ok (.invokevirtual 341, 3) := by decide +kernel
theorem d_F_go_23 : decode (z_c m_F_go) 23 = .ok (.ifCond .eq 20, 3) := by decide +kernel
theorem d_F_go_26 : decode (z_c m_F_go) 26 = .ok (.aload_n 0, 1) := by decide +kernel
theorem d_F_go_27 : decode (z_c m_F_go) 27 = .ok (.aload_n 0, 1) := by decide +kernel
theorem d_F_go_28 : decode (z_c m_F_go) 28 = .ok (.getfield 67, 3) := by decide +kernel
theorem d_F_go_31 : decode (z_c m_F_go) 31 = .ok (.getfield 217, 3) := by decide +kernel
theorem d_F_go_34 : decode (z_c m_F_go) 34 = .ok (.getfield 220, 3) := by decide +kernel
theorem d_F_go_37 : decode (z_c m_F_go) 37 = .ok (.invokevirtual 176, 3) := by decide +kernel
theorem d_F_go_40 : decode (z_c m_F_go) 40 = .ok (.goto 9, 3) := by decide +kernel
theorem d_F_go_43 : decode (z_c m_F_go) 43 = .ok (.aload_n 0, 1) := by decide +kernel
theorem d_F_go_44 : decode (z_c m_F_go) 44 = .ok (.bipush 7, 2) := by decide +kernel
theorem d_F_go_46 : decode (z_c m_F_go) 46 = .ok (.invokevirtual 121, 3) := by decide +kernel
theorem d_F_go_49 : decode (z_c m_F_go) 49 = .ok (.ireturn, 1) := by decide +kernel
set_option maxRecDepth 8000 in
theorem b_F_go_0 {X : z_X} {N : Nat} {σ g : z_G} {Q : z_P} {a1 : Int} (hx : z_lay X N σ 0 z_SF z_RF) (h : ((a1 = 0) → (z_O X 3 m_Bd_goDown [(2, 23), (0, a1)] N σ g (fun r0 g0 => (r0 = 0 ∨ r0 = 1) → (((r0 = 0) → Q (-1) (z_up g0 0 0 7)) ∧ (¬ (r0 = 0) → Q (g0 24 4) (z_up g0 0 0 0)))))) ∧ (¬ (a1 = 0) → (((a1 = 1) → (z_O X 3 m_Bd_goDown [(2, 23), (0, a1)] N σ g (fun r1 g1 => (r1 = 0 ∨ r1 = 1) → (((r1 = 0) → Q (-1) (z_up g1 0 0 7)) ∧ (¬ (r1 = 0) → Q (g1 24 4) (z_up g1 0 0 0)))))) ∧ (¬ (a1 = 1) → Q (-1) (z_up g 0 0 1))))) : z_O X 4 m_F_go [(2, 0), (0, a1)] N σ g Q := by
  refine z_Oenter mi_F_go rfl (fun _ => ?_)
  show z_U X 4 m_F_go 0 [(0, (2, 0)), (1, (0, a1))] [] N σ g Q
  refine z_iload_n (i := 1) 1 d_F_go_0 rfl rfl ?_
  refine z_if_eq (tgt := 15) d_F_go_1 (by decide) (fun c1 => ?_) (fun c1 => ?_)
  · have h := h.1 c1
    refine z_aload_n (i := 0) (c := 0) 0 d_F_go_15 rfl rfl rfl ?_
    refine z_getr (c := 0) (kI := 11) (r2 := 23) d_F_go_16 fd_F_board fl_F_67 rfl rfl rfl (ks_F_0 hx) (kl_F_0 hx) (kr_F_0_11 hx) ?_
    refine z_iload_n (i := 1) 1 d_F_go_19 rfl rfl ?_
    refine z_cV (c := 23) (as := [(0, a1)]) (d' := 3) (st := []) d_F_go_20 mi_Bd_goDown ml_F_341 mv_Bd_goDown se_Bd_goDown rfl rfl rfl rfl (ks_F_23 hx) rfl rfl (kl_F_23 hx) rfl rfl (z_Omono h (fun r0 g0 _ h hro => ?_))
    have h := h (z_b01 hro)
    have hzr0 := z_b01 hro
    show z_U X 4 m_F_go 23 [(0, (2, 0)), (1, (0, a1))] [(0, r0)] N σ g0 Q
    refine z_if_eq (tgt := 43) d_F_go_23 (by decide) (fun c2 => ?_) (fun c2 => ?_)
    · have h := h.1 c2
      refine z_aload_n (i := 0) (c := 0) 0 d_F_go_43 rfl rfl rfl ?_
      refine z_bipush (n := 7) d_F_go_44 (by decide) (by decide) ?_
      refine z_cV (c := 0) (as := [(0, 7)]) (d' := 1) (st := []) d_F_go_46 mi_F_none ml_F_121 mv_F_none se_F_none rfl rfl rfl rfl (ks_F_0 hx) rfl rfl (kl_F_0 hx) rfl rfl (b_F_none_0 hx ?_)
      intro _
      show z_U X 4 m_F_go 49 [(0, (2, 0)), (1, (0, a1))] [(0, (-1))] N σ (z_up g0 0 0 7) Q
      exact z_iret d_F_go_49 rfl (by decide) (by decide) ⟨rfl, rfl, h⟩
    · have h := h.2 c2
      refine z_aload_n (i := 0) (c := 0) 0 d_F_go_26 rfl rfl rfl ?_
      refine z_aload_n (i := 0) (c := 0) 0 d_F_go_27 rfl rfl rfl ?_
      refine z_getr (c := 0) (kI := 11) (r2 := 23) d_F_go_28 fd_F_board fl_F_67 rfl rfl rfl (ks_F_0 hx) (kl_F_0 hx) (kr_F_0_11 hx) ?_
      refine z_getr (c := 23) (kI := 2) (r2 := 24) d_F_go_31 fd_Bd_walker fl_F_217 rfl rfl rfl (ks_F_23 hx) (kl_F_23 hx) (kr_F_23_2 hx) ?_
      refine z_geti (c := 24) (kI := 4) d_F_go_34 fd_Sp_deep fl_F_220 (Or.inl rfl) rfl rfl (ks_F_24 hx) (kl_F_24 hx) ?_
      refine z_cV (c := 0) (as := [(0, g0 24 4)]) (d' := 1) (st := []) d_F_go_37 mi_F_give ml_F_176 mv_F_give se_F_give rfl rfl rfl rfl (ks_F_0 hx) rfl rfl (kl_F_0 hx) rfl rfl (b_F_give_0 hx ?_)
      intro _
      show z_U X 4 m_F_go 40 [(0, (2, 0)), (1, (0, a1))] [(0, g0 24 4)] N σ (z_up g0 0 0 0) Q
      refine z_goto (tgt := 49) d_F_go_40 (by decide) ?_
      exact z_iret d_F_go_49 rfl (by decide) (by decide) ⟨rfl, rfl, h⟩
  · have h := h.2 c1
    refine z_iload_n (i := 1) 1 d_F_go_4 rfl rfl ?_
    refine z_iconst (n := 1) d_F_go_5 (by decide) ?_
    refine z_icmp_eq (tgt := 15) d_F_go_6 (by decide) (fun c3 => ?_) (fun c3 => ?_)
    · have h := h.1 c3
      refine z_aload_n (i := 0) (c := 0) 0 d_F_go_15 rfl rfl rfl ?_
      refine z_getr (c := 0) (kI := 11) (r2 := 23) d_F_go_16 fd_F_board fl_F_67 rfl rfl rfl (ks_F_0 hx) (kl_F_0 hx) (kr_F_0_11 hx) ?_
      refine z_iload_n (i := 1) 1 d_F_go_19 rfl rfl ?_
      refine z_cV (c := 23) (as := [(0, a1)]) (d' := 3) (st := []) d_F_go_20 mi_Bd_goDown ml_F_341 mv_Bd_goDown se_Bd_goDown rfl rfl rfl rfl (ks_F_23 hx) rfl rfl (kl_F_23 hx) rfl rfl (z_Omono h (fun r1 g1 _ h hro => ?_))
      have h := h (z_b01 hro)
      have hzr1 := z_b01 hro
      show z_U X 4 m_F_go 23 [(0, (2, 0)), (1, (0, a1))] [(0, r1)] N σ g1 Q
      refine z_if_eq (tgt := 43) d_F_go_23 (by decide) (fun c4 => ?_) (fun c4 => ?_)
      · have h := h.1 c4
        refine z_aload_n (i := 0) (c := 0) 0 d_F_go_43 rfl rfl rfl ?_
        refine z_bipush (n := 7) d_F_go_44 (by decide) (by decide) ?_
        refine z_cV (c := 0) (as := [(0, 7)]) (d' := 1) (st := []) d_F_go_46 mi_F_none ml_F_121 mv_F_none se_F_none rfl rfl rfl rfl (ks_F_0 hx) rfl rfl (kl_F_0 hx) rfl rfl (b_F_none_0 hx ?_)
        intro _
        show z_U X 4 m_F_go 49 [(0, (2, 0)), (1, (0, a1))] [(0, (-1))] N σ (z_up g1 0 0 7) Q
        exact z_iret d_F_go_49 rfl (by decide) (by decide) ⟨rfl, rfl, h⟩
      · have h := h.2 c4
        refine z_aload_n (i := 0) (c := 0) 0 d_F_go_26 rfl rfl rfl ?_
        refine z_aload_n (i := 0) (c := 0) 0 d_F_go_27 rfl rfl rfl ?_
        refine z_getr (c := 0) (kI := 11) (r2 := 23) d_F_go_28 fd_F_board fl_F_67 rfl rfl rfl (ks_F_0 hx) (kl_F_0 hx) (kr_F_0_11 hx) ?_
        refine z_getr (c := 23) (kI := 2) (r2 := 24) d_F_go_31 fd_Bd_walker fl_F_217 rfl rfl rfl (ks_F_23 hx) (kl_F_23 hx) (kr_F_23_2 hx) ?_
        refine z_geti (c := 24) (kI := 4) d_F_go_34 fd_Sp_deep fl_F_220 (Or.inl rfl) rfl rfl (ks_F_24 hx) (kl_F_24 hx) ?_
        refine z_cV (c := 0) (as := [(0, g1 24 4)]) (d' := 1) (st := []) d_F_go_37 mi_F_give ml_F_176 mv_F_give se_F_give rfl rfl rfl rfl (ks_F_0 hx) rfl rfl (kl_F_0 hx) rfl rfl (b_F_give_0 hx ?_)
        intro _
        show z_U X 4 m_F_go 40 [(0, (2, 0)), (1, (0, a1))] [(0, g1 24 4)] N σ (z_up g1 0 0 0) Q
        refine z_goto (tgt := 49) d_F_go_40 (by decide) ?_
        exact z_iret d_F_go_49 rfl (by decide) (by decide) ⟨rfl, rfl, h⟩
    · have h := h.2 c3
      refine z_aload_n (i := 0) (c := 0) 0 d_F_go_9 rfl rfl rfl ?_
      refine z_iconst (n := 1) d_F_go_10 (by decide) ?_
      refine z_cV (c := 0) (as := [(0, 1)]) (d' := 1) (st := []) d_F_go_11 mi_F_none ml_F_121 mv_F_none se_F_none rfl rfl rfl rfl (ks_F_0 hx) rfl rfl (kl_F_0 hx) rfl rfl (b_F_none_0 hx ?_)
      intro _
      show z_U X 4 m_F_go 14 [(0, (2, 0)), (1, (0, a1))] [(0, (-1))] N σ (z_up g 0 0 1) Q
      exact z_iret d_F_go_14 rfl (by decide) (by decide) ⟨rfl, rfl, h⟩
theorem d_F_heaviest_0 : decode (z_c m_F_heaviest) 0 = .ok (.aload_n 0, 1) := by decide +kernel
theorem d_F_heaviest_1 : decode (z_c m_F_heaviest) 1 = .ok (.aload_n 0, 1) := by decide +kernel
theorem d_F_heaviest_2 : decode (z_c m_F_heaviest) 2 = .ok (.getfield 67, 3) := by decide +kernel
theorem d_F_heaviest_5 : decode (z_c m_F_heaviest) 5 = .ok (.getfield 167, 3) := by decide +kernel
theorem d_F_heaviest_8 : decode (z_c m_F_heaviest) 8 = .ok (.invokevirtual 378, 3) := by decide +kernel
theorem d_F_heaviest_11 : decode (z_c m_F_heaviest) 11 = .ok (.invokevirtual 372, 3) := by decide +kernel
theorem d_F_heaviest_14 : decode (z_c m_F_heaviest) 14 = .ok (.ireturn, 1) := by decide +kernel
set_option maxRecDepth 8000 in
theorem b_F_heaviest_0 {X : z_X} {N : Nat} {σ g : z_G} {Q : z_P} (hx : z_lay X N σ 0 z_SF z_RF) (h : z_O X 3 m_Pi_ofMostWeight [(2, 25)] N σ g (fun r0 g0 => (z_O X 3 m_F_tellPin [(2, 0), (0, r0)] N σ g0 (fun r1 g1 => (r1 = 0 ∨ r1 = 1) → Q r1 g1)))) : z_O X 4 m_F_heaviest [(2, 0)] N σ g Q := by
  refine z_Oenter mi_F_heaviest rfl (fun _ => ?_)
  show z_U X 4 m_F_heaviest 0 [(0, (2, 0))] [] N σ g Q
  refine z_aload_n (i := 0) (c := 0) 0 d_F_heaviest_0 rfl rfl rfl ?_
  refine z_aload_n (i := 0) (c := 0) 0 d_F_heaviest_1 rfl rfl rfl ?_
  refine z_getr (c := 0) (kI := 11) (r2 := 23) d_F_heaviest_2 fd_F_board fl_F_67 rfl rfl rfl (ks_F_0 hx) (kl_F_0 hx) (kr_F_0_11 hx) ?_
  refine z_getr (c := 23) (kI := 3) (r2 := 25) d_F_heaviest_5 fd_Bd_pins fl_F_167 rfl rfl rfl (ks_F_23 hx) (kl_F_23 hx) (kr_F_23_3 hx) ?_
  refine z_cV (c := 25) (as := []) (d' := 3) (st := [(2, 0)]) d_F_heaviest_8 mi_Pi_ofMostWeight ml_F_378 mv_Pi_ofMostWeight se_Pi_ofMostWeight rfl rfl rfl rfl (ks_F_25 hx) rfl rfl (kl_F_25 hx) rfl rfl (z_Omono h (fun r0 g0 _ h hro => ?_))
  show z_U X 4 m_F_heaviest 11 [(0, (2, 0))] [(0, r0), (2, 0)] N σ g0 Q
  refine z_cV (c := 0) (as := [(0, r0)]) (d' := 3) (st := []) d_F_heaviest_11 mi_F_tellPin ml_F_372 mv_F_tellPin se_F_tellPin rfl rfl rfl rfl (ks_F_0 hx) rfl rfl (kl_F_0 hx) rfl rfl (z_Omono h (fun r1 g1 _ h hro => ?_))
  have h := h (z_b01 hro)
  have hzr1 := z_b01 hro
  show z_U X 4 m_F_heaviest 14 [(0, (2, 0))] [(0, r1)] N σ g1 Q
  exact z_zret d_F_heaviest_14 rfl (by decide) (by decide) hzr1 ⟨rfl, rfl, h⟩
theorem d_F_lift_0 : decode (z_c m_F_lift) 0 = .ok (.aload_n 0, 1) := by decide +kernel
theorem d_F_lift_1 : decode (z_c m_F_lift) 1 = .ok (.getfield 50, 3) := by decide +kernel
theorem d_F_lift_4 : decode (z_c m_F_lift) 4 = .ok (.iload_n 1, 1) := by decide +kernel
theorem d_F_lift_5 : decode (z_c m_F_lift) 5 = .ok (.iload_n 2, 1) := by decide +kernel
theorem d_F_lift_6 : decode (z_c m_F_lift) 6 = .ok (.invokevirtual 237, 3) := by decide +kernel
theorem d_F_lift_9 : decode (z_c m_F_lift) 9 = .ok (.ifCond .ne 9, 3) := by decide +kernel
theorem d_F_lift_12 : decode (z_c m_F_lift) 12 = .ok (.aload_n 0, 1) := by decide +kernel
theorem d_F_lift_13 : decode (z_c m_F_lift) 13 = .ok (.iconst 1, 1) := by decide +kernel
theorem d_F_lift_14 : decode (z_c m_F_lift) 14 = .ok (.invokevirtual 121, 3) := by decide +kernel
theorem d_F_lift_17 : decode (z_c m_F_lift) 17 = .ok (.ireturn, 1) := by decide +kernel
theorem d_F_lift_18 : decode (z_c m_F_lift) 18 = .ok (.aload_n 0, 1) := by decide +kernel
theorem d_F_lift_19 : decode (z_c m_F_lift) 19 = .ok (.getfield 67, 3) := by decide +kernel
theorem d_F_lift_22 : decode (z_c m_F_lift) 22 = .ok (.getfield 167, 3) := by decide +kernel
theorem d_F_lift_25 : decode (z_c m_F_lift) 25 = .ok (.aload_n 0, 1) := by decide +kernel
theorem d_F_lift_26 : decode (z_c m_F_lift) 26 = .ok (.getfield 50, 3) := by decide +kernel
theorem d_F_lift_29 : decode (z_c m_F_lift) 29 = .ok (.getfield 244, 3) := by decide +kernel
theorem d_F_lift_32 : decode (z_c m_F_lift) 32 = .ok (.aload_n 0, 1) := by decide +kernel
theorem d_F_lift_33 : decode (z_c m_F_lift) 33 = .ok (.getfield 50, 3) := by decide +kernel
theorem d_F_lift_36 : decode (z_c m_F_lift) 36 = .ok (.getfield 241, 3) := by decide +kernel
theorem d_F_lift_39 : decode (z_c m_F_lift) 39 = .ok (.invokevirtual 362, 3) := by decide +kernel
theorem d_F_lift_42 : decode (z_c m_F_lift) 42 = .ok (.istore_n 3, 1) := by decide +kernel
theorem d_F_lift_43 : decode (z_c m_F_lift) 43 = .ok (.iload_n 3, 1) := by decide +kernel
theorem d_F_lift_44 : decode (z_c m_F_lift) 44 = .ok (.ifCond .ge 12, 3) := by decide +kernel
theorem d_F_lift_47 : decode (z_c m_F_lift) 47 = .ok (.aload_n 0, 1) := by decide +kernel
theorem d_F_lift_48 : decode (z_c m_F_lift) 48 = .ok (.bipush 6, 2) := by decide +kernel
theorem d_F_lift_50 : decode (z_c m_F_lift) 50 = .ok (.invokevirtual 121, 3) := by decide +kernel
theorem d_F_lift_53 : decode (z_c m_F_lift) 53 = .ok (.goto 18, 3) := by decide +kernel
theorem d_F_lift_56 : decode (z_c m_F_lift) 56 = .ok (.aload_n 0, 1) := by decide +kernel
theorem d_F_lift_57 : decode (z_c m_F_lift) 57 = .ok (.aload_n 0, 1) := by decide +kernel
theorem d_F_lift_58 : decode (z_c m_F_lift) 58 = .ok (.getfield 67, 3) := by decide +kernel
theorem d_F_lift_61 : decode (z_c m_F_lift) 61 = .ok (.getfield 167, 3) := by decide +kernel
theorem d_F_lift_64 : decode (z_c m_F_lift) 64 = .ok (.iload_n 3, 1) := by decide +kernel
theorem d_F_lift_65 : decode (z_c m_F_lift) 65 = .ok (.invokevirtual 365, 3) := by decide +kernel
theorem d_F_lift_68 : decode (z_c m_F_lift) 68 = .ok (.invokevirtual 176, 3) := by decide +kernel
theorem d_F_lift_71 : decode (z_c m_F_lift) 71 = .ok (.ireturn, 1) := by decide +kernel
set_option maxRecDepth 8000 in
theorem b_F_lift_0 {X : z_X} {N : Nat} {σ g : z_G} {Q : z_P} {a1 a2 : Int} (hx : z_lay X N σ 0 z_SF z_RF) (h : z_O X 3 m_Ch_take [(2, 18), (0, a1), (0, a2)] N σ g (fun r0 g0 => (r0 = 0 ∨ r0 = 1) → (((r0 = 0) → Q (-1) (z_up g0 0 0 1)) ∧ (¬ (r0 = 0) → (z_O X 1 m_Pi_find [(2, 25), (0, g0 18 3), (0, g0 18 4)] N σ g0 (fun r1 g1 => (((0 ≤ r1) → (z_O X 1 m_Pi_drop [(2, 25), (0, r1)] N σ g1 (fun r2 g2 => Q r2 (z_up g2 0 0 0)))) ∧ (¬ (0 ≤ r1) → Q (-1) (z_up g1 0 0 6))))))))) : z_O X 4 m_F_lift [(2, 0), (0, a1), (0, a2)] N σ g Q := by
  refine z_Oenter mi_F_lift rfl (fun _ => ?_)
  show z_U X 4 m_F_lift 0 [(0, (2, 0)), (1, (0, a1)), (2, (0, a2))] [] N σ g Q
  refine z_aload_n (i := 0) (c := 0) 0 d_F_lift_0 rfl rfl rfl ?_
  refine z_getr (c := 0) (kI := 8) (r2 := 18) d_F_lift_1 fd_F_chain fl_F_50 rfl rfl rfl (ks_F_0 hx) (kl_F_0 hx) (kr_F_0_8 hx) ?_
  refine z_iload_n (i := 1) 1 d_F_lift_4 rfl rfl ?_
  refine z_iload_n (i := 2) 2 d_F_lift_5 rfl rfl ?_
  refine z_cV (c := 18) (as := [(0, a1), (0, a2)]) (d' := 3) (st := []) d_F_lift_6 mi_Ch_take ml_F_237 mv_Ch_take se_Ch_take rfl rfl rfl rfl (ks_F_18 hx) rfl rfl (kl_F_18 hx) rfl rfl (z_Omono h (fun r0 g0 _ h hro => ?_))
  have h := h (z_b01 hro)
  have hzr0 := z_b01 hro
  show z_U X 4 m_F_lift 9 [(0, (2, 0)), (1, (0, a1)), (2, (0, a2))] [(0, r0)] N σ g0 Q
  refine z_if_ne (tgt := 18) d_F_lift_9 (by decide) (fun c1 => ?_) (fun c1 => ?_)
  · have h := h.2 c1
    refine z_aload_n (i := 0) (c := 0) 0 d_F_lift_18 rfl rfl rfl ?_
    refine z_getr (c := 0) (kI := 11) (r2 := 23) d_F_lift_19 fd_F_board fl_F_67 rfl rfl rfl (ks_F_0 hx) (kl_F_0 hx) (kr_F_0_11 hx) ?_
    refine z_getr (c := 23) (kI := 3) (r2 := 25) d_F_lift_22 fd_Bd_pins fl_F_167 rfl rfl rfl (ks_F_23 hx) (kl_F_23 hx) (kr_F_23_3 hx) ?_
    refine z_aload_n (i := 0) (c := 0) 0 d_F_lift_25 rfl rfl rfl ?_
    refine z_getr (c := 0) (kI := 8) (r2 := 18) d_F_lift_26 fd_F_chain fl_F_50 rfl rfl rfl (ks_F_0 hx) (kl_F_0 hx) (kr_F_0_8 hx) ?_
    refine z_geti (c := 18) (kI := 3) d_F_lift_29 fd_Ch_top fl_F_244 (Or.inl rfl) rfl rfl (ks_F_18 hx) (kl_F_18 hx) ?_
    refine z_aload_n (i := 0) (c := 0) 0 d_F_lift_32 rfl rfl rfl ?_
    refine z_getr (c := 0) (kI := 8) (r2 := 18) d_F_lift_33 fd_F_chain fl_F_50 rfl rfl rfl (ks_F_0 hx) (kl_F_0 hx) (kr_F_0_8 hx) ?_
    refine z_geti (c := 18) (kI := 4) d_F_lift_36 fd_Ch_bottom fl_F_241 (Or.inl rfl) rfl rfl (ks_F_18 hx) (kl_F_18 hx) ?_
    refine z_cV (c := 25) (as := [(0, g0 18 3), (0, g0 18 4)]) (d' := 1) (st := []) d_F_lift_39 mi_Pi_find ml_F_362 mv_Pi_find se_Pi_find rfl rfl rfl rfl (ks_F_25 hx) rfl rfl (kl_F_25 hx) rfl rfl (z_Omono h (fun r1 g1 _ h hro => ?_))
    show z_U X 4 m_F_lift 42 [(0, (2, 0)), (1, (0, a1)), (2, (0, a2))] [(0, r1)] N σ g1 Q
    refine z_istore_n (i := 3) (ls' := [(3, (0, r1)), (0, (2, 0)), (1, (0, a1)), (2, (0, a2))]) d_F_lift_42 rfl rfl rfl ?_
    refine z_iload_n (i := 3) 0 d_F_lift_43 rfl rfl ?_
    refine z_if_ge (tgt := 56) d_F_lift_44 (by decide) (fun c2 => ?_) (fun c2 => ?_)
    · have h := h.1 c2
      refine z_aload_n (i := 0) (c := 0) 1 d_F_lift_56 rfl rfl rfl ?_
      refine z_aload_n (i := 0) (c := 0) 1 d_F_lift_57 rfl rfl rfl ?_
      refine z_getr (c := 0) (kI := 11) (r2 := 23) d_F_lift_58 fd_F_board fl_F_67 rfl rfl rfl (ks_F_0 hx) (kl_F_0 hx) (kr_F_0_11 hx) ?_
      refine z_getr (c := 23) (kI := 3) (r2 := 25) d_F_lift_61 fd_Bd_pins fl_F_167 rfl rfl rfl (ks_F_23 hx) (kl_F_23 hx) (kr_F_23_3 hx) ?_
      refine z_iload_n (i := 3) 0 d_F_lift_64 rfl rfl ?_
      refine z_cV (c := 25) (as := [(0, r1)]) (d' := 1) (st := [(2, 0)]) d_F_lift_65 mi_Pi_drop ml_F_365 mv_Pi_drop se_Pi_drop rfl rfl rfl rfl (ks_F_25 hx) rfl rfl (kl_F_25 hx) rfl rfl (z_Omono h (fun r2 g2 _ h hro => ?_))
      show z_U X 4 m_F_lift 68 [(3, (0, r1)), (0, (2, 0)), (1, (0, a1)), (2, (0, a2))] [(0, r2), (2, 0)] N σ g2 Q
      refine z_cV (c := 0) (as := [(0, r2)]) (d' := 1) (st := []) d_F_lift_68 mi_F_give ml_F_176 mv_F_give se_F_give rfl rfl rfl rfl (ks_F_0 hx) rfl rfl (kl_F_0 hx) rfl rfl (b_F_give_0 hx ?_)
      intro _
      show z_U X 4 m_F_lift 71 [(3, (0, r1)), (0, (2, 0)), (1, (0, a1)), (2, (0, a2))] [(0, r2)] N σ (z_up g2 0 0 0) Q
      exact z_iret d_F_lift_71 rfl (by decide) (by decide) ⟨rfl, rfl, h⟩
    · have h := h.2 c2
      refine z_aload_n (i := 0) (c := 0) 1 d_F_lift_47 rfl rfl rfl ?_
      refine z_bipush (n := 6) d_F_lift_48 (by decide) (by decide) ?_
      refine z_cV (c := 0) (as := [(0, 6)]) (d' := 1) (st := []) d_F_lift_50 mi_F_none ml_F_121 mv_F_none se_F_none rfl rfl rfl rfl (ks_F_0 hx) rfl rfl (kl_F_0 hx) rfl rfl (b_F_none_0 hx ?_)
      intro _
      show z_U X 4 m_F_lift 53 [(3, (0, r1)), (0, (2, 0)), (1, (0, a1)), (2, (0, a2))] [(0, (-1))] N σ (z_up g1 0 0 6) Q
      refine z_goto (tgt := 71) d_F_lift_53 (by decide) ?_
      exact z_iret d_F_lift_71 rfl (by decide) (by decide) ⟨rfl, rfl, h⟩
  · have h := h.1 c1
    refine z_aload_n (i := 0) (c := 0) 0 d_F_lift_12 rfl rfl rfl ?_
    refine z_iconst (n := 1) d_F_lift_13 (by decide) ?_
    refine z_cV (c := 0) (as := [(0, 1)]) (d' := 1) (st := []) d_F_lift_14 mi_F_none ml_F_121 mv_F_none se_F_none rfl rfl rfl rfl (ks_F_0 hx) rfl rfl (kl_F_0 hx) rfl rfl (b_F_none_0 hx ?_)
    intro _
    show z_U X 4 m_F_lift 17 [(0, (2, 0)), (1, (0, a1)), (2, (0, a2))] [(0, (-1))] N σ (z_up g0 0 0 1) Q
    exact z_iret d_F_lift_17 rfl (by decide) (by decide) ⟨rfl, rfl, h⟩
theorem d_F_nearest_0 : decode (z_c m_F_nearest) 0 = .ok (.aload_n 0, 1) := by decide +kernel
theorem d_F_nearest_1 : decode (z_c m_F_nearest) 1 = .ok (.getfield 50, 3) := by decide +kernel
theorem d_F_nearest_4 : decode (z_c m_F_nearest) 4 = .ok (.iload_n 1, 1) := by decide +kernel
theorem d_F_nearest_5 : decode (z_c m_F_nearest) 5 = .ok (.iload_n 2, 1) := by decide +kernel
theorem d_F_nearest_6 : decode (z_c m_F_nearest) 6 = .ok (.invokevirtual 237, 3) := by decide +kernel
theorem d_F_nearest_9 : decode (z_c m_F_nearest) 9 = .ok (.ifCond .ne 9, 3) := by decide +kernel
theorem d_F_nearest_12 : decode (z_c m_F_nearest) 12 = .ok (.aload_n 0, 1) := by decide +kernel
theorem d_F_nearest_13 : decode (z_c m_F_nearest) 13 = .ok (.iconst 1, 1) := by decide +kernel
theorem d_F_nearest_14 : decode (z_c m_F_nearest) 14 = .ok (.invokevirtual 102, 3) := by decide +kernel
theorem d_F_nearest_17 : decode (z_c m_F_nearest) 17 = .ok (.ireturn, 1) := by decide +kernel
theorem d_F_nearest_18 : decode (z_c m_F_nearest) 18 = .ok (.aload_n 0, 1) := by decide +kernel
theorem d_F_nearest_19 : decode (z_c m_F_nearest) 19 = .ok (.getfield 50, 3) := by decide +kernel
theorem d_F_nearest_22 : decode (z_c m_F_nearest) 22 = .ok (.getfield 241, 3) := by decide +kernel
theorem d_F_nearest_25 : decode (z_c m_F_nearest) 25 = .ok (.aload_n 0, 1) := by decide +kernel
theorem d_F_nearest_26 : decode (z_c m_F_nearest) 26 = .ok (.getfield 67, 3) := by decide +kernel
theorem d_F_nearest_29 : decode (z_c m_F_nearest) 29 = .ok (.getfield 197, 3) := by decide +kernel
theorem d_F_nearest_32 : decode (z_c m_F_nearest) 32 = .ok (.if_icmp .gt 24, 3) := by decide +kernel
theorem d_F_nearest_35 : decode (z_c m_F_nearest) 35 = .ok (.aload_n 0, 1) := by decide +kernel
theorem d_F_nearest_36 : decode (z_c m_F_nearest) 36 = .ok (.aload_n 0, 1) := by decide +kernel
theorem d_F_nearest_37 : decode (z_c m_F_nearest) 37 = .ok (.getfield 50, 3) := by decide +kernel
theorem d_F_nearest_40 : decode (z_c m_F_nearest) 40 = .ok (.getfield 244, 3) := by decide +kernel
theorem d_F_nearest_43 : decode (z_c m_F_nearest) 43 = .ok (.i2l, 1) := by decide +kernel
theorem d_F_nearest_44 : decode (z_c m_F_nearest) 44 = .ok (.aload_n 0, 1) := by decide +kernel
theorem d_F_nearest_45 : decode (z_c m_F_nearest) 45 = .ok (.getfield 50, 3) := by decide +kernel
theorem d_F_nearest_48 : decode (z_c m_F_nearest) 48 = .ok (.getfield 241, 3) := by decide +kernel
theorem d_F_nearest_51 : decode (z_c m_F_nearest) 51 = .ok (.i2l, 1) := by decide +kernel
theorem d_F_nearest_52 : decode (z_c m_F_nearest) 52 = .ok (.invokevirtual 233, 3) := by decide +kernel
theorem d_F_nearest_55 : decode (z_c m_F_nearest) 55 = .ok (.ireturn, 1) := by decide +kernel
theorem d_F_nearest_56 : decode (z_c m_F_nearest) 56 = .ok (.aload_n 0, 1) := by decide +kernel
theorem d_F_nearest_57 : decode (z_c m_F_nearest) 57 = .ok (.getfield 43, 3) := by decide +kernel
theorem d_F_nearest_60 : decode (z_c m_F_nearest) 60 = .ok (.aload_n 0, 1) := by decide +kernel
theorem d_F_nearest_61 : decode (z_c m_F_nearest) 61 = .ok (.getfield 67, 3) := by decide +kernel
theorem d_F_nearest_64 : decode (z_c m_F_nearest) 64 = .ok (.getfield 197, 3) := by decide +kernel
theorem d_F_nearest_67 : decode (z_c m_F_nearest) 67 = .ok (.aload_n 0, 1) := by decide +kernel
theorem d_F_nearest_68 : decode (z_c m_F_nearest) 68 = .ok (.getfield 50, 3) := by decide +kernel
theorem d_F_nearest_71 : decode (z_c m_F_nearest) 71 = .ok (.getfield 244, 3) := by decide +kernel
theorem d_F_nearest_74 : decode (z_c m_F_nearest) 74 = .ok (.aload_n 0, 1) := by decide +kernel
theorem d_F_nearest_75 : decode (z_c m_F_nearest) 75 = .ok (.getfield 50, 3) := by decide +kernel
theorem d_F_nearest_78 : decode (z_c m_F_nearest) 78 = .ok (.getfield 241, 3) := by decide +kernel
theorem d_F_nearest_81 : decode (z_c m_F_nearest) 81 = .ok (.iconst 0, 1) := by decide +kernel
theorem d_F_nearest_82 : decode (z_c m_F_nearest) 82 = .ok (.invokevirtual 253, 3) := by decide +kernel
theorem d_F_nearest_85 : decode (z_c m_F_nearest) 85 = .ok (.aload_n 0, 1) := by decide +kernel
theorem d_F_nearest_86 : decode (z_c m_F_nearest) 86 = .ok (.getfield 50, 3) := by decide +kernel
theorem d_F_nearest_89 : decode (z_c m_F_nearest) 89 = .ok (.getfield 244, 3) := by decide +kernel
theorem d_F_nearest_92 : decode (z_c m_F_nearest) 92 = .ok (.aload_n 0, 1) := by decide +kernel
theorem d_F_nearest_93 : decode (z_c m_F_nearest) 93 = .ok (.getfield 50, 3) := by decide +kernel
theorem d_F_nearest_96 : decode (z_c m_F_nearest) 96 = .ok (.getfield 241, 3) := by decide +kernel
theorem d_F_nearest_99 : decode (z_c m_F_nearest) 99 = .ok (.aload_n 0, 1) := by decide +kernel
theorem d_F_nearest_100 : decode (z_c m_F_nearest) 100 = .ok (.getfield 43, 3) := by decide +kernel
theorem d_F_nearest_103 : decode (z_c m_F_nearest) 103 = .ok (.getfield 227, 3) := by decide +kernel
theorem d_F_nearest_106 : decode (z_c m_F_nearest) 106 = .ok (.aload_n 0, 1) := by decide +kernel
theorem d_F_nearest_107 : decode (z_c m_F_nearest) 107 = .ok (.getfield 43, 3) := by decide +kernel
theorem d_F_nearest_110 : decode (z_c m_F_nearest) 110 = .ok (.getfield 230, 3) := by decide +kernel
theorem d_F_nearest_113 : decode (z_c m_F_nearest) 113 = .ok (.invokestatic 263, 3) := by decide +kernel
theorem d_F_nearest_116 : decode (z_c m_F_nearest) 116 = .ok (.aload_n 0, 1) := by decide +kernel
theorem d_F_nearest_117 : decode (z_c m_F_nearest) 117 = .ok (.getfield 43, 3) := by decide +kernel
theorem d_F_nearest_120 : decode (z_c m_F_nearest) 120 = .ok (.getfield 260, 3) := by decide +kernel
theorem d_F_nearest_123 : decode (z_c m_F_nearest) 123 = .ok (.i2l, 1) := by decide +kernel
theorem d_F_nearest_124 : decode (z_c m_F_nearest) 124 = .ok (.lmul, 1) := by decide +kernel
theorem d_F_nearest_125 : decode (z_c m_F_nearest) 125 = .ok (.lstore_n 3, 1) := by decide +kernel
theorem d_F_nearest_126 : decode (z_c m_F_nearest) 126 = .ok (.aload_n 0, 1) := by decide +kernel
theorem d_F_nearest_127 : decode (z_c m_F_nearest) 127 = .ok (.getfield 43, 3) := by decide +kernel
theorem d_F_nearest_130 : decode (z_c m_F_nearest) 130 = .ok (.getfield 257, 3) := by decide +kernel
theorem d_F_nearest_133 : decode (z_c m_F_nearest) 133 = .ok (.aload_n 0, 1) := by decide +kernel
theorem d_F_nearest_134 : decode (z_c m_F_nearest) 134 = .ok (.getfield 43, 3) := by decide +kernel
theorem d_F_nearest_137 : decode (z_c m_F_nearest) 137 = .ok (.getfield 260, 3) := by decide +kernel
theorem d_F_nearest_140 : decode (z_c m_F_nearest) 140 = .ok (.aload_n 0, 1) := by decide +kernel
theorem d_F_nearest_141 : decode (z_c m_F_nearest) 141 = .ok (.getfield 50, 3) := by decide +kernel
theorem d_F_nearest_144 : decode (z_c m_F_nearest) 144 = .ok (.getfield 244, 3) := by decide +kernel
theorem d_F_nearest_147 : decode (z_c m_F_nearest) 147 = .ok (.aload_n 0, 1) := by decide +kernel
theorem d_F_nearest_148 : decode (z_c m_F_nearest) 148 = .ok (.getfield 50, 3) := by decide +kernel
theorem d_F_nearest_151 : decode (z_c m_F_nearest) 151 = .ok (.getfield 241, 3) := by decide +kernel
theorem d_F_nearest_154 : decode (z_c m_F_nearest) 154 = .ok (.invokestatic 263, 3) := by decide +kernel
theorem d_F_nearest_157 : decode (z_c m_F_nearest) 157 = .ok (.aload_n 0, 1) := by decide +kernel
theorem d_F_nearest_158 : decode (z_c m_F_nearest) 158 = .ok (.getfield 43, 3) := by decide +kernel
theorem d_F_nearest_161 : decode (z_c m_F_nearest) 161 = .ok (.getfield 230, 3) := by decide +kernel
theorem d_F_nearest_164 : decode (z_c m_F_nearest) 164 = .ok (.i2l, 1) := by decide +kernel
theorem d_F_nearest_165 : decode (z_c m_F_nearest) 165 = .ok (.lmul, 1) := by decide +kernel
theorem d_F_nearest_166 : decode (z_c m_F_nearest) 166 = .ok (.lstore 5, 2) := by decide +kernel
theorem d_F_nearest_168 : decode (z_c m_F_nearest) 168 = .ok (.lload_n 3, 1) := by decide +kernel
theorem d_F_nearest_169 : decode (z_c m_F_nearest) 169 = .ok (.lload 5, 2) := by decide +kernel
theorem d_F_nearest_171 : decode (z_c m_F_nearest) 171 = .ok (.lcmp, 1) := by decide +kernel
theorem d_F_nearest_172 : decode (z_c m_F_nearest) 172 = .ok (.ifCond .gt 26, 3) := by decide +kernel
theorem d_F_nearest_175 : decode (z_c m_F_nearest) 175 = .ok (.aload_n 0, 1) := by decide +kernel
theorem d_F_nearest_176 : decode (z_c m_F_nearest) 176 = .ok (.aload_n 0, 1) := by decide +kernel
theorem d_F_nearest_177 : decode (z_c m_F_nearest) 177 = .ok (.getfield 43, 3) := by decide +kernel
theorem d_F_nearest_180 : decode (z_c m_F_nearest) 180 = .ok (.getfield 227, 3) := by decide +kernel
theorem d_F_nearest_183 : decode (z_c m_F_nearest) 183 = .ok (.i2l, 1) := by decide +kernel
theorem d_F_nearest_184 : decode (z_c m_F_nearest) 184 = .ok (.aload_n 0, 1) := by decide +kernel
theorem d_F_nearest_185 : decode (z_c m_F_nearest) 185 = .ok (.getfield 43, 3) := by decide +kernel
theorem d_F_nearest_188 : decode (z_c m_F_nearest) 188 = .ok (.getfield 230, 3) := by decide +kernel
theorem d_F_nearest_191 : decode (z_c m_F_nearest) 191 = .ok (.i2l, 1) := by decide +kernel
theorem d_F_nearest_192 : decode (z_c m_F_nearest) 192 = .ok (.invokevirtual 233, 3) := by decide +kernel
theorem d_F_nearest_195 : decode (z_c m_F_nearest) 195 = .ok (.goto 23, 3) := by decide +kernel
theorem d_F_nearest_198 : decode (z_c m_F_nearest) 198 = .ok (.aload_n 0, 1) := by decide +kernel
theorem d_F_nearest_199 : decode (z_c m_F_nearest) 199 = .ok (.aload_n 0, 1) := by decide +kernel
theorem d_F_nearest_200 : decode (z_c m_F_nearest) 200 = .ok (.getfield 43, 3) := by decide +kernel
theorem d_F_nearest_203 : decode (z_c m_F_nearest) 203 = .ok (.getfield 257, 3) := by decide +kernel
theorem d_F_nearest_206 : decode (z_c m_F_nearest) 206 = .ok (.i2l, 1) := by decide +kernel
theorem d_F_nearest_207 : decode (z_c m_F_nearest) 207 = .ok (.aload_n 0, 1) := by decide +kernel
theorem d_F_nearest_208 : decode (z_c m_F_nearest) 208 = .ok (.getfield 43, 3) := by decide +kernel
theorem d_F_nearest_211 : decode (z_c m_F_nearest) 211 = .ok (.getfield 260, 3) := by decide +kernel
theorem d_F_nearest_214 : decode (z_c m_F_nearest) 214 = .ok (.i2l, 1) := by decide +kernel
theorem d_F_nearest_215 : decode (z_c m_F_nearest) 215 = .ok (.invokevirtual 233, 3) := by decide +kernel
theorem d_F_nearest_218 : decode (z_c m_F_nearest) 218 = .ok (.ireturn, 1) := by decide +kernel
set_option maxRecDepth 8000 in
theorem b_F_nearest_0 {X : z_X} {N : Nat} {σ g : z_G} {Q : z_P} {a1 a2 : Int} (hx : z_lay X N σ 0 z_SF z_RF) (h : z_O X 3 m_Ch_take [(2, 18), (0, a1), (0, a2)] N σ g (fun r0 g0 => (r0 = 0 ∨ r0 = 1) → (((r0 = 0) → Q 0 (z_up g0 0 0 1)) ∧ (¬ (r0 = 0) → ((((g0 23 0) < (g0 18 4)) → (z_O X 2 m_Rw_pinch [(2, 15), (0, g0 23 0), (0, g0 18 3), (0, g0 18 4), (0, 0)] N σ g0 (fun r1 g1 => ((-9223372036854775808 ≤ ((g1 18 3) * (g1 15 3)) ∧ ((g1 18 3) * (g1 15 3)) ≤ 9223372036854775807) ∧ ((-9223372036854775808 ≤ ((g1 15 2) * (g1 18 4)) ∧ ((g1 15 2) * (g1 18 4)) ≤ 9223372036854775807) ∧ ((-9223372036854775808 ≤ (((g1 18 3) * (g1 15 3)) - ((g1 15 2) * (g1 18 4))) ∧ (((g1 18 3) * (g1 15 3)) - ((g1 15 2) * (g1 18 4))) ≤ 9223372036854775807) ∧ ((-9223372036854775808 ≤ ((((g1 18 3) * (g1 15 3)) - ((g1 15 2) * (g1 18 4))) * (g1 15 5)) ∧ ((((g1 18 3) * (g1 15 3)) - ((g1 15 2) * (g1 18 4))) * (g1 15 5)) ≤ 9223372036854775807) ∧ ((-9223372036854775808 ≤ ((g1 15 4) * (g1 18 4)) ∧ ((g1 15 4) * (g1 18 4)) ≤ 9223372036854775807) ∧ ((-9223372036854775808 ≤ ((g1 18 3) * (g1 15 5)) ∧ ((g1 18 3) * (g1 15 5)) ≤ 9223372036854775807) ∧ ((-9223372036854775808 ≤ (((g1 15 4) * (g1 18 4)) - ((g1 18 3) * (g1 15 5))) ∧ (((g1 15 4) * (g1 18 4)) - ((g1 18 3) * (g1 15 5))) ≤ 9223372036854775807) ∧ ((-9223372036854775808 ≤ ((((g1 15 4) * (g1 18 4)) - ((g1 18 3) * (g1 15 5))) * (g1 15 3)) ∧ ((((g1 15 4) * (g1 18 4)) - ((g1 18 3) * (g1 15 5))) * (g1 15 3)) ≤ 9223372036854775807) ∧ (((((((g1 15 4) * (g1 18 4)) - ((g1 18 3) * (g1 15 5))) * (g1 15 3)) < ((((g1 18 3) * (g1 15 3)) - ((g1 15 2) * (g1 18 4))) * (g1 15 5))) → (z_O X 2 m_F_tell [(2, 0), (1, g1 15 4), (1, g1 15 5)] N σ g1 (fun r2 g2 => (r2 = 0 ∨ r2 = 1) → Q r2 g2))) ∧ (¬ (((((g1 15 4) * (g1 18 4)) - ((g1 18 3) * (g1 15 5))) * (g1 15 3)) < ((((g1 18 3) * (g1 15 3)) - ((g1 15 2) * (g1 18 4))) * (g1 15 5))) → (z_O X 2 m_F_tell [(2, 0), (1, g1 15 2), (1, g1 15 3)] N σ g1 (fun r3 g3 => (r3 = 0 ∨ r3 = 1) → Q r3 g3))))))))))))))) ∧ (¬ ((g0 23 0) < (g0 18 4)) → (z_O X 2 m_F_tell [(2, 0), (1, g0 18 3), (1, g0 18 4)] N σ g0 (fun r4 g4 => (r4 = 0 ∨ r4 = 1) → Q r4 g4)))))))) : z_O X 4 m_F_nearest [(2, 0), (0, a1), (0, a2)] N σ g Q := by
  refine z_Oenter mi_F_nearest rfl (fun _ => ?_)
  show z_U X 4 m_F_nearest 0 [(0, (2, 0)), (1, (0, a1)), (2, (0, a2))] [] N σ g Q
  refine z_aload_n (i := 0) (c := 0) 0 d_F_nearest_0 rfl rfl rfl ?_
  refine z_getr (c := 0) (kI := 8) (r2 := 18) d_F_nearest_1 fd_F_chain fl_F_50 rfl rfl rfl (ks_F_0 hx) (kl_F_0 hx) (kr_F_0_8 hx) ?_
  refine z_iload_n (i := 1) 1 d_F_nearest_4 rfl rfl ?_
  refine z_iload_n (i := 2) 2 d_F_nearest_5 rfl rfl ?_
  refine z_cV (c := 18) (as := [(0, a1), (0, a2)]) (d' := 3) (st := []) d_F_nearest_6 mi_Ch_take ml_F_237 mv_Ch_take se_Ch_take rfl rfl rfl rfl (ks_F_18 hx) rfl rfl (kl_F_18 hx) rfl rfl (z_Omono h (fun r0 g0 _ h hro => ?_))
  have h := h (z_b01 hro)
  have hzr0 := z_b01 hro
  show z_U X 4 m_F_nearest 9 [(0, (2, 0)), (1, (0, a1)), (2, (0, a2))] [(0, r0)] N σ g0 Q
  refine z_if_ne (tgt := 18) d_F_nearest_9 (by decide) (fun c1 => ?_) (fun c1 => ?_)
  · have h := h.2 c1
    refine z_aload_n (i := 0) (c := 0) 0 d_F_nearest_18 rfl rfl rfl ?_
    refine z_getr (c := 0) (kI := 8) (r2 := 18) d_F_nearest_19 fd_F_chain fl_F_50 rfl rfl rfl (ks_F_0 hx) (kl_F_0 hx) (kr_F_0_8 hx) ?_
    refine z_geti (c := 18) (kI := 4) d_F_nearest_22 fd_Ch_bottom fl_F_241 (Or.inl rfl) rfl rfl (ks_F_18 hx) (kl_F_18 hx) ?_
    refine z_aload_n (i := 0) (c := 0) 0 d_F_nearest_25 rfl rfl rfl ?_
    refine z_getr (c := 0) (kI := 11) (r2 := 23) d_F_nearest_26 fd_F_board fl_F_67 rfl rfl rfl (ks_F_0 hx) (kl_F_0 hx) (kr_F_0_11 hx) ?_
    refine z_geti (c := 23) (kI := 0) d_F_nearest_29 fd_Bd_order fl_F_197 (Or.inl rfl) rfl rfl (ks_F_23 hx) (kl_F_23 hx) ?_
    refine z_icmp_gt (tgt := 56) d_F_nearest_32 (by decide) (fun c2 => ?_) (fun c2 => ?_)
    · have h := h.1 c2
      refine z_aload_n (i := 0) (c := 0) 0 d_F_nearest_56 rfl rfl rfl ?_
      refine z_getr (c := 0) (kI := 7) (r2 := 15) d_F_nearest_57 fd_F_row fl_F_43 rfl rfl rfl (ks_F_0 hx) (kl_F_0 hx) (kr_F_0_7 hx) ?_
      refine z_aload_n (i := 0) (c := 0) 0 d_F_nearest_60 rfl rfl rfl ?_
      refine z_getr (c := 0) (kI := 11) (r2 := 23) d_F_nearest_61 fd_F_board fl_F_67 rfl rfl rfl (ks_F_0 hx) (kl_F_0 hx) (kr_F_0_11 hx) ?_
      refine z_geti (c := 23) (kI := 0) d_F_nearest_64 fd_Bd_order fl_F_197 (Or.inl rfl) rfl rfl (ks_F_23 hx) (kl_F_23 hx) ?_
      refine z_aload_n (i := 0) (c := 0) 0 d_F_nearest_67 rfl rfl rfl ?_
      refine z_getr (c := 0) (kI := 8) (r2 := 18) d_F_nearest_68 fd_F_chain fl_F_50 rfl rfl rfl (ks_F_0 hx) (kl_F_0 hx) (kr_F_0_8 hx) ?_
      refine z_geti (c := 18) (kI := 3) d_F_nearest_71 fd_Ch_top fl_F_244 (Or.inl rfl) rfl rfl (ks_F_18 hx) (kl_F_18 hx) ?_
      refine z_aload_n (i := 0) (c := 0) 0 d_F_nearest_74 rfl rfl rfl ?_
      refine z_getr (c := 0) (kI := 8) (r2 := 18) d_F_nearest_75 fd_F_chain fl_F_50 rfl rfl rfl (ks_F_0 hx) (kl_F_0 hx) (kr_F_0_8 hx) ?_
      refine z_geti (c := 18) (kI := 4) d_F_nearest_78 fd_Ch_bottom fl_F_241 (Or.inl rfl) rfl rfl (ks_F_18 hx) (kl_F_18 hx) ?_
      refine z_iconst (n := 0) d_F_nearest_81 (by decide) ?_
      refine z_cV (c := 15) (as := [(0, g0 23 0), (0, g0 18 3), (0, g0 18 4), (0, 0)]) (d' := 2) (st := []) d_F_nearest_82 mi_Rw_pinch ml_F_253 mv_Rw_pinch se_Rw_pinch rfl rfl rfl rfl (ks_F_15 hx) rfl rfl (kl_F_15 hx) rfl rfl (z_Omono h (fun r1 g1 _ h hro => ?_))
      show z_U X 4 m_F_nearest 85 [(0, (2, 0)), (1, (0, a1)), (2, (0, a2))] [] N σ g1 Q
      refine z_aload_n (i := 0) (c := 0) 0 d_F_nearest_85 rfl rfl rfl ?_
      refine z_getr (c := 0) (kI := 8) (r2 := 18) d_F_nearest_86 fd_F_chain fl_F_50 rfl rfl rfl (ks_F_0 hx) (kl_F_0 hx) (kr_F_0_8 hx) ?_
      refine z_geti (c := 18) (kI := 3) d_F_nearest_89 fd_Ch_top fl_F_244 (Or.inl rfl) rfl rfl (ks_F_18 hx) (kl_F_18 hx) ?_
      refine z_aload_n (i := 0) (c := 0) 0 d_F_nearest_92 rfl rfl rfl ?_
      refine z_getr (c := 0) (kI := 8) (r2 := 18) d_F_nearest_93 fd_F_chain fl_F_50 rfl rfl rfl (ks_F_0 hx) (kl_F_0 hx) (kr_F_0_8 hx) ?_
      refine z_geti (c := 18) (kI := 4) d_F_nearest_96 fd_Ch_bottom fl_F_241 (Or.inl rfl) rfl rfl (ks_F_18 hx) (kl_F_18 hx) ?_
      refine z_aload_n (i := 0) (c := 0) 0 d_F_nearest_99 rfl rfl rfl ?_
      refine z_getr (c := 0) (kI := 7) (r2 := 15) d_F_nearest_100 fd_F_row fl_F_43 rfl rfl rfl (ks_F_0 hx) (kl_F_0 hx) (kr_F_0_7 hx) ?_
      refine z_geti (c := 15) (kI := 2) d_F_nearest_103 fd_Rw_lowTop fl_F_227 (Or.inl rfl) rfl rfl (ks_F_15 hx) (kl_F_15 hx) ?_
      refine z_aload_n (i := 0) (c := 0) 0 d_F_nearest_106 rfl rfl rfl ?_
      refine z_getr (c := 0) (kI := 7) (r2 := 15) d_F_nearest_107 fd_F_row fl_F_43 rfl rfl rfl (ks_F_0 hx) (kl_F_0 hx) (kr_F_0_7 hx) ?_
      refine z_geti (c := 15) (kI := 3) d_F_nearest_110 fd_Rw_lowBottom fl_F_230 (Or.inl rfl) rfl rfl (ks_F_15 hx) (kl_F_15 hx) ?_
      refine z_cS (as := [(0, g1 18 3), (0, g1 18 4), (0, g1 15 2), (0, g1 15 3)]) (d' := 1) (st := []) d_F_nearest_113 mi_F_cross ml_F_263 ms_F_cross rfl rfl rfl rfl rfl (b_F_cross_0  ?_)
      obtain ⟨c3, h⟩ := h
      refine ⟨c3, ?_⟩
      obtain ⟨c4, h⟩ := h
      refine ⟨c4, ?_⟩
      obtain ⟨c5, h⟩ := h
      refine ⟨c5, ?_⟩
      intro _
      show z_U X 4 m_F_nearest 116 [(0, (2, 0)), (1, (0, a1)), (2, (0, a2))] [(1, ((g1 18 3) * (g1 15 3)) - ((g1 15 2) * (g1 18 4)))] N σ g1 Q
      refine z_aload_n (i := 0) (c := 0) 0 d_F_nearest_116 rfl rfl rfl ?_
      refine z_getr (c := 0) (kI := 7) (r2 := 15) d_F_nearest_117 fd_F_row fl_F_43 rfl rfl rfl (ks_F_0 hx) (kl_F_0 hx) (kr_F_0_7 hx) ?_
      refine z_geti (c := 15) (kI := 5) d_F_nearest_120 fd_Rw_highBottom fl_F_260 (Or.inl rfl) rfl rfl (ks_F_15 hx) (kl_F_15 hx) ?_
      refine z_i2l d_F_nearest_123 ?_
      obtain ⟨c6, h⟩ := h
      refine z_lmul d_F_nearest_124 c6 ?_
      refine z_lstore_n (i := 3) (ls' := [(3, (1, (((g1 18 3) * (g1 15 3)) - ((g1 15 2) * (g1 18 4))) * (g1 15 5))), (0, (2, 0)), (1, (0, a1)), (2, (0, a2))]) d_F_nearest_125 rfl rfl rfl ?_
      refine z_aload_n (i := 0) (c := 0) 1 d_F_nearest_126 rfl rfl rfl ?_
      refine z_getr (c := 0) (kI := 7) (r2 := 15) d_F_nearest_127 fd_F_row fl_F_43 rfl rfl rfl (ks_F_0 hx) (kl_F_0 hx) (kr_F_0_7 hx) ?_
      refine z_geti (c := 15) (kI := 4) d_F_nearest_130 fd_Rw_highTop fl_F_257 (Or.inl rfl) rfl rfl (ks_F_15 hx) (kl_F_15 hx) ?_
      refine z_aload_n (i := 0) (c := 0) 1 d_F_nearest_133 rfl rfl rfl ?_
      refine z_getr (c := 0) (kI := 7) (r2 := 15) d_F_nearest_134 fd_F_row fl_F_43 rfl rfl rfl (ks_F_0 hx) (kl_F_0 hx) (kr_F_0_7 hx) ?_
      refine z_geti (c := 15) (kI := 5) d_F_nearest_137 fd_Rw_highBottom fl_F_260 (Or.inl rfl) rfl rfl (ks_F_15 hx) (kl_F_15 hx) ?_
      refine z_aload_n (i := 0) (c := 0) 1 d_F_nearest_140 rfl rfl rfl ?_
      refine z_getr (c := 0) (kI := 8) (r2 := 18) d_F_nearest_141 fd_F_chain fl_F_50 rfl rfl rfl (ks_F_0 hx) (kl_F_0 hx) (kr_F_0_8 hx) ?_
      refine z_geti (c := 18) (kI := 3) d_F_nearest_144 fd_Ch_top fl_F_244 (Or.inl rfl) rfl rfl (ks_F_18 hx) (kl_F_18 hx) ?_
      refine z_aload_n (i := 0) (c := 0) 1 d_F_nearest_147 rfl rfl rfl ?_
      refine z_getr (c := 0) (kI := 8) (r2 := 18) d_F_nearest_148 fd_F_chain fl_F_50 rfl rfl rfl (ks_F_0 hx) (kl_F_0 hx) (kr_F_0_8 hx) ?_
      refine z_geti (c := 18) (kI := 4) d_F_nearest_151 fd_Ch_bottom fl_F_241 (Or.inl rfl) rfl rfl (ks_F_18 hx) (kl_F_18 hx) ?_
      refine z_cS (as := [(0, g1 15 4), (0, g1 15 5), (0, g1 18 3), (0, g1 18 4)]) (d' := 1) (st := []) d_F_nearest_154 mi_F_cross ml_F_263 ms_F_cross rfl rfl rfl rfl rfl (b_F_cross_0  ?_)
      obtain ⟨c7, h⟩ := h
      refine ⟨c7, ?_⟩
      obtain ⟨c8, h⟩ := h
      refine ⟨c8, ?_⟩
      obtain ⟨c9, h⟩ := h
      refine ⟨c9, ?_⟩
      intro _
      show z_U X 4 m_F_nearest 157 [(3, (1, (((g1 18 3) * (g1 15 3)) - ((g1 15 2) * (g1 18 4))) * (g1 15 5))), (0, (2, 0)), (1, (0, a1)), (2, (0, a2))] [(1, ((g1 15 4) * (g1 18 4)) - ((g1 18 3) * (g1 15 5)))] N σ g1 Q
      refine z_aload_n (i := 0) (c := 0) 1 d_F_nearest_157 rfl rfl rfl ?_
      refine z_getr (c := 0) (kI := 7) (r2 := 15) d_F_nearest_158 fd_F_row fl_F_43 rfl rfl rfl (ks_F_0 hx) (kl_F_0 hx) (kr_F_0_7 hx) ?_
      refine z_geti (c := 15) (kI := 3) d_F_nearest_161 fd_Rw_lowBottom fl_F_230 (Or.inl rfl) rfl rfl (ks_F_15 hx) (kl_F_15 hx) ?_
      refine z_i2l d_F_nearest_164 ?_
      obtain ⟨c10, h⟩ := h
      refine z_lmul d_F_nearest_165 c10 ?_
      refine z_lstore (ls' := [(5, (1, (((g1 15 4) * (g1 18 4)) - ((g1 18 3) * (g1 15 5))) * (g1 15 3))), (3, (1, (((g1 18 3) * (g1 15 3)) - ((g1 15 2) * (g1 18 4))) * (g1 15 5))), (0, (2, 0)), (1, (0, a1)), (2, (0, a2))]) d_F_nearest_166 rfl rfl ?_
      refine z_lload_n (i := 3) 1 d_F_nearest_168 rfl rfl ?_
      refine z_lload 0 d_F_nearest_169 rfl ?_
      refine z_lcmp_gt (tgt := 198) d_F_nearest_171 d_F_nearest_172 (by decide) (fun c11 => ?_) (fun c11 => ?_)
      · have h := h.1 c11
        refine z_aload_n (i := 0) (c := 0) 2 d_F_nearest_198 rfl rfl rfl ?_
        refine z_aload_n (i := 0) (c := 0) 2 d_F_nearest_199 rfl rfl rfl ?_
        refine z_getr (c := 0) (kI := 7) (r2 := 15) d_F_nearest_200 fd_F_row fl_F_43 rfl rfl rfl (ks_F_0 hx) (kl_F_0 hx) (kr_F_0_7 hx) ?_
        refine z_geti (c := 15) (kI := 4) d_F_nearest_203 fd_Rw_highTop fl_F_257 (Or.inl rfl) rfl rfl (ks_F_15 hx) (kl_F_15 hx) ?_
        refine z_i2l d_F_nearest_206 ?_
        refine z_aload_n (i := 0) (c := 0) 2 d_F_nearest_207 rfl rfl rfl ?_
        refine z_getr (c := 0) (kI := 7) (r2 := 15) d_F_nearest_208 fd_F_row fl_F_43 rfl rfl rfl (ks_F_0 hx) (kl_F_0 hx) (kr_F_0_7 hx) ?_
        refine z_geti (c := 15) (kI := 5) d_F_nearest_211 fd_Rw_highBottom fl_F_260 (Or.inl rfl) rfl rfl (ks_F_15 hx) (kl_F_15 hx) ?_
        refine z_i2l d_F_nearest_214 ?_
        refine z_cV (c := 0) (as := [(1, g1 15 4), (1, g1 15 5)]) (d' := 2) (st := []) d_F_nearest_215 mi_F_tell ml_F_233 mv_F_tell se_F_tell rfl rfl rfl rfl (ks_F_0 hx) rfl rfl (kl_F_0 hx) rfl rfl (z_Omono h (fun r2 g2 _ h hro => ?_))
        have h := h (z_b01 hro)
        have hzr2 := z_b01 hro
        show z_U X 4 m_F_nearest 218 [(5, (1, (((g1 15 4) * (g1 18 4)) - ((g1 18 3) * (g1 15 5))) * (g1 15 3))), (3, (1, (((g1 18 3) * (g1 15 3)) - ((g1 15 2) * (g1 18 4))) * (g1 15 5))), (0, (2, 0)), (1, (0, a1)), (2, (0, a2))] [(0, r2)] N σ g2 Q
        exact z_zret d_F_nearest_218 rfl (by decide) (by decide) hzr2 ⟨rfl, rfl, h⟩
      · have h := h.2 c11
        refine z_aload_n (i := 0) (c := 0) 2 d_F_nearest_175 rfl rfl rfl ?_
        refine z_aload_n (i := 0) (c := 0) 2 d_F_nearest_176 rfl rfl rfl ?_
        refine z_getr (c := 0) (kI := 7) (r2 := 15) d_F_nearest_177 fd_F_row fl_F_43 rfl rfl rfl (ks_F_0 hx) (kl_F_0 hx) (kr_F_0_7 hx) ?_
        refine z_geti (c := 15) (kI := 2) d_F_nearest_180 fd_Rw_lowTop fl_F_227 (Or.inl rfl) rfl rfl (ks_F_15 hx) (kl_F_15 hx) ?_
        refine z_i2l d_F_nearest_183 ?_
        refine z_aload_n (i := 0) (c := 0) 2 d_F_nearest_184 rfl rfl rfl ?_
        refine z_getr (c := 0) (kI := 7) (r2 := 15) d_F_nearest_185 fd_F_row fl_F_43 rfl rfl rfl (ks_F_0 hx) (kl_F_0 hx) (kr_F_0_7 hx) ?_
        refine z_geti (c := 15) (kI := 3) d_F_nearest_188 fd_Rw_lowBottom fl_F_230 (Or.inl rfl) rfl rfl (ks_F_15 hx) (kl_F_15 hx) ?_
        refine z_i2l d_F_nearest_191 ?_
        refine z_cV (c := 0) (as := [(1, g1 15 2), (1, g1 15 3)]) (d' := 2) (st := []) d_F_nearest_192 mi_F_tell ml_F_233 mv_F_tell se_F_tell rfl rfl rfl rfl (ks_F_0 hx) rfl rfl (kl_F_0 hx) rfl rfl (z_Omono h (fun r3 g3 _ h hro => ?_))
        have h := h (z_b01 hro)
        have hzr3 := z_b01 hro
        show z_U X 4 m_F_nearest 195 [(5, (1, (((g1 15 4) * (g1 18 4)) - ((g1 18 3) * (g1 15 5))) * (g1 15 3))), (3, (1, (((g1 18 3) * (g1 15 3)) - ((g1 15 2) * (g1 18 4))) * (g1 15 5))), (0, (2, 0)), (1, (0, a1)), (2, (0, a2))] [(0, r3)] N σ g3 Q
        refine z_goto (tgt := 218) d_F_nearest_195 (by decide) ?_
        exact z_zret d_F_nearest_218 rfl (by decide) (by decide) hzr3 ⟨rfl, rfl, h⟩
    · have h := h.2 c2
      refine z_aload_n (i := 0) (c := 0) 0 d_F_nearest_35 rfl rfl rfl ?_
      refine z_aload_n (i := 0) (c := 0) 0 d_F_nearest_36 rfl rfl rfl ?_
      refine z_getr (c := 0) (kI := 8) (r2 := 18) d_F_nearest_37 fd_F_chain fl_F_50 rfl rfl rfl (ks_F_0 hx) (kl_F_0 hx) (kr_F_0_8 hx) ?_
      refine z_geti (c := 18) (kI := 3) d_F_nearest_40 fd_Ch_top fl_F_244 (Or.inl rfl) rfl rfl (ks_F_18 hx) (kl_F_18 hx) ?_
      refine z_i2l d_F_nearest_43 ?_
      refine z_aload_n (i := 0) (c := 0) 0 d_F_nearest_44 rfl rfl rfl ?_
      refine z_getr (c := 0) (kI := 8) (r2 := 18) d_F_nearest_45 fd_F_chain fl_F_50 rfl rfl rfl (ks_F_0 hx) (kl_F_0 hx) (kr_F_0_8 hx) ?_
      refine z_geti (c := 18) (kI := 4) d_F_nearest_48 fd_Ch_bottom fl_F_241 (Or.inl rfl) rfl rfl (ks_F_18 hx) (kl_F_18 hx) ?_
      refine z_i2l d_F_nearest_51 ?_
      refine z_cV (c := 0) (as := [(1, g0 18 3), (1, g0 18 4)]) (d' := 2) (st := []) d_F_nearest_52 mi_F_tell ml_F_233 mv_F_tell se_F_tell rfl rfl rfl rfl (ks_F_0 hx) rfl rfl (kl_F_0 hx) rfl rfl (z_Omono h (fun r4 g4 _ h hro => ?_))
      have h := h (z_b01 hro)
      have hzr4 := z_b01 hro
      show z_U X 4 m_F_nearest 55 [(0, (2, 0)), (1, (0, a1)), (2, (0, a2))] [(0, r4)] N σ g4 Q
      exact z_zret d_F_nearest_55 rfl (by decide) (by decide) hzr4 ⟨rfl, rfl, h⟩
  · have h := h.1 c1
    refine z_aload_n (i := 0) (c := 0) 0 d_F_nearest_12 rfl rfl rfl ?_
    refine z_iconst (n := 1) d_F_nearest_13 (by decide) ?_
    refine z_cV (c := 0) (as := [(0, 1)]) (d' := 1) (st := []) d_F_nearest_14 mi_F_refuse ml_F_102 mv_F_refuse se_F_refuse rfl rfl rfl rfl (ks_F_0 hx) rfl rfl (kl_F_0 hx) rfl rfl (b_F_refuse_0 hx ?_)
    intro _
    show z_U X 4 m_F_nearest 17 [(0, (2, 0)), (1, (0, a1)), (2, (0, a2))] [(0, 0)] N σ (z_up g0 0 0 1) Q
    exact z_zret d_F_nearest_17 rfl (by decide) (by decide) (by decide) ⟨rfl, rfl, h⟩
theorem d_F_pin_0 : decode (z_c m_F_pin) 0 = .ok (.iload_n 3, 1) := by decide +kernel
theorem d_F_pin_1 : decode (z_c m_F_pin) 1 = .ok (.iconst 1, 1) := by decide +kernel
theorem d_F_pin_2 : decode (z_c m_F_pin) 2 = .ok (.if_icmp .lt 21, 3) := by decide +kernel
theorem d_F_pin_5 : decode (z_c m_F_pin) 5 = .ok (.iload_n 3, 1) := by decide +kernel
theorem d_F_pin_6 : decode (z_c m_F_pin) 6 = .ok (.bipush 99, 2) := by decide +kernel
theorem d_F_pin_8 : decode (z_c m_F_pin) 8 = .ok (.if_icmp .gt 15, 3) := by decide +kernel
theorem d_F_pin_11 : decode (z_c m_F_pin) 11 = .ok (.aload_n 0, 1) := by decide +kernel
theorem d_F_pin_12 : decode (z_c m_F_pin) 12 = .ok (.getfield 50, 3) := by decide +kernel
theorem d_F_pin_15 : decode (z_c m_F_pin) 15 = .ok (.iload_n 1, 1) := by decide +kernel
theorem d_F_pin_16 : decode (z_c m_F_pin) 16 = .ok (.iload_n 2, 1) := by decide +kernel
theorem d_F_pin_17 : decode (z_c m_F_pin) 17 = .ok (.invokevirtual 237, 3) := by decide +kernel
theorem d_F_pin_20 : decode (z_c m_F_pin) 20 = .ok (.ifCond .ne 9, 3) := by decide +kernel
theorem d_F_pin_23 : decode (z_c m_F_pin) 23 = .ok (.aload_n 0, 1) := by decide +kernel
theorem d_F_pin_24 : decode (z_c m_F_pin) 24 = .ok (.iconst 1, 1) := by decide +kernel
theorem d_F_pin_25 : decode (z_c m_F_pin) 25 = .ok (.invokevirtual 121, 3) := by decide +kernel
theorem d_F_pin_28 : decode (z_c m_F_pin) 28 = .ok (.ireturn, 1) := by decide +kernel
theorem d_F_pin_29 : decode (z_c m_F_pin) 29 = .ok (.aload_n 0, 1) := by decide +kernel
theorem d_F_pin_30 : decode (z_c m_F_pin) 30 = .ok (.getfield 67, 3) := by decide +kernel
theorem d_F_pin_33 : decode (z_c m_F_pin) 33 = .ok (.getfield 167, 3) := by decide +kernel
theorem d_F_pin_36 : decode (z_c m_F_pin) 36 = .ok (.aload_n 0, 1) := by decide +kernel
theorem d_F_pin_37 : decode (z_c m_F_pin) 37 = .ok (.getfield 50, 3) := by decide +kernel
theorem d_F_pin_40 : decode (z_c m_F_pin) 40 = .ok (.getfield 244, 3) := by decide +kernel
theorem d_F_pin_43 : decode (z_c m_F_pin) 43 = .ok (.aload_n 0, 1) := by decide +kernel
theorem d_F_pin_44 : decode (z_c m_F_pin) 44 = .ok (.getfield 50, 3) := by decide +kernel
theorem d_F_pin_47 : decode (z_c m_F_pin) 47 = .ok (.getfield 241, 3) := by decide +kernel
theorem d_F_pin_50 : decode (z_c m_F_pin) 50 = .ok (.iload_n 3, 1) := by decide +kernel
theorem d_F_pin_51 : decode (z_c m_F_pin) 51 = .ok (.invokevirtual 356, 3) := by decide +kernel
theorem d_F_pin_54 : decode (z_c m_F_pin) 54 = .ok (.istore 4, 2) := by decide +kernel
theorem d_F_pin_56 : decode (z_c m_F_pin) 56 = .ok (.iload 4, 2) := by decide +kernel
theorem d_F_pin_58 : decode (z_c m_F_pin) 58 = .ok (.ifCond .eq 10, 3) := by decide +kernel
theorem d_F_pin_61 : decode (z_c m_F_pin) 61 = .ok (.aload_n 0, 1) := by decide +kernel
theorem d_F_pin_62 : decode (z_c m_F_pin) 62 = .ok (.iload 4, 2) := by decide +kernel
theorem d_F_pin_64 : decode (z_c m_F_pin) 64 = .ok (.invokevirtual 121, 3) := by decide +kernel
theorem d_F_pin_67 : decode (z_c m_F_pin) 67 = .ok (.ireturn, 1) := by decide +kernel
theorem d_F_pin_68 : decode (z_c m_F_pin) 68 = .ok (.aload_n 0, 1) := by decide +kernel
theorem d_F_pin_69 : decode (z_c m_F_pin) 69 = .ok (.aload_n 0, 1) := by decide +kernel
theorem d_F_pin_70 : decode (z_c m_F_pin) 70 = .ok (.getfield 67, 3) := by decide +kernel
theorem d_F_pin_73 : decode (z_c m_F_pin) 73 = .ok (.getfield 167, 3) := by decide +kernel
theorem d_F_pin_76 : decode (z_c m_F_pin) 76 = .ok (.aload_n 0, 1) := by decide +kernel
theorem d_F_pin_77 : decode (z_c m_F_pin) 77 = .ok (.getfield 50, 3) := by decide +kernel
theorem d_F_pin_80 : decode (z_c m_F_pin) 80 = .ok (.getfield 244, 3) := by decide +kernel
theorem d_F_pin_83 : decode (z_c m_F_pin) 83 = .ok (.aload_n 0, 1) := by decide +kernel
theorem d_F_pin_84 : decode (z_c m_F_pin) 84 = .ok (.getfield 50, 3) := by decide +kernel
theorem d_F_pin_87 : decode (z_c m_F_pin) 87 = .ok (.getfield 241, 3) := by decide +kernel
theorem d_F_pin_90 : decode (z_c m_F_pin) 90 = .ok (.iload_n 3, 1) := by decide +kernel
theorem d_F_pin_91 : decode (z_c m_F_pin) 91 = .ok (.invokevirtual 359, 3) := by decide +kernel
theorem d_F_pin_94 : decode (z_c m_F_pin) 94 = .ok (.invokevirtual 176, 3) := by decide +kernel
theorem d_F_pin_97 : decode (z_c m_F_pin) 97 = .ok (.ireturn, 1) := by decide +kernel
set_option maxRecDepth 8000 in
theorem b_F_pin_0 {X : z_X} {N : Nat} {σ g : z_G} {Q : z_P} {a1 a2 a3 : Int} (hx : z_lay X N σ 0 z_SF z_RF) (h : ((a3 < 1) → Q (-1) (z_up g 0 0 1)) ∧ (¬ (a3 < 1) → (((99 < a3) → Q (-1) (z_up g 0 0 1)) ∧ (¬ (99 < a3) → (z_O X 3 m_Ch_take [(2, 18), (0, a1), (0, a2)] N σ g (fun r0 g0 => (r0 = 0 ∨ r0 = 1) → (((r0 = 0) → Q (-1) (z_up g0 0 0 1)) ∧ (¬ (r0 = 0) → (z_O X 2 m_Pi_whyNotMore [(2, 25), (0, g0 18 3), (0, g0 18 4), (0, a3)] N σ g0 (fun r1 g1 => (((r1 = 0) → (z_O X 2 m_Pi_add [(2, 25), (0, g1 18 3), (0, g1 18 4), (0, a3)] N σ g1 (fun r2 g2 => Q r2 (z_up g2 0 0 0)))) ∧ (¬ (r1 = 0) → Q (-1) (z_up g1 0 0 r1))))))))))))) : z_O X 4 m_F_pin [(2, 0), (0, a1), (0, a2), (0, a3)] N σ g Q := by
  refine z_Oenter mi_F_pin rfl (fun _ => ?_)
  show z_U X 4 m_F_pin 0 [(0, (2, 0)), (1, (0, a1)), (2, (0, a2)), (3, (0, a3))] [] N σ g Q
  refine z_iload_n (i := 3) 3 d_F_pin_0 rfl rfl ?_
  refine z_iconst (n := 1) d_F_pin_1 (by decide) ?_
  refine z_icmp_lt (tgt := 23) d_F_pin_2 (by decide) (fun c1 => ?_) (fun c1 => ?_)
  · have h := h.1 c1
    refine z_aload_n (i := 0) (c := 0) 0 d_F_pin_23 rfl rfl rfl ?_
    refine z_iconst (n := 1) d_F_pin_24 (by decide) ?_
    refine z_cV (c := 0) (as := [(0, 1)]) (d' := 1) (st := []) d_F_pin_25 mi_F_none ml_F_121 mv_F_none se_F_none rfl rfl rfl rfl (ks_F_0 hx) rfl rfl (kl_F_0 hx) rfl rfl (b_F_none_0 hx ?_)
    intro _
    show z_U X 4 m_F_pin 28 [(0, (2, 0)), (1, (0, a1)), (2, (0, a2)), (3, (0, a3))] [(0, (-1))] N σ (z_up g 0 0 1) Q
    exact z_iret d_F_pin_28 rfl (by decide) (by decide) ⟨rfl, rfl, h⟩
  · have h := h.2 c1
    refine z_iload_n (i := 3) 3 d_F_pin_5 rfl rfl ?_
    refine z_bipush (n := 99) d_F_pin_6 (by decide) (by decide) ?_
    refine z_icmp_gt (tgt := 23) d_F_pin_8 (by decide) (fun c2 => ?_) (fun c2 => ?_)
    · have h := h.1 c2
      refine z_aload_n (i := 0) (c := 0) 0 d_F_pin_23 rfl rfl rfl ?_
      refine z_iconst (n := 1) d_F_pin_24 (by decide) ?_
      refine z_cV (c := 0) (as := [(0, 1)]) (d' := 1) (st := []) d_F_pin_25 mi_F_none ml_F_121 mv_F_none se_F_none rfl rfl rfl rfl (ks_F_0 hx) rfl rfl (kl_F_0 hx) rfl rfl (b_F_none_0 hx ?_)
      intro _
      show z_U X 4 m_F_pin 28 [(0, (2, 0)), (1, (0, a1)), (2, (0, a2)), (3, (0, a3))] [(0, (-1))] N σ (z_up g 0 0 1) Q
      exact z_iret d_F_pin_28 rfl (by decide) (by decide) ⟨rfl, rfl, h⟩
    · have h := h.2 c2
      refine z_aload_n (i := 0) (c := 0) 0 d_F_pin_11 rfl rfl rfl ?_
      refine z_getr (c := 0) (kI := 8) (r2 := 18) d_F_pin_12 fd_F_chain fl_F_50 rfl rfl rfl (ks_F_0 hx) (kl_F_0 hx) (kr_F_0_8 hx) ?_
      refine z_iload_n (i := 1) 1 d_F_pin_15 rfl rfl ?_
      refine z_iload_n (i := 2) 2 d_F_pin_16 rfl rfl ?_
      refine z_cV (c := 18) (as := [(0, a1), (0, a2)]) (d' := 3) (st := []) d_F_pin_17 mi_Ch_take ml_F_237 mv_Ch_take se_Ch_take rfl rfl rfl rfl (ks_F_18 hx) rfl rfl (kl_F_18 hx) rfl rfl (z_Omono h (fun r0 g0 _ h hro => ?_))
      have h := h (z_b01 hro)
      have hzr0 := z_b01 hro
      show z_U X 4 m_F_pin 20 [(0, (2, 0)), (1, (0, a1)), (2, (0, a2)), (3, (0, a3))] [(0, r0)] N σ g0 Q
      refine z_if_ne (tgt := 29) d_F_pin_20 (by decide) (fun c3 => ?_) (fun c3 => ?_)
      · have h := h.2 c3
        refine z_aload_n (i := 0) (c := 0) 0 d_F_pin_29 rfl rfl rfl ?_
        refine z_getr (c := 0) (kI := 11) (r2 := 23) d_F_pin_30 fd_F_board fl_F_67 rfl rfl rfl (ks_F_0 hx) (kl_F_0 hx) (kr_F_0_11 hx) ?_
        refine z_getr (c := 23) (kI := 3) (r2 := 25) d_F_pin_33 fd_Bd_pins fl_F_167 rfl rfl rfl (ks_F_23 hx) (kl_F_23 hx) (kr_F_23_3 hx) ?_
        refine z_aload_n (i := 0) (c := 0) 0 d_F_pin_36 rfl rfl rfl ?_
        refine z_getr (c := 0) (kI := 8) (r2 := 18) d_F_pin_37 fd_F_chain fl_F_50 rfl rfl rfl (ks_F_0 hx) (kl_F_0 hx) (kr_F_0_8 hx) ?_
        refine z_geti (c := 18) (kI := 3) d_F_pin_40 fd_Ch_top fl_F_244 (Or.inl rfl) rfl rfl (ks_F_18 hx) (kl_F_18 hx) ?_
        refine z_aload_n (i := 0) (c := 0) 0 d_F_pin_43 rfl rfl rfl ?_
        refine z_getr (c := 0) (kI := 8) (r2 := 18) d_F_pin_44 fd_F_chain fl_F_50 rfl rfl rfl (ks_F_0 hx) (kl_F_0 hx) (kr_F_0_8 hx) ?_
        refine z_geti (c := 18) (kI := 4) d_F_pin_47 fd_Ch_bottom fl_F_241 (Or.inl rfl) rfl rfl (ks_F_18 hx) (kl_F_18 hx) ?_
        refine z_iload_n (i := 3) 3 d_F_pin_50 rfl rfl ?_
        refine z_cV (c := 25) (as := [(0, g0 18 3), (0, g0 18 4), (0, a3)]) (d' := 2) (st := []) d_F_pin_51 mi_Pi_whyNotMore ml_F_356 mv_Pi_whyNotMore se_Pi_whyNotMore rfl rfl rfl rfl (ks_F_25 hx) rfl rfl (kl_F_25 hx) rfl rfl (z_Omono h (fun r1 g1 _ h hro => ?_))
        show z_U X 4 m_F_pin 54 [(0, (2, 0)), (1, (0, a1)), (2, (0, a2)), (3, (0, a3))] [(0, r1)] N σ g1 Q
        refine z_istore (ls' := [(4, (0, r1)), (0, (2, 0)), (1, (0, a1)), (2, (0, a2)), (3, (0, a3))]) d_F_pin_54 rfl rfl ?_
        refine z_iload 0 d_F_pin_56 rfl ?_
        refine z_if_eq (tgt := 68) d_F_pin_58 (by decide) (fun c4 => ?_) (fun c4 => ?_)
        · have h := h.1 c4
          refine z_aload_n (i := 0) (c := 0) 1 d_F_pin_68 rfl rfl rfl ?_
          refine z_aload_n (i := 0) (c := 0) 1 d_F_pin_69 rfl rfl rfl ?_
          refine z_getr (c := 0) (kI := 11) (r2 := 23) d_F_pin_70 fd_F_board fl_F_67 rfl rfl rfl (ks_F_0 hx) (kl_F_0 hx) (kr_F_0_11 hx) ?_
          refine z_getr (c := 23) (kI := 3) (r2 := 25) d_F_pin_73 fd_Bd_pins fl_F_167 rfl rfl rfl (ks_F_23 hx) (kl_F_23 hx) (kr_F_23_3 hx) ?_
          refine z_aload_n (i := 0) (c := 0) 1 d_F_pin_76 rfl rfl rfl ?_
          refine z_getr (c := 0) (kI := 8) (r2 := 18) d_F_pin_77 fd_F_chain fl_F_50 rfl rfl rfl (ks_F_0 hx) (kl_F_0 hx) (kr_F_0_8 hx) ?_
          refine z_geti (c := 18) (kI := 3) d_F_pin_80 fd_Ch_top fl_F_244 (Or.inl rfl) rfl rfl (ks_F_18 hx) (kl_F_18 hx) ?_
          refine z_aload_n (i := 0) (c := 0) 1 d_F_pin_83 rfl rfl rfl ?_
          refine z_getr (c := 0) (kI := 8) (r2 := 18) d_F_pin_84 fd_F_chain fl_F_50 rfl rfl rfl (ks_F_0 hx) (kl_F_0 hx) (kr_F_0_8 hx) ?_
          refine z_geti (c := 18) (kI := 4) d_F_pin_87 fd_Ch_bottom fl_F_241 (Or.inl rfl) rfl rfl (ks_F_18 hx) (kl_F_18 hx) ?_
          refine z_iload_n (i := 3) 4 d_F_pin_90 rfl rfl ?_
          refine z_cV (c := 25) (as := [(0, g1 18 3), (0, g1 18 4), (0, a3)]) (d' := 2) (st := [(2, 0)]) d_F_pin_91 mi_Pi_add ml_F_359 mv_Pi_add se_Pi_add rfl rfl rfl rfl (ks_F_25 hx) rfl rfl (kl_F_25 hx) rfl rfl (z_Omono h (fun r2 g2 _ h hro => ?_))
          show z_U X 4 m_F_pin 94 [(4, (0, r1)), (0, (2, 0)), (1, (0, a1)), (2, (0, a2)), (3, (0, a3))] [(0, r2), (2, 0)] N σ g2 Q
          refine z_cV (c := 0) (as := [(0, r2)]) (d' := 1) (st := []) d_F_pin_94 mi_F_give ml_F_176 mv_F_give se_F_give rfl rfl rfl rfl (ks_F_0 hx) rfl rfl (kl_F_0 hx) rfl rfl (b_F_give_0 hx ?_)
          intro _
          show z_U X 4 m_F_pin 97 [(4, (0, r1)), (0, (2, 0)), (1, (0, a1)), (2, (0, a2)), (3, (0, a3))] [(0, r2)] N σ (z_up g2 0 0 0) Q
          exact z_iret d_F_pin_97 rfl (by decide) (by decide) ⟨rfl, rfl, h⟩
        · have h := h.2 c4
          refine z_aload_n (i := 0) (c := 0) 1 d_F_pin_61 rfl rfl rfl ?_
          refine z_iload 0 d_F_pin_62 rfl ?_
          refine z_cV (c := 0) (as := [(0, r1)]) (d' := 1) (st := []) d_F_pin_64 mi_F_none ml_F_121 mv_F_none se_F_none rfl rfl rfl rfl (ks_F_0 hx) rfl rfl (kl_F_0 hx) rfl rfl (b_F_none_0 hx ?_)
          intro _
          show z_U X 4 m_F_pin 67 [(4, (0, r1)), (0, (2, 0)), (1, (0, a1)), (2, (0, a2)), (3, (0, a3))] [(0, (-1))] N σ (z_up g1 0 0 r1) Q
          exact z_iret d_F_pin_67 rfl (by decide) (by decide) ⟨rfl, rfl, h⟩
      · have h := h.1 c3
        refine z_aload_n (i := 0) (c := 0) 0 d_F_pin_23 rfl rfl rfl ?_
        refine z_iconst (n := 1) d_F_pin_24 (by decide) ?_
        refine z_cV (c := 0) (as := [(0, 1)]) (d' := 1) (st := []) d_F_pin_25 mi_F_none ml_F_121 mv_F_none se_F_none rfl rfl rfl rfl (ks_F_0 hx) rfl rfl (kl_F_0 hx) rfl rfl (b_F_none_0 hx ?_)
        intro _
        show z_U X 4 m_F_pin 28 [(0, (2, 0)), (1, (0, a1)), (2, (0, a2)), (3, (0, a3))] [(0, (-1))] N σ (z_up g0 0 0 1) Q
        exact z_iret d_F_pin_28 rfl (by decide) (by decide) ⟨rfl, rfl, h⟩
theorem d_F_pinAt_0 : decode (z_c m_F_pinAt) 0 = .ok (.iload_n 1, 1) := by decide +kernel
theorem d_F_pinAt_1 : decode (z_c m_F_pinAt) 1 = .ok (.ifCond .ge 9, 3) := by decide +kernel
theorem d_F_pinAt_4 : decode (z_c m_F_pinAt) 4 = .ok (.aload_n 0, 1) := by decide +kernel
theorem d_F_pinAt_5 : decode (z_c m_F_pinAt) 5 = .ok (.iconst 1, 1) := by decide +kernel
theorem d_F_pinAt_6 : decode (z_c m_F_pinAt) 6 = .ok (.invokevirtual 102, 3) := by decide +kernel
theorem d_F_pinAt_9 : decode (z_c m_F_pinAt) 9 = .ok (.ireturn, 1) := by decide +kernel
theorem d_F_pinAt_10 : decode (z_c m_F_pinAt) 10 = .ok (.aload_n 0, 1) := by decide +kernel
theorem d_F_pinAt_11 : decode (z_c m_F_pinAt) 11 = .ok (.iload_n 1, 1) := by decide +kernel
theorem d_F_pinAt_12 : decode (z_c m_F_pinAt) 12 = .ok (.invokevirtual 372, 3) := by decide +kernel
theorem d_F_pinAt_15 : decode (z_c m_F_pinAt) 15 = .ok (.ireturn, 1) := by decide +kernel
set_option maxRecDepth 8000 in
theorem b_F_pinAt_0 {X : z_X} {N : Nat} {σ g : z_G} {Q : z_P} {a1 : Int} (hx : z_lay X N σ 0 z_SF z_RF) (h : ((0 ≤ a1) → (z_O X 3 m_F_tellPin [(2, 0), (0, a1)] N σ g (fun r0 g0 => (r0 = 0 ∨ r0 = 1) → Q r0 g0))) ∧ (¬ (0 ≤ a1) → Q 0 (z_up g 0 0 1))) : z_O X 4 m_F_pinAt [(2, 0), (0, a1)] N σ g Q := by
  refine z_Oenter mi_F_pinAt rfl (fun _ => ?_)
  show z_U X 4 m_F_pinAt 0 [(0, (2, 0)), (1, (0, a1))] [] N σ g Q
  refine z_iload_n (i := 1) 1 d_F_pinAt_0 rfl rfl ?_
  refine z_if_ge (tgt := 10) d_F_pinAt_1 (by decide) (fun c1 => ?_) (fun c1 => ?_)
  · have h := h.1 c1
    refine z_aload_n (i := 0) (c := 0) 0 d_F_pinAt_10 rfl rfl rfl ?_
    refine z_iload_n (i := 1) 1 d_F_pinAt_11 rfl rfl ?_
    refine z_cV (c := 0) (as := [(0, a1)]) (d' := 3) (st := []) d_F_pinAt_12 mi_F_tellPin ml_F_372 mv_F_tellPin se_F_tellPin rfl rfl rfl rfl (ks_F_0 hx) rfl rfl (kl_F_0 hx) rfl rfl (z_Omono h (fun r0 g0 _ h hro => ?_))
    have h := h (z_b01 hro)
    have hzr0 := z_b01 hro
    show z_U X 4 m_F_pinAt 15 [(0, (2, 0)), (1, (0, a1))] [(0, r0)] N σ g0 Q
    exact z_zret d_F_pinAt_15 rfl (by decide) (by decide) hzr0 ⟨rfl, rfl, h⟩
  · have h := h.2 c1
    refine z_aload_n (i := 0) (c := 0) 0 d_F_pinAt_4 rfl rfl rfl ?_
    refine z_iconst (n := 1) d_F_pinAt_5 (by decide) ?_
    refine z_cV (c := 0) (as := [(0, 1)]) (d' := 1) (st := []) d_F_pinAt_6 mi_F_refuse ml_F_102 mv_F_refuse se_F_refuse rfl rfl rfl rfl (ks_F_0 hx) rfl rfl (kl_F_0 hx) rfl rfl (b_F_refuse_0 hx ?_)
    intro _
    show z_U X 4 m_F_pinAt 9 [(0, (2, 0)), (1, (0, a1))] [(0, 0)] N σ (z_up g 0 0 1) Q
    exact z_zret d_F_pinAt_9 rfl (by decide) (by decide) (by decide) ⟨rfl, rfl, h⟩
theorem d_F_place_0 : decode (z_c m_F_place) 0 = .ok (.aload_n 0, 1) := by decide +kernel
theorem d_F_place_1 : decode (z_c m_F_place) 1 = .ok (.getfield 50, 3) := by decide +kernel
theorem d_F_place_4 : decode (z_c m_F_place) 4 = .ok (.iload_n 1, 1) := by decide +kernel
theorem d_F_place_5 : decode (z_c m_F_place) 5 = .ok (.iload_n 2, 1) := by decide +kernel
theorem d_F_place_6 : decode (z_c m_F_place) 6 = .ok (.invokevirtual 237, 3) := by decide +kernel
theorem d_F_place_9 : decode (z_c m_F_place) 9 = .ok (.ifCond .ne 9, 3) := by decide +kernel
theorem d_F_place_12 : decode (z_c m_F_place) 12 = .ok (.aload_n 0, 1) := by decide +kernel
theorem d_F_place_13 : decode (z_c m_F_place) 13 = .ok (.iconst 1, 1) := by decide +kernel
theorem d_F_place_14 : decode (z_c m_F_place) 14 = .ok (.invokevirtual 121, 3) := by decide +kernel
theorem d_F_place_17 : decode (z_c m_F_place) 17 = .ok (.ireturn, 1) := by decide +kernel
theorem d_F_place_18 : decode (z_c m_F_place) 18 = .ok (.aload_n 0, 1) := by decide +kernel
theorem d_F_place_19 : decode (z_c m_F_place) 19 = .ok (.getfield 50, 3) := by decide +kernel
theorem d_F_place_22 : decode (z_c m_F_place) 22 = .ok (.getfield 241, 3) := by decide +kernel
theorem d_F_place_25 : decode (z_c m_F_place) 25 = .ok (.aload_n 0, 1) := by decide +kernel
theorem d_F_place_26 : decode (z_c m_F_place) 26 = .ok (.getfield 67, 3) := by decide +kernel
theorem d_F_place_29 : decode (z_c m_F_place) 29 = .ok (.getfield 197, 3) := by decide +kernel
theorem d_F_place_32 : decode (z_c m_F_place) 32 = .ok (.if_icmp .le 10, 3) := by decide +kernel
theorem d_F_place_35 : decode (z_c m_F_place) 35 = .ok (.aload_n 0, 1) := by decide +kernel
theorem d_F_place_36 : decode (z_c m_F_place) 36 = .ok (.bipush 6, 2) := by decide +kernel
theorem d_F_place_38 : decode (z_c m_F_place) 38 = .ok (.invokevirtual 121, 3) := by decide +kernel
theorem d_F_place_41 : decode (z_c m_F_place) 41 = .ok (.ireturn, 1) := by decide +kernel
theorem d_F_place_42 : decode (z_c m_F_place) 42 = .ok (.aload_n 0, 1) := by decide +kernel
theorem d_F_place_43 : decode (z_c m_F_place) 43 = .ok (.aload_n 0, 1) := by decide +kernel
theorem d_F_place_44 : decode (z_c m_F_place) 44 = .ok (.getfield 43, 3) := by decide +kernel
theorem d_F_place_47 : decode (z_c m_F_place) 47 = .ok (.aload_n 0, 1) := by decide +kernel
theorem d_F_place_48 : decode (z_c m_F_place) 48 = .ok (.getfield 67, 3) := by decide +kernel
theorem d_F_place_51 : decode (z_c m_F_place) 51 = .ok (.getfield 197, 3) := by decide +kernel
theorem d_F_place_54 : decode (z_c m_F_place) 54 = .ok (.aload_n 0, 1) := by decide +kernel
theorem d_F_place_55 : decode (z_c m_F_place) 55 = .ok (.getfield 50, 3) := by decide +kernel
theorem d_F_place_58 : decode (z_c m_F_place) 58 = .ok (.getfield 244, 3) := by decide +kernel
theorem d_F_place_61 : decode (z_c m_F_place) 61 = .ok (.i2l, 1) := by decide +kernel
theorem d_F_place_62 : decode (z_c m_F_place) 62 = .ok (.aload_n 0, 1) := by decide +kernel
theorem d_F_place_63 : decode (z_c m_F_place) 63 = .ok (.getfield 50, 3) := by decide +kernel
theorem d_F_place_66 : decode (z_c m_F_place) 66 = .ok (.getfield 241, 3) := by decide +kernel
theorem d_F_place_69 : decode (z_c m_F_place) 69 = .ok (.i2l, 1) := by decide +kernel
theorem d_F_place_70 : decode (z_c m_F_place) 70 = .ok (.invokevirtual 247, 3) := by decide +kernel
theorem d_F_place_73 : decode (z_c m_F_place) 73 = .ok (.invokevirtual 176, 3) := by decide +kernel
theorem d_F_place_76 : decode (z_c m_F_place) 76 = .ok (.ireturn, 1) := by decide +kernel
set_option maxRecDepth 8000 in
theorem b_F_place_0 {X : z_X} {N : Nat} {σ g : z_G} {Q : z_P} {a1 a2 : Int} (hx : z_lay X N σ 0 z_SF z_RF) (h : z_O X 3 m_Ch_take [(2, 18), (0, a1), (0, a2)] N σ g (fun r0 g0 => (r0 = 0 ∨ r0 = 1) → (((r0 = 0) → Q (-1) (z_up g0 0 0 1)) ∧ (¬ (r0 = 0) → ((((g0 18 4) ≤ (g0 23 0)) → (z_O X 1 m_Rw_countUnder [(2, 15), (0, g0 23 0), (1, g0 18 3), (1, g0 18 4)] N σ g0 (fun r1 g1 => Q r1 (z_up g1 0 0 0)))) ∧ (¬ ((g0 18 4) ≤ (g0 23 0)) → Q (-1) (z_up g0 0 0 6))))))) : z_O X 4 m_F_place [(2, 0), (0, a1), (0, a2)] N σ g Q := by
  refine z_Oenter mi_F_place rfl (fun _ => ?_)
  show z_U X 4 m_F_place 0 [(0, (2, 0)), (1, (0, a1)), (2, (0, a2))] [] N σ g Q
  refine z_aload_n (i := 0) (c := 0) 0 d_F_place_0 rfl rfl rfl ?_
  refine z_getr (c := 0) (kI := 8) (r2 := 18) d_F_place_1 fd_F_chain fl_F_50 rfl rfl rfl (ks_F_0 hx) (kl_F_0 hx) (kr_F_0_8 hx) ?_
  refine z_iload_n (i := 1) 1 d_F_place_4 rfl rfl ?_
  refine z_iload_n (i := 2) 2 d_F_place_5 rfl rfl ?_
  refine z_cV (c := 18) (as := [(0, a1), (0, a2)]) (d' := 3) (st := []) d_F_place_6 mi_Ch_take ml_F_237 mv_Ch_take se_Ch_take rfl rfl rfl rfl (ks_F_18 hx) rfl rfl (kl_F_18 hx) rfl rfl (z_Omono h (fun r0 g0 _ h hro => ?_))
  have h := h (z_b01 hro)
  have hzr0 := z_b01 hro
  show z_U X 4 m_F_place 9 [(0, (2, 0)), (1, (0, a1)), (2, (0, a2))] [(0, r0)] N σ g0 Q
  refine z_if_ne (tgt := 18) d_F_place_9 (by decide) (fun c1 => ?_) (fun c1 => ?_)
  · have h := h.2 c1
    refine z_aload_n (i := 0) (c := 0) 0 d_F_place_18 rfl rfl rfl ?_
    refine z_getr (c := 0) (kI := 8) (r2 := 18) d_F_place_19 fd_F_chain fl_F_50 rfl rfl rfl (ks_F_0 hx) (kl_F_0 hx) (kr_F_0_8 hx) ?_
    refine z_geti (c := 18) (kI := 4) d_F_place_22 fd_Ch_bottom fl_F_241 (Or.inl rfl) rfl rfl (ks_F_18 hx) (kl_F_18 hx) ?_
    refine z_aload_n (i := 0) (c := 0) 0 d_F_place_25 rfl rfl rfl ?_
    refine z_getr (c := 0) (kI := 11) (r2 := 23) d_F_place_26 fd_F_board fl_F_67 rfl rfl rfl (ks_F_0 hx) (kl_F_0 hx) (kr_F_0_11 hx) ?_
    refine z_geti (c := 23) (kI := 0) d_F_place_29 fd_Bd_order fl_F_197 (Or.inl rfl) rfl rfl (ks_F_23 hx) (kl_F_23 hx) ?_
    refine z_icmp_le (tgt := 42) d_F_place_32 (by decide) (fun c2 => ?_) (fun c2 => ?_)
    · have h := h.1 c2
      refine z_aload_n (i := 0) (c := 0) 0 d_F_place_42 rfl rfl rfl ?_
      refine z_aload_n (i := 0) (c := 0) 0 d_F_place_43 rfl rfl rfl ?_
      refine z_getr (c := 0) (kI := 7) (r2 := 15) d_F_place_44 fd_F_row fl_F_43 rfl rfl rfl (ks_F_0 hx) (kl_F_0 hx) (kr_F_0_7 hx) ?_
      refine z_aload_n (i := 0) (c := 0) 0 d_F_place_47 rfl rfl rfl ?_
      refine z_getr (c := 0) (kI := 11) (r2 := 23) d_F_place_48 fd_F_board fl_F_67 rfl rfl rfl (ks_F_0 hx) (kl_F_0 hx) (kr_F_0_11 hx) ?_
      refine z_geti (c := 23) (kI := 0) d_F_place_51 fd_Bd_order fl_F_197 (Or.inl rfl) rfl rfl (ks_F_23 hx) (kl_F_23 hx) ?_
      refine z_aload_n (i := 0) (c := 0) 0 d_F_place_54 rfl rfl rfl ?_
      refine z_getr (c := 0) (kI := 8) (r2 := 18) d_F_place_55 fd_F_chain fl_F_50 rfl rfl rfl (ks_F_0 hx) (kl_F_0 hx) (kr_F_0_8 hx) ?_
      refine z_geti (c := 18) (kI := 3) d_F_place_58 fd_Ch_top fl_F_244 (Or.inl rfl) rfl rfl (ks_F_18 hx) (kl_F_18 hx) ?_
      refine z_i2l d_F_place_61 ?_
      refine z_aload_n (i := 0) (c := 0) 0 d_F_place_62 rfl rfl rfl ?_
      refine z_getr (c := 0) (kI := 8) (r2 := 18) d_F_place_63 fd_F_chain fl_F_50 rfl rfl rfl (ks_F_0 hx) (kl_F_0 hx) (kr_F_0_8 hx) ?_
      refine z_geti (c := 18) (kI := 4) d_F_place_66 fd_Ch_bottom fl_F_241 (Or.inl rfl) rfl rfl (ks_F_18 hx) (kl_F_18 hx) ?_
      refine z_i2l d_F_place_69 ?_
      refine z_cV (c := 15) (as := [(0, g0 23 0), (1, g0 18 3), (1, g0 18 4)]) (d' := 1) (st := [(2, 0)]) d_F_place_70 mi_Rw_countUnder ml_F_247 mv_Rw_countUnder se_Rw_countUnder rfl rfl rfl rfl (ks_F_15 hx) rfl rfl (kl_F_15 hx) rfl rfl (z_Omono h (fun r1 g1 _ h hro => ?_))
      show z_U X 4 m_F_place 73 [(0, (2, 0)), (1, (0, a1)), (2, (0, a2))] [(0, r1), (2, 0)] N σ g1 Q
      refine z_cV (c := 0) (as := [(0, r1)]) (d' := 1) (st := []) d_F_place_73 mi_F_give ml_F_176 mv_F_give se_F_give rfl rfl rfl rfl (ks_F_0 hx) rfl rfl (kl_F_0 hx) rfl rfl (b_F_give_0 hx ?_)
      intro _
      show z_U X 4 m_F_place 76 [(0, (2, 0)), (1, (0, a1)), (2, (0, a2))] [(0, r1)] N σ (z_up g1 0 0 0) Q
      exact z_iret d_F_place_76 rfl (by decide) (by decide) ⟨rfl, rfl, h⟩
    · have h := h.2 c2
      refine z_aload_n (i := 0) (c := 0) 0 d_F_place_35 rfl rfl rfl ?_
      refine z_bipush (n := 6) d_F_place_36 (by decide) (by decide) ?_
      refine z_cV (c := 0) (as := [(0, 6)]) (d' := 1) (st := []) d_F_place_38 mi_F_none ml_F_121 mv_F_none se_F_none rfl rfl rfl rfl (ks_F_0 hx) rfl rfl (kl_F_0 hx) rfl rfl (b_F_none_0 hx ?_)
      intro _
      show z_U X 4 m_F_place 41 [(0, (2, 0)), (1, (0, a1)), (2, (0, a2))] [(0, (-1))] N σ (z_up g0 0 0 6) Q
      exact z_iret d_F_place_41 rfl (by decide) (by decide) ⟨rfl, rfl, h⟩
  · have h := h.1 c1
    refine z_aload_n (i := 0) (c := 0) 0 d_F_place_12 rfl rfl rfl ?_
    refine z_iconst (n := 1) d_F_place_13 (by decide) ?_
    refine z_cV (c := 0) (as := [(0, 1)]) (d' := 1) (st := []) d_F_place_14 mi_F_none ml_F_121 mv_F_none se_F_none rfl rfl rfl rfl (ks_F_0 hx) rfl rfl (kl_F_0 hx) rfl rfl (b_F_none_0 hx ?_)
    intro _
    show z_U X 4 m_F_place 17 [(0, (2, 0)), (1, (0, a1)), (2, (0, a2))] [(0, (-1))] N σ (z_up g0 0 0 1) Q
    exact z_iret d_F_place_17 rfl (by decide) (by decide) ⟨rfl, rfl, h⟩
theorem d_F_rank_0 : decode (z_c m_F_rank) 0 = .ok (.aload_n 0, 1) := by decide +kernel
theorem d_F_rank_1 : decode (z_c m_F_rank) 1 = .ok (.getfield 50, 3) := by decide +kernel
theorem d_F_rank_4 : decode (z_c m_F_rank) 4 = .ok (.iload_n 1, 1) := by decide +kernel
theorem d_F_rank_5 : decode (z_c m_F_rank) 5 = .ok (.iload_n 2, 1) := by decide +kernel
theorem d_F_rank_6 : decode (z_c m_F_rank) 6 = .ok (.invokevirtual 237, 3) := by decide +kernel
theorem d_F_rank_9 : decode (z_c m_F_rank) 9 = .ok (.ifCond .ne 9, 3) := by decide +kernel
theorem d_F_rank_12 : decode (z_c m_F_rank) 12 = .ok (.aload_n 0, 1) := by decide +kernel
theorem d_F_rank_13 : decode (z_c m_F_rank) 13 = .ok (.iconst 1, 1) := by decide +kernel
theorem d_F_rank_14 : decode (z_c m_F_rank) 14 = .ok (.invokevirtual 121, 3) := by decide +kernel
theorem d_F_rank_17 : decode (z_c m_F_rank) 17 = .ok (.ireturn, 1) := by decide +kernel
theorem d_F_rank_18 : decode (z_c m_F_rank) 18 = .ok (.aload_n 0, 1) := by decide +kernel
theorem d_F_rank_19 : decode (z_c m_F_rank) 19 = .ok (.aload_n 0, 1) := by decide +kernel
theorem d_F_rank_20 : decode (z_c m_F_rank) 20 = .ok (.getfield 43, 3) := by decide +kernel
theorem d_F_rank_23 : decode (z_c m_F_rank) 23 = .ok (.aload_n 0, 1) := by decide +kernel
theorem d_F_rank_24 : decode (z_c m_F_rank) 24 = .ok (.getfield 67, 3) := by decide +kernel
theorem d_F_rank_27 : decode (z_c m_F_rank) 27 = .ok (.getfield 197, 3) := by decide +kernel
theorem d_F_rank_30 : decode (z_c m_F_rank) 30 = .ok (.aload_n 0, 1) := by decide +kernel
theorem d_F_rank_31 : decode (z_c m_F_rank) 31 = .ok (.getfield 50, 3) := by decide +kernel
theorem d_F_rank_34 : decode (z_c m_F_rank) 34 = .ok (.getfield 244, 3) := by decide +kernel
theorem d_F_rank_37 : decode (z_c m_F_rank) 37 = .ok (.i2l, 1) := by decide +kernel
theorem d_F_rank_38 : decode (z_c m_F_rank) 38 = .ok (.aload_n 0, 1) := by decide +kernel
theorem d_F_rank_39 : decode (z_c m_F_rank) 39 = .ok (.getfield 50, 3) := by decide +kernel
theorem d_F_rank_42 : decode (z_c m_F_rank) 42 = .ok (.getfield 241, 3) := by decide +kernel
theorem d_F_rank_45 : decode (z_c m_F_rank) 45 = .ok (.i2l, 1) := by decide +kernel
theorem d_F_rank_46 : decode (z_c m_F_rank) 46 = .ok (.invokevirtual 247, 3) := by decide +kernel
theorem d_F_rank_49 : decode (z_c m_F_rank) 49 = .ok (.invokevirtual 176, 3) := by decide +kernel
theorem d_F_rank_52 : decode (z_c m_F_rank) 52 = .ok (.ireturn, 1) := by decide +kernel
set_option maxRecDepth 8000 in
theorem b_F_rank_0 {X : z_X} {N : Nat} {σ g : z_G} {Q : z_P} {a1 a2 : Int} (hx : z_lay X N σ 0 z_SF z_RF) (h : z_O X 3 m_Ch_take [(2, 18), (0, a1), (0, a2)] N σ g (fun r0 g0 => (r0 = 0 ∨ r0 = 1) → (((r0 = 0) → Q (-1) (z_up g0 0 0 1)) ∧ (¬ (r0 = 0) → (z_O X 1 m_Rw_countUnder [(2, 15), (0, g0 23 0), (1, g0 18 3), (1, g0 18 4)] N σ g0 (fun r1 g1 => Q r1 (z_up g1 0 0 0))))))) : z_O X 4 m_F_rank [(2, 0), (0, a1), (0, a2)] N σ g Q := by
  refine z_Oenter mi_F_rank rfl (fun _ => ?_)
  show z_U X 4 m_F_rank 0 [(0, (2, 0)), (1, (0, a1)), (2, (0, a2))] [] N σ g Q
  refine z_aload_n (i := 0) (c := 0) 0 d_F_rank_0 rfl rfl rfl ?_
  refine z_getr (c := 0) (kI := 8) (r2 := 18) d_F_rank_1 fd_F_chain fl_F_50 rfl rfl rfl (ks_F_0 hx) (kl_F_0 hx) (kr_F_0_8 hx) ?_
  refine z_iload_n (i := 1) 1 d_F_rank_4 rfl rfl ?_
  refine z_iload_n (i := 2) 2 d_F_rank_5 rfl rfl ?_
  refine z_cV (c := 18) (as := [(0, a1), (0, a2)]) (d' := 3) (st := []) d_F_rank_6 mi_Ch_take ml_F_237 mv_Ch_take se_Ch_take rfl rfl rfl rfl (ks_F_18 hx) rfl rfl (kl_F_18 hx) rfl rfl (z_Omono h (fun r0 g0 _ h hro => ?_))
  have h := h (z_b01 hro)
  have hzr0 := z_b01 hro
  show z_U X 4 m_F_rank 9 [(0, (2, 0)), (1, (0, a1)), (2, (0, a2))] [(0, r0)] N σ g0 Q
  refine z_if_ne (tgt := 18) d_F_rank_9 (by decide) (fun c1 => ?_) (fun c1 => ?_)
  · have h := h.2 c1
    refine z_aload_n (i := 0) (c := 0) 0 d_F_rank_18 rfl rfl rfl ?_
    refine z_aload_n (i := 0) (c := 0) 0 d_F_rank_19 rfl rfl rfl ?_
    refine z_getr (c := 0) (kI := 7) (r2 := 15) d_F_rank_20 fd_F_row fl_F_43 rfl rfl rfl (ks_F_0 hx) (kl_F_0 hx) (kr_F_0_7 hx) ?_
    refine z_aload_n (i := 0) (c := 0) 0 d_F_rank_23 rfl rfl rfl ?_
    refine z_getr (c := 0) (kI := 11) (r2 := 23) d_F_rank_24 fd_F_board fl_F_67 rfl rfl rfl (ks_F_0 hx) (kl_F_0 hx) (kr_F_0_11 hx) ?_
    refine z_geti (c := 23) (kI := 0) d_F_rank_27 fd_Bd_order fl_F_197 (Or.inl rfl) rfl rfl (ks_F_23 hx) (kl_F_23 hx) ?_
    refine z_aload_n (i := 0) (c := 0) 0 d_F_rank_30 rfl rfl rfl ?_
    refine z_getr (c := 0) (kI := 8) (r2 := 18) d_F_rank_31 fd_F_chain fl_F_50 rfl rfl rfl (ks_F_0 hx) (kl_F_0 hx) (kr_F_0_8 hx) ?_
    refine z_geti (c := 18) (kI := 3) d_F_rank_34 fd_Ch_top fl_F_244 (Or.inl rfl) rfl rfl (ks_F_18 hx) (kl_F_18 hx) ?_
    refine z_i2l d_F_rank_37 ?_
    refine z_aload_n (i := 0) (c := 0) 0 d_F_rank_38 rfl rfl rfl ?_
    refine z_getr (c := 0) (kI := 8) (r2 := 18) d_F_rank_39 fd_F_chain fl_F_50 rfl rfl rfl (ks_F_0 hx) (kl_F_0 hx) (kr_F_0_8 hx) ?_
    refine z_geti (c := 18) (kI := 4) d_F_rank_42 fd_Ch_bottom fl_F_241 (Or.inl rfl) rfl rfl (ks_F_18 hx) (kl_F_18 hx) ?_
    refine z_i2l d_F_rank_45 ?_
    refine z_cV (c := 15) (as := [(0, g0 23 0), (1, g0 18 3), (1, g0 18 4)]) (d' := 1) (st := [(2, 0)]) d_F_rank_46 mi_Rw_countUnder ml_F_247 mv_Rw_countUnder se_Rw_countUnder rfl rfl rfl rfl (ks_F_15 hx) rfl rfl (kl_F_15 hx) rfl rfl (z_Omono h (fun r1 g1 _ h hro => ?_))
    show z_U X 4 m_F_rank 49 [(0, (2, 0)), (1, (0, a1)), (2, (0, a2))] [(0, r1), (2, 0)] N σ g1 Q
    refine z_cV (c := 0) (as := [(0, r1)]) (d' := 1) (st := []) d_F_rank_49 mi_F_give ml_F_176 mv_F_give se_F_give rfl rfl rfl rfl (ks_F_0 hx) rfl rfl (kl_F_0 hx) rfl rfl (b_F_give_0 hx ?_)
    intro _
    show z_U X 4 m_F_rank 52 [(0, (2, 0)), (1, (0, a1)), (2, (0, a2))] [(0, r1)] N σ (z_up g1 0 0 0) Q
    exact z_iret d_F_rank_52 rfl (by decide) (by decide) ⟨rfl, rfl, h⟩
  · have h := h.1 c1
    refine z_aload_n (i := 0) (c := 0) 0 d_F_rank_12 rfl rfl rfl ?_
    refine z_iconst (n := 1) d_F_rank_13 (by decide) ?_
    refine z_cV (c := 0) (as := [(0, 1)]) (d' := 1) (st := []) d_F_rank_14 mi_F_none ml_F_121 mv_F_none se_F_none rfl rfl rfl rfl (ks_F_0 hx) rfl rfl (kl_F_0 hx) rfl rfl (b_F_none_0 hx ?_)
    intro _
    show z_U X 4 m_F_rank 17 [(0, (2, 0)), (1, (0, a1)), (2, (0, a2))] [(0, (-1))] N σ (z_up g0 0 0 1) Q
    exact z_iret d_F_rank_17 rfl (by decide) (by decide) ⟨rfl, rfl, h⟩
theorem d_F_share_0 : decode (z_c m_F_share) 0 = .ok (.aload_n 0, 1) := by decide +kernel
theorem d_F_share_1 : decode (z_c m_F_share) 1 = .ok (.getfield 50, 3) := by decide +kernel
theorem d_F_share_4 : decode (z_c m_F_share) 4 = .ok (.iload_n 1, 1) := by decide +kernel
theorem d_F_share_5 : decode (z_c m_F_share) 5 = .ok (.iload_n 2, 1) := by decide +kernel
theorem d_F_share_6 : decode (z_c m_F_share) 6 = .ok (.invokevirtual 237, 3) := by decide +kernel
theorem d_F_share_9 : decode (z_c m_F_share) 9 = .ok (.ifCond .ne 9, 3) := by decide +kernel
theorem d_F_share_12 : decode (z_c m_F_share) 12 = .ok (.aload_n 0, 1) := by decide +kernel
theorem d_F_share_13 : decode (z_c m_F_share) 13 = .ok (.iconst 1, 1) := by decide +kernel
theorem d_F_share_14 : decode (z_c m_F_share) 14 = .ok (.invokevirtual 102, 3) := by decide +kernel
theorem d_F_share_17 : decode (z_c m_F_share) 17 = .ok (.ireturn, 1) := by decide +kernel
theorem d_F_share_18 : decode (z_c m_F_share) 18 = .ok (.aload_n 0, 1) := by decide +kernel
theorem d_F_share_19 : decode (z_c m_F_share) 19 = .ok (.getfield 67, 3) := by decide +kernel
theorem d_F_share_22 : decode (z_c m_F_share) 22 = .ok (.getfield 167, 3) := by decide +kernel
theorem d_F_share_25 : decode (z_c m_F_share) 25 = .ok (.getfield 171, 3) := by decide +kernel
theorem d_F_share_28 : decode (z_c m_F_share) 28 = .ok (.ifCond .ne 10, 3) := by decide +kernel
theorem d_F_share_31 : decode (z_c m_F_share) 31 = .ok (.aload_n 0, 1) := by decide +kernel
theorem d_F_share_32 : decode (z_c m_F_share) 32 = .ok (.bipush 6, 2) := by decide +kernel
theorem d_F_share_34 : decode (z_c m_F_share) 34 = .ok (.invokevirtual 102, 3) := by decide +kernel
theorem d_F_share_37 : decode (z_c m_F_share) 37 = .ok (.ireturn, 1) := by decide +kernel
theorem d_F_share_38 : decode (z_c m_F_share) 38 = .ok (.aload_n 0, 1) := by decide +kernel
theorem d_F_share_39 : decode (z_c m_F_share) 39 = .ok (.aload_n 0, 1) := by decide +kernel
theorem d_F_share_40 : decode (z_c m_F_share) 40 = .ok (.getfield 67, 3) := by decide +kernel
theorem d_F_share_43 : decode (z_c m_F_share) 43 = .ok (.getfield 167, 3) := by decide +kernel
theorem d_F_share_46 : decode (z_c m_F_share) 46 = .ok (.aload_n 0, 1) := by decide +kernel
theorem d_F_share_47 : decode (z_c m_F_share) 47 = .ok (.getfield 50, 3) := by decide +kernel
theorem d_F_share_50 : decode (z_c m_F_share) 50 = .ok (.getfield 244, 3) := by decide +kernel
theorem d_F_share_53 : decode (z_c m_F_share) 53 = .ok (.aload_n 0, 1) := by decide +kernel
theorem d_F_share_54 : decode (z_c m_F_share) 54 = .ok (.getfield 50, 3) := by decide +kernel
theorem d_F_share_57 : decode (z_c m_F_share) 57 = .ok (.getfield 241, 3) := by decide +kernel
theorem d_F_share_60 : decode (z_c m_F_share) 60 = .ok (.invokevirtual 390, 3) := by decide +kernel
theorem d_F_share_63 : decode (z_c m_F_share) 63 = .ok (.i2l, 1) := by decide +kernel
theorem d_F_share_64 : decode (z_c m_F_share) 64 = .ok (.aload_n 0, 1) := by decide +kernel
theorem d_F_share_65 : decode (z_c m_F_share) 65 = .ok (.getfield 67, 3) := by decide +kernel
theorem d_F_share_68 : decode (z_c m_F_share) 68 = .ok (.getfield 167, 3) := by decide +kernel
theorem d_F_share_71 : decode (z_c m_F_share) 71 = .ok (.invokevirtual 203, 3) := by decide +kernel
theorem d_F_share_74 : decode (z_c m_F_share) 74 = .ok (.i2l, 1) := by decide +kernel
theorem d_F_share_75 : decode (z_c m_F_share) 75 = .ok (.invokevirtual 233, 3) := by decide +kernel
theorem d_F_share_78 : decode (z_c m_F_share) 78 = .ok (.ireturn, 1) := by decide +kernel
set_option maxRecDepth 8000 in
theorem b_F_share_0 {X : z_X} {N : Nat} {σ g : z_G} {Q : z_P} {a1 a2 : Int} (hx : z_lay X N σ 0 z_SF z_RF) (h : z_O X 3 m_Ch_take [(2, 18), (0, a1), (0, a2)] N σ g (fun r0 g0 => (r0 = 0 ∨ r0 = 1) → (((r0 = 0) → Q 0 (z_up g0 0 0 1)) ∧ (¬ (r0 = 0) → ((((g0 25 3) = 0) → Q 0 (z_up g0 0 0 6)) ∧ (¬ ((g0 25 3) = 0) → (z_O X 2 m_Pi_weightUpTo [(2, 25), (0, g0 18 3), (0, g0 18 4)] N σ g0 (fun r1 g1 => (z_O X 3 m_Pi_weightOfAll [(2, 25)] N σ g1 (fun r2 g2 => (z_O X 2 m_F_tell [(2, 0), (1, r1), (1, r2)] N σ g2 (fun r3 g3 => (r3 = 0 ∨ r3 = 1) → Q r3 g3)))))))))))) : z_O X 4 m_F_share [(2, 0), (0, a1), (0, a2)] N σ g Q := by
  refine z_Oenter mi_F_share rfl (fun _ => ?_)
  show z_U X 4 m_F_share 0 [(0, (2, 0)), (1, (0, a1)), (2, (0, a2))] [] N σ g Q
  refine z_aload_n (i := 0) (c := 0) 0 d_F_share_0 rfl rfl rfl ?_
  refine z_getr (c := 0) (kI := 8) (r2 := 18) d_F_share_1 fd_F_chain fl_F_50 rfl rfl rfl (ks_F_0 hx) (kl_F_0 hx) (kr_F_0_8 hx) ?_
  refine z_iload_n (i := 1) 1 d_F_share_4 rfl rfl ?_
  refine z_iload_n (i := 2) 2 d_F_share_5 rfl rfl ?_
  refine z_cV (c := 18) (as := [(0, a1), (0, a2)]) (d' := 3) (st := []) d_F_share_6 mi_Ch_take ml_F_237 mv_Ch_take se_Ch_take rfl rfl rfl rfl (ks_F_18 hx) rfl rfl (kl_F_18 hx) rfl rfl (z_Omono h (fun r0 g0 _ h hro => ?_))
  have h := h (z_b01 hro)
  have hzr0 := z_b01 hro
  show z_U X 4 m_F_share 9 [(0, (2, 0)), (1, (0, a1)), (2, (0, a2))] [(0, r0)] N σ g0 Q
  refine z_if_ne (tgt := 18) d_F_share_9 (by decide) (fun c1 => ?_) (fun c1 => ?_)
  · have h := h.2 c1
    refine z_aload_n (i := 0) (c := 0) 0 d_F_share_18 rfl rfl rfl ?_
    refine z_getr (c := 0) (kI := 11) (r2 := 23) d_F_share_19 fd_F_board fl_F_67 rfl rfl rfl (ks_F_0 hx) (kl_F_0 hx) (kr_F_0_11 hx) ?_
    refine z_getr (c := 23) (kI := 3) (r2 := 25) d_F_share_22 fd_Bd_pins fl_F_167 rfl rfl rfl (ks_F_23 hx) (kl_F_23 hx) (kr_F_23_3 hx) ?_
    refine z_geti (c := 25) (kI := 3) d_F_share_25 fd_Pi_many fl_F_171 (Or.inl rfl) rfl rfl (ks_F_25 hx) (kl_F_25 hx) ?_
    refine z_if_ne (tgt := 38) d_F_share_28 (by decide) (fun c2 => ?_) (fun c2 => ?_)
    · have h := h.2 c2
      refine z_aload_n (i := 0) (c := 0) 0 d_F_share_38 rfl rfl rfl ?_
      refine z_aload_n (i := 0) (c := 0) 0 d_F_share_39 rfl rfl rfl ?_
      refine z_getr (c := 0) (kI := 11) (r2 := 23) d_F_share_40 fd_F_board fl_F_67 rfl rfl rfl (ks_F_0 hx) (kl_F_0 hx) (kr_F_0_11 hx) ?_
      refine z_getr (c := 23) (kI := 3) (r2 := 25) d_F_share_43 fd_Bd_pins fl_F_167 rfl rfl rfl (ks_F_23 hx) (kl_F_23 hx) (kr_F_23_3 hx) ?_
      refine z_aload_n (i := 0) (c := 0) 0 d_F_share_46 rfl rfl rfl ?_
      refine z_getr (c := 0) (kI := 8) (r2 := 18) d_F_share_47 fd_F_chain fl_F_50 rfl rfl rfl (ks_F_0 hx) (kl_F_0 hx) (kr_F_0_8 hx) ?_
      refine z_geti (c := 18) (kI := 3) d_F_share_50 fd_Ch_top fl_F_244 (Or.inl rfl) rfl rfl (ks_F_18 hx) (kl_F_18 hx) ?_
      refine z_aload_n (i := 0) (c := 0) 0 d_F_share_53 rfl rfl rfl ?_
      refine z_getr (c := 0) (kI := 8) (r2 := 18) d_F_share_54 fd_F_chain fl_F_50 rfl rfl rfl (ks_F_0 hx) (kl_F_0 hx) (kr_F_0_8 hx) ?_
      refine z_geti (c := 18) (kI := 4) d_F_share_57 fd_Ch_bottom fl_F_241 (Or.inl rfl) rfl rfl (ks_F_18 hx) (kl_F_18 hx) ?_
      refine z_cV (c := 25) (as := [(0, g0 18 3), (0, g0 18 4)]) (d' := 2) (st := [(2, 0)]) d_F_share_60 mi_Pi_weightUpTo ml_F_390 mv_Pi_weightUpTo se_Pi_weightUpTo rfl rfl rfl rfl (ks_F_25 hx) rfl rfl (kl_F_25 hx) rfl rfl (z_Omono h (fun r1 g1 _ h hro => ?_))
      show z_U X 4 m_F_share 63 [(0, (2, 0)), (1, (0, a1)), (2, (0, a2))] [(0, r1), (2, 0)] N σ g1 Q
      refine z_i2l d_F_share_63 ?_
      refine z_aload_n (i := 0) (c := 0) 0 d_F_share_64 rfl rfl rfl ?_
      refine z_getr (c := 0) (kI := 11) (r2 := 23) d_F_share_65 fd_F_board fl_F_67 rfl rfl rfl (ks_F_0 hx) (kl_F_0 hx) (kr_F_0_11 hx) ?_
      refine z_getr (c := 23) (kI := 3) (r2 := 25) d_F_share_68 fd_Bd_pins fl_F_167 rfl rfl rfl (ks_F_23 hx) (kl_F_23 hx) (kr_F_23_3 hx) ?_
      refine z_cV (c := 25) (as := []) (d' := 3) (st := [(1, r1), (2, 0)]) d_F_share_71 mi_Pi_weightOfAll ml_F_203 mv_Pi_weightOfAll se_Pi_weightOfAll rfl rfl rfl rfl (ks_F_25 hx) rfl rfl (kl_F_25 hx) rfl rfl (z_Omono h (fun r2 g2 _ h hro => ?_))
      show z_U X 4 m_F_share 74 [(0, (2, 0)), (1, (0, a1)), (2, (0, a2))] [(0, r2), (1, r1), (2, 0)] N σ g2 Q
      refine z_i2l d_F_share_74 ?_
      refine z_cV (c := 0) (as := [(1, r1), (1, r2)]) (d' := 2) (st := []) d_F_share_75 mi_F_tell ml_F_233 mv_F_tell se_F_tell rfl rfl rfl rfl (ks_F_0 hx) rfl rfl (kl_F_0 hx) rfl rfl (z_Omono h (fun r3 g3 _ h hro => ?_))
      have h := h (z_b01 hro)
      have hzr3 := z_b01 hro
      show z_U X 4 m_F_share 78 [(0, (2, 0)), (1, (0, a1)), (2, (0, a2))] [(0, r3)] N σ g3 Q
      exact z_zret d_F_share_78 rfl (by decide) (by decide) hzr3 ⟨rfl, rfl, h⟩
    · have h := h.1 c2
      refine z_aload_n (i := 0) (c := 0) 0 d_F_share_31 rfl rfl rfl ?_
      refine z_bipush (n := 6) d_F_share_32 (by decide) (by decide) ?_
      refine z_cV (c := 0) (as := [(0, 6)]) (d' := 1) (st := []) d_F_share_34 mi_F_refuse ml_F_102 mv_F_refuse se_F_refuse rfl rfl rfl rfl (ks_F_0 hx) rfl rfl (kl_F_0 hx) rfl rfl (b_F_refuse_0 hx ?_)
      intro _
      show z_U X 4 m_F_share 37 [(0, (2, 0)), (1, (0, a1)), (2, (0, a2))] [(0, 0)] N σ (z_up g0 0 0 6) Q
      exact z_zret d_F_share_37 rfl (by decide) (by decide) (by decide) ⟨rfl, rfl, h⟩
  · have h := h.1 c1
    refine z_aload_n (i := 0) (c := 0) 0 d_F_share_12 rfl rfl rfl ?_
    refine z_iconst (n := 1) d_F_share_13 (by decide) ?_
    refine z_cV (c := 0) (as := [(0, 1)]) (d' := 1) (st := []) d_F_share_14 mi_F_refuse ml_F_102 mv_F_refuse se_F_refuse rfl rfl rfl rfl (ks_F_0 hx) rfl rfl (kl_F_0 hx) rfl rfl (b_F_refuse_0 hx ?_)
    intro _
    show z_U X 4 m_F_share 17 [(0, (2, 0)), (1, (0, a1)), (2, (0, a2))] [(0, 0)] N σ (z_up g0 0 0 1) Q
    exact z_zret d_F_share_17 rfl (by decide) (by decide) (by decide) ⟨rfl, rfl, h⟩
theorem d_F_simplest_0 : decode (z_c m_F_simplest) 0 = .ok (.aload_n 0, 1) := by decide +kernel
theorem d_F_simplest_1 : decode (z_c m_F_simplest) 1 = .ok (.iload_n 1, 1) := by decide +kernel
theorem d_F_simplest_2 : decode (z_c m_F_simplest) 2 = .ok (.iload_n 2, 1) := by decide +kernel
theorem d_F_simplest_3 : decode (z_c m_F_simplest) 3 = .ok (.iload_n 3, 1) := by decide +kernel
theorem d_F_simplest_4 : decode (z_c m_F_simplest) 4 = .ok (.iload 4, 2) := by decide +kernel
theorem d_F_simplest_6 : decode (z_c m_F_simplest) 6 = .ok (.invokevirtual 267, 3) := by decide +kernel
theorem d_F_simplest_9 : decode (z_c m_F_simplest) 9 = .ok (.ifCond .ne 9, 3) := by decide +kernel
theorem d_F_simplest_12 : decode (z_c m_F_simplest) 12 = .ok (.aload_n 0, 1) := by decide +kernel
theorem d_F_simplest_13 : decode (z_c m_F_simplest) 13 = .ok (.iconst 1, 1) := by decide +kernel
theorem d_F_simplest_14 : decode (z_c m_F_simplest) 14 = .ok (.invokevirtual 102, 3) := by decide +kernel
theorem d_F_simplest_17 : decode (z_c m_F_simplest) 17 = .ok (.ireturn, 1) := by decide +kernel
theorem d_F_simplest_18 : decode (z_c m_F_simplest) 18 = .ok (.aload_n 0, 1) := by decide +kernel
theorem d_F_simplest_19 : decode (z_c m_F_simplest) 19 = .ok (.getfield 50, 3) := by decide +kernel
theorem d_F_simplest_22 : decode (z_c m_F_simplest) 22 = .ok (.aload_n 0, 1) := by decide +kernel
theorem d_F_simplest_23 : decode (z_c m_F_simplest) 23 = .ok (.getfield 54, 3) := by decide +kernel
theorem d_F_simplest_26 : decode (z_c m_F_simplest) 26 = .ok (.invokevirtual 271, 3) := by decide +kernel
theorem d_F_simplest_29 : decode (z_c m_F_simplest) 29 = .ok (.ifCond .eq 10, 3) := by decide +kernel
theorem d_F_simplest_32 : decode (z_c m_F_simplest) 32 = .ok (.aload_n 0, 1) := by decide +kernel
theorem d_F_simplest_33 : decode (z_c m_F_simplest) 33 = .ok (.bipush 7, 2) := by decide +kernel
theorem d_F_simplest_35 : decode (z_c m_F_simplest) 35 = .ok (.invokevirtual 102, 3) := by decide +kernel
theorem d_F_simplest_38 : decode (z_c m_F_simplest) 38 = .ok (.ireturn, 1) := by decide +kernel
theorem d_F_simplest_39 : decode (z_c m_F_simplest) 39 = .ok (.aload_n 0, 1) := by decide +kernel
theorem d_F_simplest_40 : decode (z_c m_F_simplest) 40 = .ok (.getfield 60, 3) := by decide +kernel
theorem d_F_simplest_43 : decode (z_c m_F_simplest) 43 = .ok (.aload_n 0, 1) := by decide +kernel
theorem d_F_simplest_44 : decode (z_c m_F_simplest) 44 = .ok (.getfield 50, 3) := by decide +kernel
theorem d_F_simplest_47 : decode (z_c m_F_simplest) 47 = .ok (.aload_n 0, 1) := by decide +kernel
theorem d_F_simplest_48 : decode (z_c m_F_simplest) 48 = .ok (.getfield 54, 3) := by decide +kernel
theorem d_F_simplest_51 : decode (z_c m_F_simplest) 51 = .ok (.invokevirtual 278, 3) := by decide +kernel
theorem d_F_simplest_54 : decode (z_c m_F_simplest) 54 = .ok (.aload_n 0, 1) := by decide +kernel
theorem d_F_simplest_55 : decode (z_c m_F_simplest) 55 = .ok (.aload_n 0, 1) := by decide +kernel
theorem d_F_simplest_56 : decode (z_c m_F_simplest) 56 = .ok (.getfield 60, 3) := by decide +kernel
theorem d_F_simplest_59 : decode (z_c m_F_simplest) 59 = .ok (.invokevirtual 282, 3) := by decide +kernel
theorem d_F_simplest_62 : decode (z_c m_F_simplest) 62 = .ok (.i2l, 1) := by decide +kernel
theorem d_F_simplest_63 : decode (z_c m_F_simplest) 63 = .ok (.aload_n 0, 1) := by decide +kernel
theorem d_F_simplest_64 : decode (z_c m_F_simplest) 64 = .ok (.getfield 60, 3) := by decide +kernel
theorem d_F_simplest_67 : decode (z_c m_F_simplest) 67 = .ok (.invokevirtual 285, 3) := by decide +kernel
theorem d_F_simplest_70 : decode (z_c m_F_simplest) 70 = .ok (.i2l, 1) := by decide +kernel
theorem d_F_simplest_71 : decode (z_c m_F_simplest) 71 = .ok (.invokevirtual 233, 3) := by decide +kernel
theorem d_F_simplest_74 : decode (z_c m_F_simplest) 74 = .ok (.ireturn, 1) := by decide +kernel
set_option maxRecDepth 8000 in
theorem b_F_simplest_0 {X : z_X} {N : Nat} {σ g : z_G} {Q : z_P} {a1 a2 a3 a4 : Int} (hx : z_lay X N σ 0 z_SF z_RF) (h : z_O X 3 m_F_takeRising [(2, 0), (0, a1), (0, a2), (0, a3), (0, a4)] N σ g (fun r0 g0 => (r0 = 0 ∨ r0 = 1) → (((r0 = 0) → Q 0 (z_up g0 0 0 1)) ∧ (¬ (r0 = 0) → ((((g0 18 3) = (g0 20 3)) → ((((g0 18 4) = (g0 20 4)) → Q 0 (z_up g0 0 0 7)) ∧ (¬ ((g0 18 4) = (g0 20 4)) → (z_O X 2 m_Sp_squeeze [(2, 22), (2, 18), (2, 20)] N σ g0 (fun r1 g1 => ((-2147483648 ≤ ((g1 22 0) + (g1 22 2)) ∧ ((g1 22 0) + (g1 22 2)) ≤ 2147483647) ∧ ((-2147483648 ≤ ((g1 22 1) + (g1 22 3)) ∧ ((g1 22 1) + (g1 22 3)) ≤ 2147483647) ∧ (z_O X 2 m_F_tell [(2, 0), (1, (g1 22 0) + (g1 22 2)), (1, (g1 22 1) + (g1 22 3))] N σ g1 (fun r2 g2 => (r2 = 0 ∨ r2 = 1) → Q r2 g2))))))))) ∧ (¬ ((g0 18 3) = (g0 20 3)) → (z_O X 2 m_Sp_squeeze [(2, 22), (2, 18), (2, 20)] N σ g0 (fun r3 g3 => ((-2147483648 ≤ ((g3 22 0) + (g3 22 2)) ∧ ((g3 22 0) + (g3 22 2)) ≤ 2147483647) ∧ ((-2147483648 ≤ ((g3 22 1) + (g3 22 3)) ∧ ((g3 22 1) + (g3 22 3)) ≤ 2147483647) ∧ (z_O X 2 m_F_tell [(2, 0), (1, (g3 22 0) + (g3 22 2)), (1, (g3 22 1) + (g3 22 3))] N σ g3 (fun r4 g4 => (r4 = 0 ∨ r4 = 1) → Q r4 g4)))))))))))) : z_O X 4 m_F_simplest [(2, 0), (0, a1), (0, a2), (0, a3), (0, a4)] N σ g Q := by
  refine z_Oenter mi_F_simplest rfl (fun _ => ?_)
  show z_U X 4 m_F_simplest 0 [(0, (2, 0)), (1, (0, a1)), (2, (0, a2)), (3, (0, a3)), (4, (0, a4))] [] N σ g Q
  refine z_aload_n (i := 0) (c := 0) 0 d_F_simplest_0 rfl rfl rfl ?_
  refine z_iload_n (i := 1) 1 d_F_simplest_1 rfl rfl ?_
  refine z_iload_n (i := 2) 2 d_F_simplest_2 rfl rfl ?_
  refine z_iload_n (i := 3) 3 d_F_simplest_3 rfl rfl ?_
  refine z_iload 4 d_F_simplest_4 rfl ?_
  refine z_cV (c := 0) (as := [(0, a1), (0, a2), (0, a3), (0, a4)]) (d' := 3) (st := []) d_F_simplest_6 mi_F_takeRising ml_F_267 mv_F_takeRising se_F_takeRising rfl rfl rfl rfl (ks_F_0 hx) rfl rfl (kl_F_0 hx) rfl rfl (z_Omono h (fun r0 g0 _ h hro => ?_))
  have h := h (z_b01 hro)
  have hzr0 := z_b01 hro
  show z_U X 4 m_F_simplest 9 [(0, (2, 0)), (1, (0, a1)), (2, (0, a2)), (3, (0, a3)), (4, (0, a4))] [(0, r0)] N σ g0 Q
  refine z_if_ne (tgt := 18) d_F_simplest_9 (by decide) (fun c1 => ?_) (fun c1 => ?_)
  · have h := h.2 c1
    refine z_aload_n (i := 0) (c := 0) 0 d_F_simplest_18 rfl rfl rfl ?_
    refine z_getr (c := 0) (kI := 8) (r2 := 18) d_F_simplest_19 fd_F_chain fl_F_50 rfl rfl rfl (ks_F_0 hx) (kl_F_0 hx) (kr_F_0_8 hx) ?_
    refine z_aload_n (i := 0) (c := 0) 0 d_F_simplest_22 rfl rfl rfl ?_
    refine z_getr (c := 0) (kI := 9) (r2 := 20) d_F_simplest_23 fd_F_otherChain fl_F_54 rfl rfl rfl (ks_F_0 hx) (kl_F_0 hx) (kr_F_0_9 hx) ?_
    refine z_cV (c := 18) (as := [(2, 20)]) (d' := 1) (st := []) d_F_simplest_26 mi_Ch_isAlike ml_F_271 mv_Ch_isAlike se_Ch_isAlike rfl rfl rfl rfl (ks_F_18 hx) rfl rfl (kl_F_18 hx) rfl rfl (b_Ch_isAlike_0 (ky_F_18 hx) (ky_F_20 hx) ?_)
    refine ⟨fun c2 => ?_, fun c2 => ?_⟩
    · have h := h.1 c2
      refine ⟨fun c3 => ?_, fun c3 => ?_⟩
      · have h := h.1 c3
        intro _
        show z_U X 4 m_F_simplest 29 [(0, (2, 0)), (1, (0, a1)), (2, (0, a2)), (3, (0, a3)), (4, (0, a4))] [(0, 1)] N σ g0 Q
        refine z_if_eq (tgt := 39) d_F_simplest_29 (by decide) (fun c => absurd c (by decide)) (fun _ => ?_)
        refine z_aload_n (i := 0) (c := 0) 0 d_F_simplest_32 rfl rfl rfl ?_
        refine z_bipush (n := 7) d_F_simplest_33 (by decide) (by decide) ?_
        refine z_cV (c := 0) (as := [(0, 7)]) (d' := 1) (st := []) d_F_simplest_35 mi_F_refuse ml_F_102 mv_F_refuse se_F_refuse rfl rfl rfl rfl (ks_F_0 hx) rfl rfl (kl_F_0 hx) rfl rfl (b_F_refuse_0 hx ?_)
        intro _
        show z_U X 4 m_F_simplest 38 [(0, (2, 0)), (1, (0, a1)), (2, (0, a2)), (3, (0, a3)), (4, (0, a4))] [(0, 0)] N σ (z_up g0 0 0 7) Q
        exact z_zret d_F_simplest_38 rfl (by decide) (by decide) (by decide) ⟨rfl, rfl, h⟩
      · have h := h.2 c3
        intro _
        show z_U X 4 m_F_simplest 29 [(0, (2, 0)), (1, (0, a1)), (2, (0, a2)), (3, (0, a3)), (4, (0, a4))] [(0, 0)] N σ g0 Q
        refine z_if_eq (tgt := 39) d_F_simplest_29 (by decide) (fun _ => ?_) (fun c => absurd (by decide) c)
        refine z_aload_n (i := 0) (c := 0) 0 d_F_simplest_39 rfl rfl rfl ?_
        refine z_getr (c := 0) (kI := 10) (r2 := 22) d_F_simplest_40 fd_F_spot fl_F_60 rfl rfl rfl (ks_F_0 hx) (kl_F_0 hx) (kr_F_0_10 hx) ?_
        refine z_aload_n (i := 0) (c := 0) 0 d_F_simplest_43 rfl rfl rfl ?_
        refine z_getr (c := 0) (kI := 8) (r2 := 18) d_F_simplest_44 fd_F_chain fl_F_50 rfl rfl rfl (ks_F_0 hx) (kl_F_0 hx) (kr_F_0_8 hx) ?_
        refine z_aload_n (i := 0) (c := 0) 0 d_F_simplest_47 rfl rfl rfl ?_
        refine z_getr (c := 0) (kI := 9) (r2 := 20) d_F_simplest_48 fd_F_otherChain fl_F_54 rfl rfl rfl (ks_F_0 hx) (kl_F_0 hx) (kr_F_0_9 hx) ?_
        refine z_cV (c := 22) (as := [(2, 18), (2, 20)]) (d' := 2) (st := []) d_F_simplest_51 mi_Sp_squeeze ml_F_278 mv_Sp_squeeze se_Sp_squeeze rfl rfl rfl rfl (ks_F_22 hx) rfl rfl (kl_F_22 hx) rfl rfl (z_Omono h (fun r1 g1 _ h hro => ?_))
        show z_U X 4 m_F_simplest 54 [(0, (2, 0)), (1, (0, a1)), (2, (0, a2)), (3, (0, a3)), (4, (0, a4))] [] N σ g1 Q
        refine z_aload_n (i := 0) (c := 0) 0 d_F_simplest_54 rfl rfl rfl ?_
        refine z_aload_n (i := 0) (c := 0) 0 d_F_simplest_55 rfl rfl rfl ?_
        refine z_getr (c := 0) (kI := 10) (r2 := 22) d_F_simplest_56 fd_F_spot fl_F_60 rfl rfl rfl (ks_F_0 hx) (kl_F_0 hx) (kr_F_0_10 hx) ?_
        refine z_cV (c := 22) (as := []) (d' := 1) (st := [(2, 0)]) d_F_simplest_59 mi_Sp_ownTop ml_F_282 mv_Sp_ownTop se_Sp_ownTop rfl rfl rfl rfl (ks_F_22 hx) rfl rfl (kl_F_22 hx) rfl rfl (b_Sp_ownTop_0 (ky_F_22 hx) ?_)
        obtain ⟨c4, h⟩ := h
        refine ⟨c4, ?_⟩
        intro _
        show z_U X 4 m_F_simplest 62 [(0, (2, 0)), (1, (0, a1)), (2, (0, a2)), (3, (0, a3)), (4, (0, a4))] [(0, (g1 22 0) + (g1 22 2)), (2, 0)] N σ g1 Q
        refine z_i2l d_F_simplest_62 ?_
        refine z_aload_n (i := 0) (c := 0) 0 d_F_simplest_63 rfl rfl rfl ?_
        refine z_getr (c := 0) (kI := 10) (r2 := 22) d_F_simplest_64 fd_F_spot fl_F_60 rfl rfl rfl (ks_F_0 hx) (kl_F_0 hx) (kr_F_0_10 hx) ?_
        refine z_cV (c := 22) (as := []) (d' := 1) (st := [(1, (g1 22 0) + (g1 22 2)), (2, 0)]) d_F_simplest_67 mi_Sp_ownBottom ml_F_285 mv_Sp_ownBottom se_Sp_ownBottom rfl rfl rfl rfl (ks_F_22 hx) rfl rfl (kl_F_22 hx) rfl rfl (b_Sp_ownBottom_0 (ky_F_22 hx) ?_)
        obtain ⟨c5, h⟩ := h
        refine ⟨c5, ?_⟩
        intro _
        show z_U X 4 m_F_simplest 70 [(0, (2, 0)), (1, (0, a1)), (2, (0, a2)), (3, (0, a3)), (4, (0, a4))] [(0, (g1 22 1) + (g1 22 3)), (1, (g1 22 0) + (g1 22 2)), (2, 0)] N σ g1 Q
        refine z_i2l d_F_simplest_70 ?_
        refine z_cV (c := 0) (as := [(1, (g1 22 0) + (g1 22 2)), (1, (g1 22 1) + (g1 22 3))]) (d' := 2) (st := []) d_F_simplest_71 mi_F_tell ml_F_233 mv_F_tell se_F_tell rfl rfl rfl rfl (ks_F_0 hx) rfl rfl (kl_F_0 hx) rfl rfl (z_Omono h (fun r2 g2 _ h hro => ?_))
        have h := h (z_b01 hro)
        have hzr2 := z_b01 hro
        show z_U X 4 m_F_simplest 74 [(0, (2, 0)), (1, (0, a1)), (2, (0, a2)), (3, (0, a3)), (4, (0, a4))] [(0, r2)] N σ g2 Q
        exact z_zret d_F_simplest_74 rfl (by decide) (by decide) hzr2 ⟨rfl, rfl, h⟩
    · have h := h.2 c2
      intro _
      show z_U X 4 m_F_simplest 29 [(0, (2, 0)), (1, (0, a1)), (2, (0, a2)), (3, (0, a3)), (4, (0, a4))] [(0, 0)] N σ g0 Q
      refine z_if_eq (tgt := 39) d_F_simplest_29 (by decide) (fun _ => ?_) (fun c => absurd (by decide) c)
      refine z_aload_n (i := 0) (c := 0) 0 d_F_simplest_39 rfl rfl rfl ?_
      refine z_getr (c := 0) (kI := 10) (r2 := 22) d_F_simplest_40 fd_F_spot fl_F_60 rfl rfl rfl (ks_F_0 hx) (kl_F_0 hx) (kr_F_0_10 hx) ?_
      refine z_aload_n (i := 0) (c := 0) 0 d_F_simplest_43 rfl rfl rfl ?_
      refine z_getr (c := 0) (kI := 8) (r2 := 18) d_F_simplest_44 fd_F_chain fl_F_50 rfl rfl rfl (ks_F_0 hx) (kl_F_0 hx) (kr_F_0_8 hx) ?_
      refine z_aload_n (i := 0) (c := 0) 0 d_F_simplest_47 rfl rfl rfl ?_
      refine z_getr (c := 0) (kI := 9) (r2 := 20) d_F_simplest_48 fd_F_otherChain fl_F_54 rfl rfl rfl (ks_F_0 hx) (kl_F_0 hx) (kr_F_0_9 hx) ?_
      refine z_cV (c := 22) (as := [(2, 18), (2, 20)]) (d' := 2) (st := []) d_F_simplest_51 mi_Sp_squeeze ml_F_278 mv_Sp_squeeze se_Sp_squeeze rfl rfl rfl rfl (ks_F_22 hx) rfl rfl (kl_F_22 hx) rfl rfl (z_Omono h (fun r3 g3 _ h hro => ?_))
      show z_U X 4 m_F_simplest 54 [(0, (2, 0)), (1, (0, a1)), (2, (0, a2)), (3, (0, a3)), (4, (0, a4))] [] N σ g3 Q
      refine z_aload_n (i := 0) (c := 0) 0 d_F_simplest_54 rfl rfl rfl ?_
      refine z_aload_n (i := 0) (c := 0) 0 d_F_simplest_55 rfl rfl rfl ?_
      refine z_getr (c := 0) (kI := 10) (r2 := 22) d_F_simplest_56 fd_F_spot fl_F_60 rfl rfl rfl (ks_F_0 hx) (kl_F_0 hx) (kr_F_0_10 hx) ?_
      refine z_cV (c := 22) (as := []) (d' := 1) (st := [(2, 0)]) d_F_simplest_59 mi_Sp_ownTop ml_F_282 mv_Sp_ownTop se_Sp_ownTop rfl rfl rfl rfl (ks_F_22 hx) rfl rfl (kl_F_22 hx) rfl rfl (b_Sp_ownTop_0 (ky_F_22 hx) ?_)
      obtain ⟨c6, h⟩ := h
      refine ⟨c6, ?_⟩
      intro _
      show z_U X 4 m_F_simplest 62 [(0, (2, 0)), (1, (0, a1)), (2, (0, a2)), (3, (0, a3)), (4, (0, a4))] [(0, (g3 22 0) + (g3 22 2)), (2, 0)] N σ g3 Q
      refine z_i2l d_F_simplest_62 ?_
      refine z_aload_n (i := 0) (c := 0) 0 d_F_simplest_63 rfl rfl rfl ?_
      refine z_getr (c := 0) (kI := 10) (r2 := 22) d_F_simplest_64 fd_F_spot fl_F_60 rfl rfl rfl (ks_F_0 hx) (kl_F_0 hx) (kr_F_0_10 hx) ?_
      refine z_cV (c := 22) (as := []) (d' := 1) (st := [(1, (g3 22 0) + (g3 22 2)), (2, 0)]) d_F_simplest_67 mi_Sp_ownBottom ml_F_285 mv_Sp_ownBottom se_Sp_ownBottom rfl rfl rfl rfl (ks_F_22 hx) rfl rfl (kl_F_22 hx) rfl rfl (b_Sp_ownBottom_0 (ky_F_22 hx) ?_)
      obtain ⟨c7, h⟩ := h
      refine ⟨c7, ?_⟩
      intro _
      show z_U X 4 m_F_simplest 70 [(0, (2, 0)), (1, (0, a1)), (2, (0, a2)), (3, (0, a3)), (4, (0, a4))] [(0, (g3 22 1) + (g3 22 3)), (1, (g3 22 0) + (g3 22 2)), (2, 0)] N σ g3 Q
      refine z_i2l d_F_simplest_70 ?_
      refine z_cV (c := 0) (as := [(1, (g3 22 0) + (g3 22 2)), (1, (g3 22 1) + (g3 22 3))]) (d' := 2) (st := []) d_F_simplest_71 mi_F_tell ml_F_233 mv_F_tell se_F_tell rfl rfl rfl rfl (ks_F_0 hx) rfl rfl (kl_F_0 hx) rfl rfl (z_Omono h (fun r4 g4 _ h hro => ?_))
      have h := h (z_b01 hro)
      have hzr4 := z_b01 hro
      show z_U X 4 m_F_simplest 74 [(0, (2, 0)), (1, (0, a1)), (2, (0, a2)), (3, (0, a3)), (4, (0, a4))] [(0, r4)] N σ g4 Q
      exact z_zret d_F_simplest_74 rfl (by decide) (by decide) hzr4 ⟨rfl, rfl, h⟩
  · have h := h.1 c1
    refine z_aload_n (i := 0) (c := 0) 0 d_F_simplest_12 rfl rfl rfl ?_
    refine z_iconst (n := 1) d_F_simplest_13 (by decide) ?_
    refine z_cV (c := 0) (as := [(0, 1)]) (d' := 1) (st := []) d_F_simplest_14 mi_F_refuse ml_F_102 mv_F_refuse se_F_refuse rfl rfl rfl rfl (ks_F_0 hx) rfl rfl (kl_F_0 hx) rfl rfl (b_F_refuse_0 hx ?_)
    intro _
    show z_U X 4 m_F_simplest 17 [(0, (2, 0)), (1, (0, a1)), (2, (0, a2)), (3, (0, a3)), (4, (0, a4))] [(0, 0)] N σ (z_up g0 0 0 1) Q
    exact z_zret d_F_simplest_17 rfl (by decide) (by decide) (by decide) ⟨rfl, rfl, h⟩
theorem d_F_termAt_0 : decode (z_c m_F_termAt) 0 = .ok (.iload_n 3, 1) := by decide +kernel
theorem d_F_termAt_1 : decode (z_c m_F_termAt) 1 = .ok (.ifCond .lt 15, 3) := by decide +kernel
theorem d_F_termAt_4 : decode (z_c m_F_termAt) 4 = .ok (.aload_n 0, 1) := by decide +kernel
theorem d_F_termAt_5 : decode (z_c m_F_termAt) 5 = .ok (.getfield 50, 3) := by decide +kernel
theorem d_F_termAt_8 : decode (z_c m_F_termAt) 8 = .ok (.iload_n 1, 1) := by decide +kernel
theorem d_F_termAt_9 : decode (z_c m_F_termAt) 9 = .ok (.iload_n 2, 1) := by decide +kernel
theorem d_F_termAt_10 : decode (z_c m_F_termAt) 10 = .ok (.invokevirtual 237, 3) := by decide +kernel
theorem d_F_termAt_13 : decode (z_c m_F_termAt) 13 = .ok (.ifCond .ne 9, 3) := by decide +kernel
theorem d_F_termAt_16 : decode (z_c m_F_termAt) 16 = .ok (.aload_n 0, 1) := by decide +kernel
theorem d_F_termAt_17 : decode (z_c m_F_termAt) 17 = .ok (.iconst 1, 1) := by decide +kernel
theorem d_F_termAt_18 : decode (z_c m_F_termAt) 18 = .ok (.invokevirtual 121, 3) := by decide +kernel
theorem d_F_termAt_21 : decode (z_c m_F_termAt) 21 = .ok (.ireturn, 1) := by decide +kernel
theorem d_F_termAt_22 : decode (z_c m_F_termAt) 22 = .ok (.iload_n 3, 1) := by decide +kernel
theorem d_F_termAt_23 : decode (z_c m_F_termAt) 23 = .ok (.aload_n 0, 1) := by decide +kernel
theorem d_F_termAt_24 : decode (z_c m_F_termAt) 24 = .ok (.getfield 50, 3) := by decide +kernel
theorem d_F_termAt_27 : decode (z_c m_F_termAt) 27 = .ok (.getfield 316, 3) := by decide +kernel
theorem d_F_termAt_30 : decode (z_c m_F_termAt) 30 = .ok (.if_icmp .lt 12, 3) := by decide +kernel
theorem d_F_termAt_33 : decode (z_c m_F_termAt) 33 = .ok (.aload_n 0, 1) := by decide +kernel
theorem d_F_termAt_34 : decode (z_c m_F_termAt) 34 = .ok (.bipush 6, 2) := by decide +kernel
theorem d_F_termAt_36 : decode (z_c m_F_termAt) 36 = .ok (.invokevirtual 121, 3) := by decide +kernel
theorem d_F_termAt_39 : decode (z_c m_F_termAt) 39 = .ok (.goto 15, 3) := by decide +kernel
theorem d_F_termAt_42 : decode (z_c m_F_termAt) 42 = .ok (.aload_n 0, 1) := by decide +kernel
theorem d_F_termAt_43 : decode (z_c m_F_termAt) 43 = .ok (.aload_n 0, 1) := by decide +kernel
theorem d_F_termAt_44 : decode (z_c m_F_termAt) 44 = .ok (.getfield 50, 3) := by decide +kernel
theorem d_F_termAt_47 : decode (z_c m_F_termAt) 47 = .ok (.iload_n 3, 1) := by decide +kernel
theorem d_F_termAt_48 : decode (z_c m_F_termAt) 48 = .ok (.invokevirtual 317, 3) := by decide +kernel
theorem d_F_termAt_51 : decode (z_c m_F_termAt) 51 = .ok (.invokevirtual 176, 3) := by decide +kernel
theorem d_F_termAt_54 : decode (z_c m_F_termAt) 54 = .ok (.ireturn, 1) := by decide +kernel
set_option maxRecDepth 8000 in
theorem b_F_termAt_0 {X : z_X} {N : Nat} {σ g : z_G} {Q : z_P} {a1 a2 a3 : Int} (hx : z_lay X N σ 0 z_SF z_RF) (h : ((a3 < 0) → Q (-1) (z_up g 0 0 1)) ∧ (¬ (a3 < 0) → (z_O X 3 m_Ch_take [(2, 18), (0, a1), (0, a2)] N σ g (fun r0 g0 => (r0 = 0 ∨ r0 = 1) → (((r0 = 0) → Q (-1) (z_up g0 0 0 1)) ∧ (¬ (r0 = 0) → (((a3 < (g0 18 1)) → ((((g0 18 1) ≤ a3) → Q 0 (z_up g0 0 0 0)) ∧ (¬ ((g0 18 1) ≤ a3) → (((32 ≤ a3) → Q 0 (z_up g0 0 0 0)) ∧ (¬ (32 ≤ a3) → ((0 ≤ a3 ∧ a3 < 32) ∧ Q (g0 19 a3) (z_up g0 0 0 0))))))) ∧ (¬ (a3 < (g0 18 1)) → Q (-1) (z_up g0 0 0 6))))))))) : z_O X 4 m_F_termAt [(2, 0), (0, a1), (0, a2), (0, a3)] N σ g Q := by
  refine z_Oenter mi_F_termAt rfl (fun _ => ?_)
  show z_U X 4 m_F_termAt 0 [(0, (2, 0)), (1, (0, a1)), (2, (0, a2)), (3, (0, a3))] [] N σ g Q
  refine z_iload_n (i := 3) 3 d_F_termAt_0 rfl rfl ?_
  refine z_if_lt (tgt := 16) d_F_termAt_1 (by decide) (fun c1 => ?_) (fun c1 => ?_)
  · have h := h.1 c1
    refine z_aload_n (i := 0) (c := 0) 0 d_F_termAt_16 rfl rfl rfl ?_
    refine z_iconst (n := 1) d_F_termAt_17 (by decide) ?_
    refine z_cV (c := 0) (as := [(0, 1)]) (d' := 1) (st := []) d_F_termAt_18 mi_F_none ml_F_121 mv_F_none se_F_none rfl rfl rfl rfl (ks_F_0 hx) rfl rfl (kl_F_0 hx) rfl rfl (b_F_none_0 hx ?_)
    intro _
    show z_U X 4 m_F_termAt 21 [(0, (2, 0)), (1, (0, a1)), (2, (0, a2)), (3, (0, a3))] [(0, (-1))] N σ (z_up g 0 0 1) Q
    exact z_iret d_F_termAt_21 rfl (by decide) (by decide) ⟨rfl, rfl, h⟩
  · have h := h.2 c1
    refine z_aload_n (i := 0) (c := 0) 0 d_F_termAt_4 rfl rfl rfl ?_
    refine z_getr (c := 0) (kI := 8) (r2 := 18) d_F_termAt_5 fd_F_chain fl_F_50 rfl rfl rfl (ks_F_0 hx) (kl_F_0 hx) (kr_F_0_8 hx) ?_
    refine z_iload_n (i := 1) 1 d_F_termAt_8 rfl rfl ?_
    refine z_iload_n (i := 2) 2 d_F_termAt_9 rfl rfl ?_
    refine z_cV (c := 18) (as := [(0, a1), (0, a2)]) (d' := 3) (st := []) d_F_termAt_10 mi_Ch_take ml_F_237 mv_Ch_take se_Ch_take rfl rfl rfl rfl (ks_F_18 hx) rfl rfl (kl_F_18 hx) rfl rfl (z_Omono h (fun r0 g0 _ h hro => ?_))
    have h := h (z_b01 hro)
    have hzr0 := z_b01 hro
    show z_U X 4 m_F_termAt 13 [(0, (2, 0)), (1, (0, a1)), (2, (0, a2)), (3, (0, a3))] [(0, r0)] N σ g0 Q
    refine z_if_ne (tgt := 22) d_F_termAt_13 (by decide) (fun c2 => ?_) (fun c2 => ?_)
    · have h := h.2 c2
      refine z_iload_n (i := 3) 3 d_F_termAt_22 rfl rfl ?_
      refine z_aload_n (i := 0) (c := 0) 0 d_F_termAt_23 rfl rfl rfl ?_
      refine z_getr (c := 0) (kI := 8) (r2 := 18) d_F_termAt_24 fd_F_chain fl_F_50 rfl rfl rfl (ks_F_0 hx) (kl_F_0 hx) (kr_F_0_8 hx) ?_
      refine z_geti (c := 18) (kI := 1) d_F_termAt_27 fd_Ch_many fl_F_316 (Or.inl rfl) rfl rfl (ks_F_18 hx) (kl_F_18 hx) ?_
      refine z_icmp_lt (tgt := 42) d_F_termAt_30 (by decide) (fun c3 => ?_) (fun c3 => ?_)
      · have h := h.1 c3
        refine z_aload_n (i := 0) (c := 0) 0 d_F_termAt_42 rfl rfl rfl ?_
        refine z_aload_n (i := 0) (c := 0) 0 d_F_termAt_43 rfl rfl rfl ?_
        refine z_getr (c := 0) (kI := 8) (r2 := 18) d_F_termAt_44 fd_F_chain fl_F_50 rfl rfl rfl (ks_F_0 hx) (kl_F_0 hx) (kr_F_0_8 hx) ?_
        refine z_iload_n (i := 3) 3 d_F_termAt_47 rfl rfl ?_
        refine z_cV (c := 18) (as := [(0, a3)]) (d' := 1) (st := [(2, 0)]) d_F_termAt_48 mi_Ch_termOf ml_F_317 mv_Ch_termOf se_Ch_termOf rfl rfl rfl rfl (ks_F_18 hx) rfl rfl (kl_F_18 hx) rfl rfl (b_Ch_termOf_0 (ky_F_18 hx) ?_)
        refine ⟨fun c => absurd c c1, fun _ => ?_⟩
        refine ⟨fun c4 => ?_, fun c4 => ?_⟩
        · have h := h.1 c4
          intro _
          show z_U X 4 m_F_termAt 51 [(0, (2, 0)), (1, (0, a1)), (2, (0, a2)), (3, (0, a3))] [(0, 0), (2, 0)] N σ g0 Q
          refine z_cV (c := 0) (as := [(0, 0)]) (d' := 1) (st := []) d_F_termAt_51 mi_F_give ml_F_176 mv_F_give se_F_give rfl rfl rfl rfl (ks_F_0 hx) rfl rfl (kl_F_0 hx) rfl rfl (b_F_give_0 hx ?_)
          intro _
          show z_U X 4 m_F_termAt 54 [(0, (2, 0)), (1, (0, a1)), (2, (0, a2)), (3, (0, a3))] [(0, 0)] N σ (z_up g0 0 0 0) Q
          exact z_iret d_F_termAt_54 rfl (by decide) (by decide) ⟨rfl, rfl, h⟩
        · have h := h.2 c4
          refine ⟨fun c5 => ?_, fun c5 => ?_⟩
          · have h := h.1 c5
            intro _
            show z_U X 4 m_F_termAt 51 [(0, (2, 0)), (1, (0, a1)), (2, (0, a2)), (3, (0, a3))] [(0, 0), (2, 0)] N σ g0 Q
            refine z_cV (c := 0) (as := [(0, 0)]) (d' := 1) (st := []) d_F_termAt_51 mi_F_give ml_F_176 mv_F_give se_F_give rfl rfl rfl rfl (ks_F_0 hx) rfl rfl (kl_F_0 hx) rfl rfl (b_F_give_0 hx ?_)
            intro _
            show z_U X 4 m_F_termAt 54 [(0, (2, 0)), (1, (0, a1)), (2, (0, a2)), (3, (0, a3))] [(0, 0)] N σ (z_up g0 0 0 0) Q
            exact z_iret d_F_termAt_54 rfl (by decide) (by decide) ⟨rfl, rfl, h⟩
          · have h := h.2 c5
            obtain ⟨c6, h⟩ := h
            refine ⟨c6, ?_⟩
            intro _
            show z_U X 4 m_F_termAt 51 [(0, (2, 0)), (1, (0, a1)), (2, (0, a2)), (3, (0, a3))] [(0, g0 19 a3), (2, 0)] N σ g0 Q
            refine z_cV (c := 0) (as := [(0, g0 19 a3)]) (d' := 1) (st := []) d_F_termAt_51 mi_F_give ml_F_176 mv_F_give se_F_give rfl rfl rfl rfl (ks_F_0 hx) rfl rfl (kl_F_0 hx) rfl rfl (b_F_give_0 hx ?_)
            intro _
            show z_U X 4 m_F_termAt 54 [(0, (2, 0)), (1, (0, a1)), (2, (0, a2)), (3, (0, a3))] [(0, g0 19 a3)] N σ (z_up g0 0 0 0) Q
            exact z_iret d_F_termAt_54 rfl (by decide) (by decide) ⟨rfl, rfl, h⟩
      · have h := h.2 c3
        refine z_aload_n (i := 0) (c := 0) 0 d_F_termAt_33 rfl rfl rfl ?_
        refine z_bipush (n := 6) d_F_termAt_34 (by decide) (by decide) ?_
        refine z_cV (c := 0) (as := [(0, 6)]) (d' := 1) (st := []) d_F_termAt_36 mi_F_none ml_F_121 mv_F_none se_F_none rfl rfl rfl rfl (ks_F_0 hx) rfl rfl (kl_F_0 hx) rfl rfl (b_F_none_0 hx ?_)
        intro _
        show z_U X 4 m_F_termAt 39 [(0, (2, 0)), (1, (0, a1)), (2, (0, a2)), (3, (0, a3))] [(0, (-1))] N σ (z_up g0 0 0 6) Q
        refine z_goto (tgt := 54) d_F_termAt_39 (by decide) ?_
        exact z_iret d_F_termAt_54 rfl (by decide) (by decide) ⟨rfl, rfl, h⟩
    · have h := h.1 c2
      refine z_aload_n (i := 0) (c := 0) 0 d_F_termAt_16 rfl rfl rfl ?_
      refine z_iconst (n := 1) d_F_termAt_17 (by decide) ?_
      refine z_cV (c := 0) (as := [(0, 1)]) (d' := 1) (st := []) d_F_termAt_18 mi_F_none ml_F_121 mv_F_none se_F_none rfl rfl rfl rfl (ks_F_0 hx) rfl rfl (kl_F_0 hx) rfl rfl (b_F_none_0 hx ?_)
      intro _
      show z_U X 4 m_F_termAt 21 [(0, (2, 0)), (1, (0, a1)), (2, (0, a2)), (3, (0, a3))] [(0, (-1))] N σ (z_up g0 0 0 1) Q
      exact z_iret d_F_termAt_21 rfl (by decide) (by decide) ⟨rfl, rfl, h⟩
theorem d_F_terms_0 : decode (z_c m_F_terms) 0 = .ok (.aload_n 0, 1) := by decide +kernel
theorem d_F_terms_1 : decode (z_c m_F_terms) 1 = .ok (.getfield 50, 3) := by decide +kernel
theorem d_F_terms_4 : decode (z_c m_F_terms) 4 = .ok (.iload_n 1, 1) := by decide +kernel
theorem d_F_terms_5 : decode (z_c m_F_terms) 5 = .ok (.iload_n 2, 1) := by decide +kernel
theorem d_F_terms_6 : decode (z_c m_F_terms) 6 = .ok (.invokevirtual 237, 3) := by decide +kernel
theorem d_F_terms_9 : decode (z_c m_F_terms) 9 = .ok (.ifCond .eq 17, 3) := by decide +kernel
theorem d_F_terms_12 : decode (z_c m_F_terms) 12 = .ok (.aload_n 0, 1) := by decide +kernel
theorem d_F_terms_13 : decode (z_c m_F_terms) 13 = .ok (.aload_n 0, 1) := by decide +kernel
theorem d_F_terms_14 : decode (z_c m_F_terms) 14 = .ok (.getfield 50, 3) := by decide +kernel
theorem d_F_terms_17 : decode (z_c m_F_terms) 17 = .ok (.getfield 316, 3) := by decide +kernel
theorem d_F_terms_20 : decode (z_c m_F_terms) 20 = .ok (.invokevirtual 176, 3) := by decide +kernel
theorem d_F_terms_23 : decode (z_c m_F_terms) 23 = .ok (.goto 8, 3) := by decide +kernel
theorem d_F_terms_26 : decode (z_c m_F_terms) 26 = .ok (.aload_n 0, 1) := by decide +kernel
theorem d_F_terms_27 : decode (z_c m_F_terms) 27 = .ok (.iconst 1, 1) := by decide +kernel
theorem d_F_terms_28 : decode (z_c m_F_terms) 28 = .ok (.invokevirtual 121, 3) := by decide +kernel
theorem d_F_terms_31 : decode (z_c m_F_terms) 31 = .ok (.ireturn, 1) := by decide +kernel
set_option maxRecDepth 8000 in
theorem b_F_terms_0 {X : z_X} {N : Nat} {σ g : z_G} {Q : z_P} {a1 a2 : Int} (hx : z_lay X N σ 0 z_SF z_RF) (h : z_O X 3 m_Ch_take [(2, 18), (0, a1), (0, a2)] N σ g (fun r0 g0 => (r0 = 0 ∨ r0 = 1) → (((r0 = 0) → Q (-1) (z_up g0 0 0 1)) ∧ (¬ (r0 = 0) → Q (g0 18 1) (z_up g0 0 0 0))))) : z_O X 4 m_F_terms [(2, 0), (0, a1), (0, a2)] N σ g Q := by
  refine z_Oenter mi_F_terms rfl (fun _ => ?_)
  show z_U X 4 m_F_terms 0 [(0, (2, 0)), (1, (0, a1)), (2, (0, a2))] [] N σ g Q
  refine z_aload_n (i := 0) (c := 0) 0 d_F_terms_0 rfl rfl rfl ?_
  refine z_getr (c := 0) (kI := 8) (r2 := 18) d_F_terms_1 fd_F_chain fl_F_50 rfl rfl rfl (ks_F_0 hx) (kl_F_0 hx) (kr_F_0_8 hx) ?_
  refine z_iload_n (i := 1) 1 d_F_terms_4 rfl rfl ?_
  refine z_iload_n (i := 2) 2 d_F_terms_5 rfl rfl ?_
  refine z_cV (c := 18) (as := [(0, a1), (0, a2)]) (d' := 3) (st := []) d_F_terms_6 mi_Ch_take ml_F_237 mv_Ch_take se_Ch_take rfl rfl rfl rfl (ks_F_18 hx) rfl rfl (kl_F_18 hx) rfl rfl (z_Omono h (fun r0 g0 _ h hro => ?_))
  have h := h (z_b01 hro)
  have hzr0 := z_b01 hro
  show z_U X 4 m_F_terms 9 [(0, (2, 0)), (1, (0, a1)), (2, (0, a2))] [(0, r0)] N σ g0 Q
  refine z_if_eq (tgt := 26) d_F_terms_9 (by decide) (fun c1 => ?_) (fun c1 => ?_)
  · have h := h.1 c1
    refine z_aload_n (i := 0) (c := 0) 0 d_F_terms_26 rfl rfl rfl ?_
    refine z_iconst (n := 1) d_F_terms_27 (by decide) ?_
    refine z_cV (c := 0) (as := [(0, 1)]) (d' := 1) (st := []) d_F_terms_28 mi_F_none ml_F_121 mv_F_none se_F_none rfl rfl rfl rfl (ks_F_0 hx) rfl rfl (kl_F_0 hx) rfl rfl (b_F_none_0 hx ?_)
    intro _
    show z_U X 4 m_F_terms 31 [(0, (2, 0)), (1, (0, a1)), (2, (0, a2))] [(0, (-1))] N σ (z_up g0 0 0 1) Q
    exact z_iret d_F_terms_31 rfl (by decide) (by decide) ⟨rfl, rfl, h⟩
  · have h := h.2 c1
    refine z_aload_n (i := 0) (c := 0) 0 d_F_terms_12 rfl rfl rfl ?_
    refine z_aload_n (i := 0) (c := 0) 0 d_F_terms_13 rfl rfl rfl ?_
    refine z_getr (c := 0) (kI := 8) (r2 := 18) d_F_terms_14 fd_F_chain fl_F_50 rfl rfl rfl (ks_F_0 hx) (kl_F_0 hx) (kr_F_0_8 hx) ?_
    refine z_geti (c := 18) (kI := 1) d_F_terms_17 fd_Ch_many fl_F_316 (Or.inl rfl) rfl rfl (ks_F_18 hx) (kl_F_18 hx) ?_
    refine z_cV (c := 0) (as := [(0, g0 18 1)]) (d' := 1) (st := []) d_F_terms_20 mi_F_give ml_F_176 mv_F_give se_F_give rfl rfl rfl rfl (ks_F_0 hx) rfl rfl (kl_F_0 hx) rfl rfl (b_F_give_0 hx ?_)
    intro _
    show z_U X 4 m_F_terms 23 [(0, (2, 0)), (1, (0, a1)), (2, (0, a2))] [(0, g0 18 1)] N σ (z_up g0 0 0 0) Q
    refine z_goto (tgt := 31) d_F_terms_23 (by decide) ?_
    exact z_iret d_F_terms_31 rfl (by decide) (by decide) ⟨rfl, rfl, h⟩
theorem d_F_told_0 : decode (z_c m_F_told) 0 = .ok (.iload_n 1, 1) := by decide +kernel
theorem d_F_told_1 : decode (z_c m_F_told) 1 = .ok (.tableswitch 146 0 6 #[43, 55, 67, 82, 97, 116, 131], 43) := by decide +kernel
theorem d_F_told_44 : decode (z_c m_F_told) 44 = .ok (.aload_n 0, 1) := by decide +kernel
theorem d_F_told_45 : decode (z_c m_F_told) 45 = .ok (.aload_n 0, 1) := by decide +kernel
theorem d_F_told_46 : decode (z_c m_F_told) 46 = .ok (.getfield 67, 3) := by decide +kernel
theorem d_F_told_49 : decode (z_c m_F_told) 49 = .ok (.getfield 197, 3) := by decide +kernel
theorem d_F_told_52 : decode (z_c m_F_told) 52 = .ok (.invokevirtual 176, 3) := by decide +kernel
theorem d_F_told_55 : decode (z_c m_F_told) 55 = .ok (.ireturn, 1) := by decide +kernel
theorem d_F_told_56 : decode (z_c m_F_told) 56 = .ok (.aload_n 0, 1) := by decide +kernel
theorem d_F_told_57 : decode (z_c m_F_told) 57 = .ok (.aload_n 0, 1) := by decide +kernel
theorem d_F_told_58 : decode (z_c m_F_told) 58 = .ok (.getfield 67, 3) := by decide +kernel
theorem d_F_told_61 : decode (z_c m_F_told) 61 = .ok (.getfield 200, 3) := by decide +kernel
theorem d_F_told_64 : decode (z_c m_F_told) 64 = .ok (.invokevirtual 176, 3) := by decide +kernel
theorem d_F_told_67 : decode (z_c m_F_told) 67 = .ok (.ireturn, 1) := by decide +kernel
theorem d_F_told_68 : decode (z_c m_F_told) 68 = .ok (.aload_n 0, 1) := by decide +kernel
theorem d_F_told_69 : decode (z_c m_F_told) 69 = .ok (.aload_n 0, 1) := by decide +kernel
theorem d_F_told_70 : decode (z_c m_F_told) 70 = .ok (.getfield 67, 3) := by decide +kernel
theorem d_F_told_73 : decode (z_c m_F_told) 73 = .ok (.getfield 167, 3) := by decide +kernel
theorem d_F_told_76 : decode (z_c m_F_told) 76 = .ok (.getfield 171, 3) := by decide +kernel
theorem d_F_told_79 : decode (z_c m_F_told) 79 = .ok (.invokevirtual 176, 3) := by decide +kernel
theorem d_F_told_82 : decode (z_c m_F_told) 82 = .ok (.ireturn, 1) := by decide +kernel
theorem d_F_told_83 : decode (z_c m_F_told) 83 = .ok (.aload_n 0, 1) := by decide +kernel
theorem d_F_told_84 : decode (z_c m_F_told) 84 = .ok (.aload_n 0, 1) := by decide +kernel
theorem d_F_told_85 : decode (z_c m_F_told) 85 = .ok (.getfield 67, 3) := by decide +kernel
theorem d_F_told_88 : decode (z_c m_F_told) 88 = .ok (.getfield 167, 3) := by decide +kernel
theorem d_F_told_91 : decode (z_c m_F_told) 91 = .ok (.invokevirtual 203, 3) := by decide +kernel
theorem d_F_told_94 : decode (z_c m_F_told) 94 = .ok (.invokevirtual 176, 3) := by decide +kernel
theorem d_F_told_97 : decode (z_c m_F_told) 97 = .ok (.ireturn, 1) := by decide +kernel
theorem d_F_told_98 : decode (z_c m_F_told) 98 = .ok (.aload_n 0, 1) := by decide +kernel
theorem d_F_told_99 : decode (z_c m_F_told) 99 = .ok (.aload_n 0, 1) := by decide +kernel
theorem d_F_told_100 : decode (z_c m_F_told) 100 = .ok (.getfield 43, 3) := by decide +kernel
theorem d_F_told_103 : decode (z_c m_F_told) 103 = .ok (.aload_n 0, 1) := by decide +kernel
theorem d_F_told_104 : decode (z_c m_F_told) 104 = .ok (.getfield 67, 3) := by decide +kernel
theorem d_F_told_107 : decode (z_c m_F_told) 107 = .ok (.getfield 197, 3) := by decide +kernel
theorem d_F_told_110 : decode (z_c m_F_told) 110 = .ok (.invokevirtual 207, 3) := by decide +kernel
theorem d_F_told_113 : decode (z_c m_F_told) 113 = .ok (.invokevirtual 176, 3) := by decide +kernel
theorem d_F_told_116 : decode (z_c m_F_told) 116 = .ok (.ireturn, 1) := by decide +kernel
theorem d_F_told_117 : decode (z_c m_F_told) 117 = .ok (.aload_n 0, 1) := by decide +kernel
theorem d_F_told_118 : decode (z_c m_F_told) 118 = .ok (.aload_n 0, 1) := by decide +kernel
theorem d_F_told_119 : decode (z_c m_F_told) 119 = .ok (.getfield 67, 3) := by decide +kernel
theorem d_F_told_122 : decode (z_c m_F_told) 122 = .ok (.getfield 210, 3) := by decide +kernel
theorem d_F_told_125 : decode (z_c m_F_told) 125 = .ok (.getfield 214, 3) := by decide +kernel
theorem d_F_told_128 : decode (z_c m_F_told) 128 = .ok (.invokevirtual 176, 3) := by decide +kernel
theorem d_F_told_131 : decode (z_c m_F_told) 131 = .ok (.ireturn, 1) := by decide +kernel
theorem d_F_told_132 : decode (z_c m_F_told) 132 = .ok (.aload_n 0, 1) := by decide +kernel
theorem d_F_told_133 : decode (z_c m_F_told) 133 = .ok (.aload_n 0, 1) := by decide +kernel
theorem d_F_told_134 : decode (z_c m_F_told) 134 = .ok (.getfield 67, 3) := by decide +kernel
theorem d_F_told_137 : decode (z_c m_F_told) 137 = .ok (.getfield 217, 3) := by decide +kernel
theorem d_F_told_140 : decode (z_c m_F_told) 140 = .ok (.getfield 220, 3) := by decide +kernel
theorem d_F_told_143 : decode (z_c m_F_told) 143 = .ok (.invokevirtual 176, 3) := by decide +kernel
theorem d_F_told_146 : decode (z_c m_F_told) 146 = .ok (.ireturn, 1) := by decide +kernel
theorem d_F_told_147 : decode (z_c m_F_told) 147 = .ok (.aload_n 0, 1) := by decide +kernel
theorem d_F_told_148 : decode (z_c m_F_told) 148 = .ok (.iconst 1, 1) := by decide +kernel
theorem d_F_told_149 : decode (z_c m_F_told) 149 = .ok (.invokevirtual 121, 3) := by decide +kernel
theorem d_F_told_152 : decode (z_c m_F_told) 152 = .ok (.ireturn, 1) := by decide +kernel
set_option maxRecDepth 8000 in
theorem b_F_told_0 {X : z_X} {N : Nat} {σ g : z_G} {Q : z_P} {a1 : Int} (hx : z_lay X N σ 0 z_SF z_RF) (h : ((a1 = 0) → Q (g 23 0) (z_up g 0 0 0)) ∧ ((a1 = 1) → Q (g 23 1) (z_up g 0 0 0)) ∧ ((a1 = 2) → Q (g 25 3) (z_up g 0 0 0)) ∧ ((a1 = 3) → (z_O X 3 m_Pi_weightOfAll [(2, 25)] N σ g (fun r0 g0 => Q r0 (z_up g0 0 0 0)))) ∧ ((a1 = 4) → (z_O X 2 m_Rw_valuesOf [(2, 15), (0, g 23 0)] N σ g (fun r1 g1 => Q r1 (z_up g1 0 0 0)))) ∧ ((a1 = 5) → Q (g 29 1) (z_up g 0 0 0)) ∧ ((a1 = 6) → Q (g 24 4) (z_up g 0 0 0)) ∧ ((¬ (a1 = 0) ∧ ¬ (a1 = 1) ∧ ¬ (a1 = 2) ∧ ¬ (a1 = 3) ∧ ¬ (a1 = 4) ∧ ¬ (a1 = 5) ∧ ¬ (a1 = 6)) → Q (-1) (z_up g 0 0 1))) : z_O X 4 m_F_told [(2, 0), (0, a1)] N σ g Q := by
  refine z_Oenter mi_F_told rfl (fun _ => ?_)
  show z_U X 4 m_F_told 0 [(0, (2, 0)), (1, (0, a1))] [] N σ g Q
  refine z_iload_n (i := 1) 1 d_F_told_0 rfl rfl ?_
  by_cases c2 : a1 = 0
  · have h := h.1 c2
    refine z_ti c2 ?_
    refine z_tab (off := 43) (tgt := 44) d_F_told_1 (by decide) (by decide) (by decide) (by decide) ?_
    refine z_aload_n (i := 0) (c := 0) 0 d_F_told_44 rfl rfl rfl ?_
    refine z_aload_n (i := 0) (c := 0) 0 d_F_told_45 rfl rfl rfl ?_
    refine z_getr (c := 0) (kI := 11) (r2 := 23) d_F_told_46 fd_F_board fl_F_67 rfl rfl rfl (ks_F_0 hx) (kl_F_0 hx) (kr_F_0_11 hx) ?_
    refine z_geti (c := 23) (kI := 0) d_F_told_49 fd_Bd_order fl_F_197 (Or.inl rfl) rfl rfl (ks_F_23 hx) (kl_F_23 hx) ?_
    refine z_cV (c := 0) (as := [(0, g 23 0)]) (d' := 1) (st := []) d_F_told_52 mi_F_give ml_F_176 mv_F_give se_F_give rfl rfl rfl rfl (ks_F_0 hx) rfl rfl (kl_F_0 hx) rfl rfl (b_F_give_0 hx ?_)
    intro _
    show z_U X 4 m_F_told 55 [(0, (2, 0)), (1, (0, a1))] [(0, g 23 0)] N σ (z_up g 0 0 0) Q
    exact z_iret d_F_told_55 rfl (by decide) (by decide) ⟨rfl, rfl, h⟩
  have h := h.2
  by_cases c3 : a1 = 1
  · have h := h.1 c3
    refine z_ti c3 ?_
    refine z_tab (off := 55) (tgt := 56) d_F_told_1 (by decide) (by decide) (by decide) (by decide) ?_
    refine z_aload_n (i := 0) (c := 0) 0 d_F_told_56 rfl rfl rfl ?_
    refine z_aload_n (i := 0) (c := 0) 0 d_F_told_57 rfl rfl rfl ?_
    refine z_getr (c := 0) (kI := 11) (r2 := 23) d_F_told_58 fd_F_board fl_F_67 rfl rfl rfl (ks_F_0 hx) (kl_F_0 hx) (kr_F_0_11 hx) ?_
    refine z_geti (c := 23) (kI := 1) d_F_told_61 fd_Bd_odds fl_F_200 (Or.inl rfl) rfl rfl (ks_F_23 hx) (kl_F_23 hx) ?_
    refine z_cV (c := 0) (as := [(0, g 23 1)]) (d' := 1) (st := []) d_F_told_64 mi_F_give ml_F_176 mv_F_give se_F_give rfl rfl rfl rfl (ks_F_0 hx) rfl rfl (kl_F_0 hx) rfl rfl (b_F_give_0 hx ?_)
    intro _
    show z_U X 4 m_F_told 67 [(0, (2, 0)), (1, (0, a1))] [(0, g 23 1)] N σ (z_up g 0 0 0) Q
    exact z_iret d_F_told_67 rfl (by decide) (by decide) ⟨rfl, rfl, h⟩
  have h := h.2
  by_cases c4 : a1 = 2
  · have h := h.1 c4
    refine z_ti c4 ?_
    refine z_tab (off := 67) (tgt := 68) d_F_told_1 (by decide) (by decide) (by decide) (by decide) ?_
    refine z_aload_n (i := 0) (c := 0) 0 d_F_told_68 rfl rfl rfl ?_
    refine z_aload_n (i := 0) (c := 0) 0 d_F_told_69 rfl rfl rfl ?_
    refine z_getr (c := 0) (kI := 11) (r2 := 23) d_F_told_70 fd_F_board fl_F_67 rfl rfl rfl (ks_F_0 hx) (kl_F_0 hx) (kr_F_0_11 hx) ?_
    refine z_getr (c := 23) (kI := 3) (r2 := 25) d_F_told_73 fd_Bd_pins fl_F_167 rfl rfl rfl (ks_F_23 hx) (kl_F_23 hx) (kr_F_23_3 hx) ?_
    refine z_geti (c := 25) (kI := 3) d_F_told_76 fd_Pi_many fl_F_171 (Or.inl rfl) rfl rfl (ks_F_25 hx) (kl_F_25 hx) ?_
    refine z_cV (c := 0) (as := [(0, g 25 3)]) (d' := 1) (st := []) d_F_told_79 mi_F_give ml_F_176 mv_F_give se_F_give rfl rfl rfl rfl (ks_F_0 hx) rfl rfl (kl_F_0 hx) rfl rfl (b_F_give_0 hx ?_)
    intro _
    show z_U X 4 m_F_told 82 [(0, (2, 0)), (1, (0, a1))] [(0, g 25 3)] N σ (z_up g 0 0 0) Q
    exact z_iret d_F_told_82 rfl (by decide) (by decide) ⟨rfl, rfl, h⟩
  have h := h.2
  by_cases c5 : a1 = 3
  · have h := h.1 c5
    refine z_ti c5 ?_
    refine z_tab (off := 82) (tgt := 83) d_F_told_1 (by decide) (by decide) (by decide) (by decide) ?_
    refine z_aload_n (i := 0) (c := 0) 0 d_F_told_83 rfl rfl rfl ?_
    refine z_aload_n (i := 0) (c := 0) 0 d_F_told_84 rfl rfl rfl ?_
    refine z_getr (c := 0) (kI := 11) (r2 := 23) d_F_told_85 fd_F_board fl_F_67 rfl rfl rfl (ks_F_0 hx) (kl_F_0 hx) (kr_F_0_11 hx) ?_
    refine z_getr (c := 23) (kI := 3) (r2 := 25) d_F_told_88 fd_Bd_pins fl_F_167 rfl rfl rfl (ks_F_23 hx) (kl_F_23 hx) (kr_F_23_3 hx) ?_
    refine z_cV (c := 25) (as := []) (d' := 3) (st := [(2, 0)]) d_F_told_91 mi_Pi_weightOfAll ml_F_203 mv_Pi_weightOfAll se_Pi_weightOfAll rfl rfl rfl rfl (ks_F_25 hx) rfl rfl (kl_F_25 hx) rfl rfl (z_Omono h (fun r0 g0 _ h hro => ?_))
    show z_U X 4 m_F_told 94 [(0, (2, 0)), (1, (0, a1))] [(0, r0), (2, 0)] N σ g0 Q
    refine z_cV (c := 0) (as := [(0, r0)]) (d' := 1) (st := []) d_F_told_94 mi_F_give ml_F_176 mv_F_give se_F_give rfl rfl rfl rfl (ks_F_0 hx) rfl rfl (kl_F_0 hx) rfl rfl (b_F_give_0 hx ?_)
    intro _
    show z_U X 4 m_F_told 97 [(0, (2, 0)), (1, (0, a1))] [(0, r0)] N σ (z_up g0 0 0 0) Q
    exact z_iret d_F_told_97 rfl (by decide) (by decide) ⟨rfl, rfl, h⟩
  have h := h.2
  by_cases c6 : a1 = 4
  · have h := h.1 c6
    refine z_ti c6 ?_
    refine z_tab (off := 97) (tgt := 98) d_F_told_1 (by decide) (by decide) (by decide) (by decide) ?_
    refine z_aload_n (i := 0) (c := 0) 0 d_F_told_98 rfl rfl rfl ?_
    refine z_aload_n (i := 0) (c := 0) 0 d_F_told_99 rfl rfl rfl ?_
    refine z_getr (c := 0) (kI := 7) (r2 := 15) d_F_told_100 fd_F_row fl_F_43 rfl rfl rfl (ks_F_0 hx) (kl_F_0 hx) (kr_F_0_7 hx) ?_
    refine z_aload_n (i := 0) (c := 0) 0 d_F_told_103 rfl rfl rfl ?_
    refine z_getr (c := 0) (kI := 11) (r2 := 23) d_F_told_104 fd_F_board fl_F_67 rfl rfl rfl (ks_F_0 hx) (kl_F_0 hx) (kr_F_0_11 hx) ?_
    refine z_geti (c := 23) (kI := 0) d_F_told_107 fd_Bd_order fl_F_197 (Or.inl rfl) rfl rfl (ks_F_23 hx) (kl_F_23 hx) ?_
    refine z_cV (c := 15) (as := [(0, g 23 0)]) (d' := 2) (st := [(2, 0)]) d_F_told_110 mi_Rw_valuesOf ml_F_207 mv_Rw_valuesOf se_Rw_valuesOf rfl rfl rfl rfl (ks_F_15 hx) rfl rfl (kl_F_15 hx) rfl rfl (z_Omono h (fun r1 g1 _ h hro => ?_))
    show z_U X 4 m_F_told 113 [(0, (2, 0)), (1, (0, a1))] [(0, r1), (2, 0)] N σ g1 Q
    refine z_cV (c := 0) (as := [(0, r1)]) (d' := 1) (st := []) d_F_told_113 mi_F_give ml_F_176 mv_F_give se_F_give rfl rfl rfl rfl (ks_F_0 hx) rfl rfl (kl_F_0 hx) rfl rfl (b_F_give_0 hx ?_)
    intro _
    show z_U X 4 m_F_told 116 [(0, (2, 0)), (1, (0, a1))] [(0, r1)] N σ (z_up g1 0 0 0) Q
    exact z_iret d_F_told_116 rfl (by decide) (by decide) ⟨rfl, rfl, h⟩
  have h := h.2
  by_cases c7 : a1 = 5
  · have h := h.1 c7
    refine z_ti c7 ?_
    refine z_tab (off := 116) (tgt := 117) d_F_told_1 (by decide) (by decide) (by decide) (by decide) ?_
    refine z_aload_n (i := 0) (c := 0) 0 d_F_told_117 rfl rfl rfl ?_
    refine z_aload_n (i := 0) (c := 0) 0 d_F_told_118 rfl rfl rfl ?_
    refine z_getr (c := 0) (kI := 11) (r2 := 23) d_F_told_119 fd_F_board fl_F_67 rfl rfl rfl (ks_F_0 hx) (kl_F_0 hx) (kr_F_0_11 hx) ?_
    refine z_getr (c := 23) (kI := 4) (r2 := 29) d_F_told_122 fd_Bd_visits fl_F_210 rfl rfl rfl (ks_F_23 hx) (kl_F_23 hx) (kr_F_23_4 hx) ?_
    refine z_geti (c := 29) (kI := 1) d_F_told_125 fd_Vi_many fl_F_214 (Or.inl rfl) rfl rfl (ks_F_29 hx) (kl_F_29 hx) ?_
    refine z_cV (c := 0) (as := [(0, g 29 1)]) (d' := 1) (st := []) d_F_told_128 mi_F_give ml_F_176 mv_F_give se_F_give rfl rfl rfl rfl (ks_F_0 hx) rfl rfl (kl_F_0 hx) rfl rfl (b_F_give_0 hx ?_)
    intro _
    show z_U X 4 m_F_told 131 [(0, (2, 0)), (1, (0, a1))] [(0, g 29 1)] N σ (z_up g 0 0 0) Q
    exact z_iret d_F_told_131 rfl (by decide) (by decide) ⟨rfl, rfl, h⟩
  have h := h.2
  by_cases c8 : a1 = 6
  · have h := h.1 c8
    refine z_ti c8 ?_
    refine z_tab (off := 131) (tgt := 132) d_F_told_1 (by decide) (by decide) (by decide) (by decide) ?_
    refine z_aload_n (i := 0) (c := 0) 0 d_F_told_132 rfl rfl rfl ?_
    refine z_aload_n (i := 0) (c := 0) 0 d_F_told_133 rfl rfl rfl ?_
    refine z_getr (c := 0) (kI := 11) (r2 := 23) d_F_told_134 fd_F_board fl_F_67 rfl rfl rfl (ks_F_0 hx) (kl_F_0 hx) (kr_F_0_11 hx) ?_
    refine z_getr (c := 23) (kI := 2) (r2 := 24) d_F_told_137 fd_Bd_walker fl_F_217 rfl rfl rfl (ks_F_23 hx) (kl_F_23 hx) (kr_F_23_2 hx) ?_
    refine z_geti (c := 24) (kI := 4) d_F_told_140 fd_Sp_deep fl_F_220 (Or.inl rfl) rfl rfl (ks_F_24 hx) (kl_F_24 hx) ?_
    refine z_cV (c := 0) (as := [(0, g 24 4)]) (d' := 1) (st := []) d_F_told_143 mi_F_give ml_F_176 mv_F_give se_F_give rfl rfl rfl rfl (ks_F_0 hx) rfl rfl (kl_F_0 hx) rfl rfl (b_F_give_0 hx ?_)
    intro _
    show z_U X 4 m_F_told 146 [(0, (2, 0)), (1, (0, a1))] [(0, g 24 4)] N σ (z_up g 0 0 0) Q
    exact z_iret d_F_told_146 rfl (by decide) (by decide) ⟨rfl, rfl, h⟩
  have h := h.2
  have h := h ⟨c2, c3, c4, c5, c6, c7, c8⟩
  refine z_tabo (tgt := 147) d_F_told_1 ((Int.lt_or_le a1 0).elim Or.inl (fun q => Or.inr (z_st (z_st (z_st (z_st (z_st (z_st (z_st q c2) c3) c4) c5) c6) c7) c8))) (by decide) ?_
  refine z_aload_n (i := 0) (c := 0) 0 d_F_told_147 rfl rfl rfl ?_
  refine z_iconst (n := 1) d_F_told_148 (by decide) ?_
  refine z_cV (c := 0) (as := [(0, 1)]) (d' := 1) (st := []) d_F_told_149 mi_F_none ml_F_121 mv_F_none se_F_none rfl rfl rfl rfl (ks_F_0 hx) rfl rfl (kl_F_0 hx) rfl rfl (b_F_none_0 hx ?_)
  intro _
  show z_U X 4 m_F_told 152 [(0, (2, 0)), (1, (0, a1))] [(0, (-1))] N σ (z_up g 0 0 1) Q
  exact z_iret d_F_told_152 rfl (by decide) (by decide) ⟨rfl, rfl, h⟩
theorem d_F_up_0 : decode (z_c m_F_up) 0 = .ok (.aload_n 0, 1) := by decide +kernel
theorem d_F_up_1 : decode (z_c m_F_up) 1 = .ok (.getfield 67, 3) := by decide +kernel
theorem d_F_up_4 : decode (z_c m_F_up) 4 = .ok (.invokevirtual 344, 3) := by decide +kernel
theorem d_F_up_7 : decode (z_c m_F_up) 7 = .ok (.ifCond .eq 20, 3) := by decide +kernel
theorem d_F_up_10 : decode (z_c m_F_up) 10 = .ok (.aload_n 0, 1) := by decide +kernel
theorem d_F_up_11 : decode (z_c m_F_up) 11 = .ok (.aload_n 0, 1) := by decide +kernel
theorem d_F_up_12 : decode (z_c m_F_up) 12 = .ok (.getfield 67, 3) := by decide +kernel
theorem d_F_up_15 : decode (z_c m_F_up) 15 = .ok (.getfield 217, 3) := by decide +kernel
theorem d_F_up_18 : decode (z_c m_F_up) 18 = .ok (.getfield 220, 3) := by decide +kernel
theorem d_F_up_21 : decode (z_c m_F_up) 21 = .ok (.invokevirtual 176, 3) := by decide +kernel
theorem d_F_up_24 : decode (z_c m_F_up) 24 = .ok (.goto 9, 3) := by decide +kernel
theorem d_F_up_27 : decode (z_c m_F_up) 27 = .ok (.aload_n 0, 1) := by decide +kernel
theorem d_F_up_28 : decode (z_c m_F_up) 28 = .ok (.bipush 6, 2) := by decide +kernel
theorem d_F_up_30 : decode (z_c m_F_up) 30 = .ok (.invokevirtual 121, 3) := by decide +kernel
theorem d_F_up_33 : decode (z_c m_F_up) 33 = .ok (.ireturn, 1) := by decide +kernel
set_option maxRecDepth 8000 in
theorem b_F_up_0 {X : z_X} {N : Nat} {σ g : z_G} {Q : z_P} (hx : z_lay X N σ 0 z_SF z_RF) (h : z_O X 3 m_Bd_goUp [(2, 23)] N σ g (fun r0 g0 => (r0 = 0 ∨ r0 = 1) → (((r0 = 0) → Q (-1) (z_up g0 0 0 6)) ∧ (¬ (r0 = 0) → Q (g0 24 4) (z_up g0 0 0 0))))) : z_O X 4 m_F_up [(2, 0)] N σ g Q := by
  refine z_Oenter mi_F_up rfl (fun _ => ?_)
  show z_U X 4 m_F_up 0 [(0, (2, 0))] [] N σ g Q
  refine z_aload_n (i := 0) (c := 0) 0 d_F_up_0 rfl rfl rfl ?_
  refine z_getr (c := 0) (kI := 11) (r2 := 23) d_F_up_1 fd_F_board fl_F_67 rfl rfl rfl (ks_F_0 hx) (kl_F_0 hx) (kr_F_0_11 hx) ?_
  refine z_cV (c := 23) (as := []) (d' := 3) (st := []) d_F_up_4 mi_Bd_goUp ml_F_344 mv_Bd_goUp se_Bd_goUp rfl rfl rfl rfl (ks_F_23 hx) rfl rfl (kl_F_23 hx) rfl rfl (z_Omono h (fun r0 g0 _ h hro => ?_))
  have h := h (z_b01 hro)
  have hzr0 := z_b01 hro
  show z_U X 4 m_F_up 7 [(0, (2, 0))] [(0, r0)] N σ g0 Q
  refine z_if_eq (tgt := 27) d_F_up_7 (by decide) (fun c1 => ?_) (fun c1 => ?_)
  · have h := h.1 c1
    refine z_aload_n (i := 0) (c := 0) 0 d_F_up_27 rfl rfl rfl ?_
    refine z_bipush (n := 6) d_F_up_28 (by decide) (by decide) ?_
    refine z_cV (c := 0) (as := [(0, 6)]) (d' := 1) (st := []) d_F_up_30 mi_F_none ml_F_121 mv_F_none se_F_none rfl rfl rfl rfl (ks_F_0 hx) rfl rfl (kl_F_0 hx) rfl rfl (b_F_none_0 hx ?_)
    intro _
    show z_U X 4 m_F_up 33 [(0, (2, 0))] [(0, (-1))] N σ (z_up g0 0 0 6) Q
    exact z_iret d_F_up_33 rfl (by decide) (by decide) ⟨rfl, rfl, h⟩
  · have h := h.2 c1
    refine z_aload_n (i := 0) (c := 0) 0 d_F_up_10 rfl rfl rfl ?_
    refine z_aload_n (i := 0) (c := 0) 0 d_F_up_11 rfl rfl rfl ?_
    refine z_getr (c := 0) (kI := 11) (r2 := 23) d_F_up_12 fd_F_board fl_F_67 rfl rfl rfl (ks_F_0 hx) (kl_F_0 hx) (kr_F_0_11 hx) ?_
    refine z_getr (c := 23) (kI := 2) (r2 := 24) d_F_up_15 fd_Bd_walker fl_F_217 rfl rfl rfl (ks_F_23 hx) (kl_F_23 hx) (kr_F_23_2 hx) ?_
    refine z_geti (c := 24) (kI := 4) d_F_up_18 fd_Sp_deep fl_F_220 (Or.inl rfl) rfl rfl (ks_F_24 hx) (kl_F_24 hx) ?_
    refine z_cV (c := 0) (as := [(0, g0 24 4)]) (d' := 1) (st := []) d_F_up_21 mi_F_give ml_F_176 mv_F_give se_F_give rfl rfl rfl rfl (ks_F_0 hx) rfl rfl (kl_F_0 hx) rfl rfl (b_F_give_0 hx ?_)
    intro _
    show z_U X 4 m_F_up 24 [(0, (2, 0))] [(0, g0 24 4)] N σ (z_up g0 0 0 0) Q
    refine z_goto (tgt := 33) d_F_up_24 (by decide) ?_
    exact z_iret d_F_up_33 rfl (by decide) (by decide) ⟨rfl, rfl, h⟩
theorem d_F_wasAt_0 : decode (z_c m_F_wasAt) 0 = .ok (.aload_n 0, 1) := by decide +kernel
theorem d_F_wasAt_1 : decode (z_c m_F_wasAt) 1 = .ok (.getfield 50, 3) := by decide +kernel
theorem d_F_wasAt_4 : decode (z_c m_F_wasAt) 4 = .ok (.iload_n 1, 1) := by decide +kernel
theorem d_F_wasAt_5 : decode (z_c m_F_wasAt) 5 = .ok (.iload_n 2, 1) := by decide +kernel
theorem d_F_wasAt_6 : decode (z_c m_F_wasAt) 6 = .ok (.invokevirtual 237, 3) := by decide +kernel
theorem d_F_wasAt_9 : decode (z_c m_F_wasAt) 9 = .ok (.ifCond .ne 9, 3) := by decide +kernel
theorem d_F_wasAt_12 : decode (z_c m_F_wasAt) 12 = .ok (.aload_n 0, 1) := by decide +kernel
theorem d_F_wasAt_13 : decode (z_c m_F_wasAt) 13 = .ok (.iconst 1, 1) := by decide +kernel
theorem d_F_wasAt_14 : decode (z_c m_F_wasAt) 14 = .ok (.invokevirtual 121, 3) := by decide +kernel
theorem d_F_wasAt_17 : decode (z_c m_F_wasAt) 17 = .ok (.ireturn, 1) := by decide +kernel
theorem d_F_wasAt_18 : decode (z_c m_F_wasAt) 18 = .ok (.aload_n 0, 1) := by decide +kernel
theorem d_F_wasAt_19 : decode (z_c m_F_wasAt) 19 = .ok (.aload_n 0, 1) := by decide +kernel
theorem d_F_wasAt_20 : decode (z_c m_F_wasAt) 20 = .ok (.getfield 67, 3) := by decide +kernel
theorem d_F_wasAt_23 : decode (z_c m_F_wasAt) 23 = .ok (.getfield 210, 3) := by decide +kernel
theorem d_F_wasAt_26 : decode (z_c m_F_wasAt) 26 = .ok (.aload_n 0, 1) := by decide +kernel
theorem d_F_wasAt_27 : decode (z_c m_F_wasAt) 27 = .ok (.getfield 50, 3) := by decide +kernel
theorem d_F_wasAt_30 : decode (z_c m_F_wasAt) 30 = .ok (.getfield 244, 3) := by decide +kernel
theorem d_F_wasAt_33 : decode (z_c m_F_wasAt) 33 = .ok (.aload_n 0, 1) := by decide +kernel
theorem d_F_wasAt_34 : decode (z_c m_F_wasAt) 34 = .ok (.getfield 50, 3) := by decide +kernel
theorem d_F_wasAt_37 : decode (z_c m_F_wasAt) 37 = .ok (.getfield 241, 3) := by decide +kernel
theorem d_F_wasAt_40 : decode (z_c m_F_wasAt) 40 = .ok (.invokevirtual 353, 3) := by decide +kernel
theorem d_F_wasAt_43 : decode (z_c m_F_wasAt) 43 = .ok (.ifCond .eq 7, 3) := by decide +kernel
theorem d_F_wasAt_46 : decode (z_c m_F_wasAt) 46 = .ok (.iconst 1, 1) := by decide +kernel
theorem d_F_wasAt_47 : decode (z_c m_F_wasAt) 47 = .ok (.goto 4, 3) := by decide +kernel
theorem d_F_wasAt_50 : decode (z_c m_F_wasAt) 50 = .ok (.iconst 0, 1) := by decide +kernel
theorem d_F_wasAt_51 : decode (z_c m_F_wasAt) 51 = .ok (.invokevirtual 176, 3) := by decide +kernel
theorem d_F_wasAt_54 : decode (z_c m_F_wasAt) 54 = .ok (.ireturn, 1) := by decide +kernel
set_option maxRecDepth 8000 in
theorem b_F_wasAt_0 {X : z_X} {N : Nat} {σ g : z_G} {Q : z_P} {a1 a2 : Int} (hx : z_lay X N σ 0 z_SF z_RF) (h : z_O X 3 m_Ch_take [(2, 18), (0, a1), (0, a2)] N σ g (fun r0 g0 => (r0 = 0 ∨ r0 = 1) → (((r0 = 0) → Q (-1) (z_up g0 0 0 1)) ∧ (¬ (r0 = 0) → (z_O X 2 m_Vi_holds [(2, 29), (0, g0 18 3), (0, g0 18 4)] N σ g0 (fun r1 g1 => (r1 = 0 ∨ r1 = 1) → (((r1 = 0) → Q 0 (z_up g1 0 0 0)) ∧ (¬ (r1 = 0) → Q 1 (z_up g1 0 0 0))))))))) : z_O X 4 m_F_wasAt [(2, 0), (0, a1), (0, a2)] N σ g Q := by
  refine z_Oenter mi_F_wasAt rfl (fun _ => ?_)
  show z_U X 4 m_F_wasAt 0 [(0, (2, 0)), (1, (0, a1)), (2, (0, a2))] [] N σ g Q
  refine z_aload_n (i := 0) (c := 0) 0 d_F_wasAt_0 rfl rfl rfl ?_
  refine z_getr (c := 0) (kI := 8) (r2 := 18) d_F_wasAt_1 fd_F_chain fl_F_50 rfl rfl rfl (ks_F_0 hx) (kl_F_0 hx) (kr_F_0_8 hx) ?_
  refine z_iload_n (i := 1) 1 d_F_wasAt_4 rfl rfl ?_
  refine z_iload_n (i := 2) 2 d_F_wasAt_5 rfl rfl ?_
  refine z_cV (c := 18) (as := [(0, a1), (0, a2)]) (d' := 3) (st := []) d_F_wasAt_6 mi_Ch_take ml_F_237 mv_Ch_take se_Ch_take rfl rfl rfl rfl (ks_F_18 hx) rfl rfl (kl_F_18 hx) rfl rfl (z_Omono h (fun r0 g0 _ h hro => ?_))
  have h := h (z_b01 hro)
  have hzr0 := z_b01 hro
  show z_U X 4 m_F_wasAt 9 [(0, (2, 0)), (1, (0, a1)), (2, (0, a2))] [(0, r0)] N σ g0 Q
  refine z_if_ne (tgt := 18) d_F_wasAt_9 (by decide) (fun c1 => ?_) (fun c1 => ?_)
  · have h := h.2 c1
    refine z_aload_n (i := 0) (c := 0) 0 d_F_wasAt_18 rfl rfl rfl ?_
    refine z_aload_n (i := 0) (c := 0) 0 d_F_wasAt_19 rfl rfl rfl ?_
    refine z_getr (c := 0) (kI := 11) (r2 := 23) d_F_wasAt_20 fd_F_board fl_F_67 rfl rfl rfl (ks_F_0 hx) (kl_F_0 hx) (kr_F_0_11 hx) ?_
    refine z_getr (c := 23) (kI := 4) (r2 := 29) d_F_wasAt_23 fd_Bd_visits fl_F_210 rfl rfl rfl (ks_F_23 hx) (kl_F_23 hx) (kr_F_23_4 hx) ?_
    refine z_aload_n (i := 0) (c := 0) 0 d_F_wasAt_26 rfl rfl rfl ?_
    refine z_getr (c := 0) (kI := 8) (r2 := 18) d_F_wasAt_27 fd_F_chain fl_F_50 rfl rfl rfl (ks_F_0 hx) (kl_F_0 hx) (kr_F_0_8 hx) ?_
    refine z_geti (c := 18) (kI := 3) d_F_wasAt_30 fd_Ch_top fl_F_244 (Or.inl rfl) rfl rfl (ks_F_18 hx) (kl_F_18 hx) ?_
    refine z_aload_n (i := 0) (c := 0) 0 d_F_wasAt_33 rfl rfl rfl ?_
    refine z_getr (c := 0) (kI := 8) (r2 := 18) d_F_wasAt_34 fd_F_chain fl_F_50 rfl rfl rfl (ks_F_0 hx) (kl_F_0 hx) (kr_F_0_8 hx) ?_
    refine z_geti (c := 18) (kI := 4) d_F_wasAt_37 fd_Ch_bottom fl_F_241 (Or.inl rfl) rfl rfl (ks_F_18 hx) (kl_F_18 hx) ?_
    refine z_cV (c := 29) (as := [(0, g0 18 3), (0, g0 18 4)]) (d' := 2) (st := [(2, 0)]) d_F_wasAt_40 mi_Vi_holds ml_F_353 mv_Vi_holds se_Vi_holds rfl rfl rfl rfl (ks_F_29 hx) rfl rfl (kl_F_29 hx) rfl rfl (z_Omono h (fun r1 g1 _ h hro => ?_))
    have h := h (z_b01 hro)
    have hzr1 := z_b01 hro
    show z_U X 4 m_F_wasAt 43 [(0, (2, 0)), (1, (0, a1)), (2, (0, a2))] [(0, r1), (2, 0)] N σ g1 Q
    refine z_if_eq (tgt := 50) d_F_wasAt_43 (by decide) (fun c2 => ?_) (fun c2 => ?_)
    · have h := h.1 c2
      refine z_iconst (n := 0) d_F_wasAt_50 (by decide) ?_
      refine z_cV (c := 0) (as := [(0, 0)]) (d' := 1) (st := []) d_F_wasAt_51 mi_F_give ml_F_176 mv_F_give se_F_give rfl rfl rfl rfl (ks_F_0 hx) rfl rfl (kl_F_0 hx) rfl rfl (b_F_give_0 hx ?_)
      intro _
      show z_U X 4 m_F_wasAt 54 [(0, (2, 0)), (1, (0, a1)), (2, (0, a2))] [(0, 0)] N σ (z_up g1 0 0 0) Q
      exact z_iret d_F_wasAt_54 rfl (by decide) (by decide) ⟨rfl, rfl, h⟩
    · have h := h.2 c2
      refine z_iconst (n := 1) d_F_wasAt_46 (by decide) ?_
      refine z_goto (tgt := 51) d_F_wasAt_47 (by decide) ?_
      refine z_cV (c := 0) (as := [(0, 1)]) (d' := 1) (st := []) d_F_wasAt_51 mi_F_give ml_F_176 mv_F_give se_F_give rfl rfl rfl rfl (ks_F_0 hx) rfl rfl (kl_F_0 hx) rfl rfl (b_F_give_0 hx ?_)
      intro _
      show z_U X 4 m_F_wasAt 54 [(0, (2, 0)), (1, (0, a1)), (2, (0, a2))] [(0, 1)] N σ (z_up g1 0 0 0) Q
      exact z_iret d_F_wasAt_54 rfl (by decide) (by decide) ⟨rfl, rfl, h⟩
  · have h := h.1 c1
    refine z_aload_n (i := 0) (c := 0) 0 d_F_wasAt_12 rfl rfl rfl ?_
    refine z_iconst (n := 1) d_F_wasAt_13 (by decide) ?_
    refine z_cV (c := 0) (as := [(0, 1)]) (d' := 1) (st := []) d_F_wasAt_14 mi_F_none ml_F_121 mv_F_none se_F_none rfl rfl rfl rfl (ks_F_0 hx) rfl rfl (kl_F_0 hx) rfl rfl (b_F_none_0 hx ?_)
    intro _
    show z_U X 4 m_F_wasAt 17 [(0, (2, 0)), (1, (0, a1)), (2, (0, a2))] [(0, (-1))] N σ (z_up g0 0 0 1) Q
    exact z_iret d_F_wasAt_17 rfl (by decide) (by decide) ⟨rfl, rfl, h⟩
theorem d_F_weight_0 : decode (z_c m_F_weight) 0 = .ok (.aload_n 0, 1) := by decide +kernel
theorem d_F_weight_1 : decode (z_c m_F_weight) 1 = .ok (.getfield 50, 3) := by decide +kernel
theorem d_F_weight_4 : decode (z_c m_F_weight) 4 = .ok (.iload_n 1, 1) := by decide +kernel
theorem d_F_weight_5 : decode (z_c m_F_weight) 5 = .ok (.iload_n 2, 1) := by decide +kernel
theorem d_F_weight_6 : decode (z_c m_F_weight) 6 = .ok (.invokevirtual 237, 3) := by decide +kernel
theorem d_F_weight_9 : decode (z_c m_F_weight) 9 = .ok (.ifCond .ne 9, 3) := by decide +kernel
theorem d_F_weight_12 : decode (z_c m_F_weight) 12 = .ok (.aload_n 0, 1) := by decide +kernel
theorem d_F_weight_13 : decode (z_c m_F_weight) 13 = .ok (.iconst 1, 1) := by decide +kernel
theorem d_F_weight_14 : decode (z_c m_F_weight) 14 = .ok (.invokevirtual 121, 3) := by decide +kernel
theorem d_F_weight_17 : decode (z_c m_F_weight) 17 = .ok (.ireturn, 1) := by decide +kernel
theorem d_F_weight_18 : decode (z_c m_F_weight) 18 = .ok (.aload_n 0, 1) := by decide +kernel
theorem d_F_weight_19 : decode (z_c m_F_weight) 19 = .ok (.getfield 67, 3) := by decide +kernel
theorem d_F_weight_22 : decode (z_c m_F_weight) 22 = .ok (.getfield 167, 3) := by decide +kernel
theorem d_F_weight_25 : decode (z_c m_F_weight) 25 = .ok (.aload_n 0, 1) := by decide +kernel
theorem d_F_weight_26 : decode (z_c m_F_weight) 26 = .ok (.getfield 50, 3) := by decide +kernel
theorem d_F_weight_29 : decode (z_c m_F_weight) 29 = .ok (.getfield 244, 3) := by decide +kernel
theorem d_F_weight_32 : decode (z_c m_F_weight) 32 = .ok (.aload_n 0, 1) := by decide +kernel
theorem d_F_weight_33 : decode (z_c m_F_weight) 33 = .ok (.getfield 50, 3) := by decide +kernel
theorem d_F_weight_36 : decode (z_c m_F_weight) 36 = .ok (.getfield 241, 3) := by decide +kernel
theorem d_F_weight_39 : decode (z_c m_F_weight) 39 = .ok (.invokevirtual 362, 3) := by decide +kernel
theorem d_F_weight_42 : decode (z_c m_F_weight) 42 = .ok (.istore_n 3, 1) := by decide +kernel
theorem d_F_weight_43 : decode (z_c m_F_weight) 43 = .ok (.iload_n 3, 1) := by decide +kernel
theorem d_F_weight_44 : decode (z_c m_F_weight) 44 = .ok (.ifCond .ge 12, 3) := by decide +kernel
theorem d_F_weight_47 : decode (z_c m_F_weight) 47 = .ok (.aload_n 0, 1) := by decide +kernel
theorem d_F_weight_48 : decode (z_c m_F_weight) 48 = .ok (.bipush 6, 2) := by decide +kernel
theorem d_F_weight_50 : decode (z_c m_F_weight) 50 = .ok (.invokevirtual 121, 3) := by decide +kernel
theorem d_F_weight_53 : decode (z_c m_F_weight) 53 = .ok (.goto 19, 3) := by decide +kernel
theorem d_F_weight_56 : decode (z_c m_F_weight) 56 = .ok (.aload_n 0, 1) := by decide +kernel
theorem d_F_weight_57 : decode (z_c m_F_weight) 57 = .ok (.aload_n 0, 1) := by decide +kernel
theorem d_F_weight_58 : decode (z_c m_F_weight) 58 = .ok (.getfield 67, 3) := by decide +kernel
theorem d_F_weight_61 : decode (z_c m_F_weight) 61 = .ok (.getfield 167, 3) := by decide +kernel
theorem d_F_weight_64 : decode (z_c m_F_weight) 64 = .ok (.getfield 368, 3) := by decide +kernel
theorem d_F_weight_67 : decode (z_c m_F_weight) 67 = .ok (.iload_n 3, 1) := by decide +kernel
theorem d_F_weight_68 : decode (z_c m_F_weight) 68 = .ok (.iaload, 1) := by decide +kernel
theorem d_F_weight_69 : decode (z_c m_F_weight) 69 = .ok (.invokevirtual 176, 3) := by decide +kernel
theorem d_F_weight_72 : decode (z_c m_F_weight) 72 = .ok (.ireturn, 1) := by decide +kernel
set_option maxRecDepth 8000 in
theorem b_F_weight_0 {X : z_X} {N : Nat} {σ g : z_G} {Q : z_P} {a1 a2 : Int} (hx : z_lay X N σ 0 z_SF z_RF) (h : z_O X 3 m_Ch_take [(2, 18), (0, a1), (0, a2)] N σ g (fun r0 g0 => (r0 = 0 ∨ r0 = 1) → (((r0 = 0) → Q (-1) (z_up g0 0 0 1)) ∧ (¬ (r0 = 0) → (z_O X 1 m_Pi_find [(2, 25), (0, g0 18 3), (0, g0 18 4)] N σ g0 (fun r1 g1 => (((0 ≤ r1) → ((0 ≤ r1 ∧ r1 < 12) ∧ Q (g1 28 r1) (z_up g1 0 0 0))) ∧ (¬ (0 ≤ r1) → Q (-1) (z_up g1 0 0 6))))))))) : z_O X 4 m_F_weight [(2, 0), (0, a1), (0, a2)] N σ g Q := by
  refine z_Oenter mi_F_weight rfl (fun _ => ?_)
  show z_U X 4 m_F_weight 0 [(0, (2, 0)), (1, (0, a1)), (2, (0, a2))] [] N σ g Q
  refine z_aload_n (i := 0) (c := 0) 0 d_F_weight_0 rfl rfl rfl ?_
  refine z_getr (c := 0) (kI := 8) (r2 := 18) d_F_weight_1 fd_F_chain fl_F_50 rfl rfl rfl (ks_F_0 hx) (kl_F_0 hx) (kr_F_0_8 hx) ?_
  refine z_iload_n (i := 1) 1 d_F_weight_4 rfl rfl ?_
  refine z_iload_n (i := 2) 2 d_F_weight_5 rfl rfl ?_
  refine z_cV (c := 18) (as := [(0, a1), (0, a2)]) (d' := 3) (st := []) d_F_weight_6 mi_Ch_take ml_F_237 mv_Ch_take se_Ch_take rfl rfl rfl rfl (ks_F_18 hx) rfl rfl (kl_F_18 hx) rfl rfl (z_Omono h (fun r0 g0 _ h hro => ?_))
  have h := h (z_b01 hro)
  have hzr0 := z_b01 hro
  show z_U X 4 m_F_weight 9 [(0, (2, 0)), (1, (0, a1)), (2, (0, a2))] [(0, r0)] N σ g0 Q
  refine z_if_ne (tgt := 18) d_F_weight_9 (by decide) (fun c1 => ?_) (fun c1 => ?_)
  · have h := h.2 c1
    refine z_aload_n (i := 0) (c := 0) 0 d_F_weight_18 rfl rfl rfl ?_
    refine z_getr (c := 0) (kI := 11) (r2 := 23) d_F_weight_19 fd_F_board fl_F_67 rfl rfl rfl (ks_F_0 hx) (kl_F_0 hx) (kr_F_0_11 hx) ?_
    refine z_getr (c := 23) (kI := 3) (r2 := 25) d_F_weight_22 fd_Bd_pins fl_F_167 rfl rfl rfl (ks_F_23 hx) (kl_F_23 hx) (kr_F_23_3 hx) ?_
    refine z_aload_n (i := 0) (c := 0) 0 d_F_weight_25 rfl rfl rfl ?_
    refine z_getr (c := 0) (kI := 8) (r2 := 18) d_F_weight_26 fd_F_chain fl_F_50 rfl rfl rfl (ks_F_0 hx) (kl_F_0 hx) (kr_F_0_8 hx) ?_
    refine z_geti (c := 18) (kI := 3) d_F_weight_29 fd_Ch_top fl_F_244 (Or.inl rfl) rfl rfl (ks_F_18 hx) (kl_F_18 hx) ?_
    refine z_aload_n (i := 0) (c := 0) 0 d_F_weight_32 rfl rfl rfl ?_
    refine z_getr (c := 0) (kI := 8) (r2 := 18) d_F_weight_33 fd_F_chain fl_F_50 rfl rfl rfl (ks_F_0 hx) (kl_F_0 hx) (kr_F_0_8 hx) ?_
    refine z_geti (c := 18) (kI := 4) d_F_weight_36 fd_Ch_bottom fl_F_241 (Or.inl rfl) rfl rfl (ks_F_18 hx) (kl_F_18 hx) ?_
    refine z_cV (c := 25) (as := [(0, g0 18 3), (0, g0 18 4)]) (d' := 1) (st := []) d_F_weight_39 mi_Pi_find ml_F_362 mv_Pi_find se_Pi_find rfl rfl rfl rfl (ks_F_25 hx) rfl rfl (kl_F_25 hx) rfl rfl (z_Omono h (fun r1 g1 _ h hro => ?_))
    show z_U X 4 m_F_weight 42 [(0, (2, 0)), (1, (0, a1)), (2, (0, a2))] [(0, r1)] N σ g1 Q
    refine z_istore_n (i := 3) (ls' := [(3, (0, r1)), (0, (2, 0)), (1, (0, a1)), (2, (0, a2))]) d_F_weight_42 rfl rfl rfl ?_
    refine z_iload_n (i := 3) 0 d_F_weight_43 rfl rfl ?_
    refine z_if_ge (tgt := 56) d_F_weight_44 (by decide) (fun c2 => ?_) (fun c2 => ?_)
    · have h := h.1 c2
      refine z_aload_n (i := 0) (c := 0) 1 d_F_weight_56 rfl rfl rfl ?_
      refine z_aload_n (i := 0) (c := 0) 1 d_F_weight_57 rfl rfl rfl ?_
      refine z_getr (c := 0) (kI := 11) (r2 := 23) d_F_weight_58 fd_F_board fl_F_67 rfl rfl rfl (ks_F_0 hx) (kl_F_0 hx) (kr_F_0_11 hx) ?_
      refine z_getr (c := 23) (kI := 3) (r2 := 25) d_F_weight_61 fd_Bd_pins fl_F_167 rfl rfl rfl (ks_F_23 hx) (kl_F_23 hx) (kr_F_23_3 hx) ?_
      refine z_getr (c := 25) (kI := 2) (r2 := 28) d_F_weight_64 fd_Pi_weights fl_F_368 rfl rfl rfl (ks_F_25 hx) (kl_F_25 hx) (kr_F_25_2 hx) ?_
      refine z_iload_n (i := 3) 0 d_F_weight_67 rfl rfl ?_
      obtain ⟨c3, h⟩ := h
      refine z_iald (c := 28) (m := 12) d_F_weight_68 rfl (ks_F_28 hx) (kl_F_28 hx) rfl (by decide) c3 ?_
      refine z_cV (c := 0) (as := [(0, g1 28 r1)]) (d' := 1) (st := []) d_F_weight_69 mi_F_give ml_F_176 mv_F_give se_F_give rfl rfl rfl rfl (ks_F_0 hx) rfl rfl (kl_F_0 hx) rfl rfl (b_F_give_0 hx ?_)
      intro _
      show z_U X 4 m_F_weight 72 [(3, (0, r1)), (0, (2, 0)), (1, (0, a1)), (2, (0, a2))] [(0, g1 28 r1)] N σ (z_up g1 0 0 0) Q
      exact z_iret d_F_weight_72 rfl (by decide) (by decide) ⟨rfl, rfl, h⟩
    · have h := h.2 c2
      refine z_aload_n (i := 0) (c := 0) 1 d_F_weight_47 rfl rfl rfl ?_
      refine z_bipush (n := 6) d_F_weight_48 (by decide) (by decide) ?_
      refine z_cV (c := 0) (as := [(0, 6)]) (d' := 1) (st := []) d_F_weight_50 mi_F_none ml_F_121 mv_F_none se_F_none rfl rfl rfl rfl (ks_F_0 hx) rfl rfl (kl_F_0 hx) rfl rfl (b_F_none_0 hx ?_)
      intro _
      show z_U X 4 m_F_weight 53 [(3, (0, r1)), (0, (2, 0)), (1, (0, a1)), (2, (0, a2))] [(0, (-1))] N σ (z_up g1 0 0 6) Q
      refine z_goto (tgt := 72) d_F_weight_53 (by decide) ?_
      exact z_iret d_F_weight_72 rfl (by decide) (by decide) ⟨rfl, rfl, h⟩
  · have h := h.1 c1
    refine z_aload_n (i := 0) (c := 0) 0 d_F_weight_12 rfl rfl rfl ?_
    refine z_iconst (n := 1) d_F_weight_13 (by decide) ?_
    refine z_cV (c := 0) (as := [(0, 1)]) (d' := 1) (st := []) d_F_weight_14 mi_F_none ml_F_121 mv_F_none se_F_none rfl rfl rfl rfl (ks_F_0 hx) rfl rfl (kl_F_0 hx) rfl rfl (b_F_none_0 hx ?_)
    intro _
    show z_U X 4 m_F_weight 17 [(0, (2, 0)), (1, (0, a1)), (2, (0, a2))] [(0, (-1))] N σ (z_up g0 0 0 1) Q
    exact z_iret d_F_weight_17 rfl (by decide) (by decide) ⟨rfl, rfl, h⟩
theorem d_F_whyNoPlace_0 : decode (z_c m_F_whyNoPlace) 0 = .ok (.aload_n 0, 1) := by decide +kernel
theorem d_F_whyNoPlace_1 : decode (z_c m_F_whyNoPlace) 1 = .ok (.getfield 23, 3) := by decide +kernel
theorem d_F_whyNoPlace_4 : decode (z_c m_F_whyNoPlace) 4 = .ok (.iload_n 1, 1) := by decide +kernel
theorem d_F_whyNoPlace_5 : decode (z_c m_F_whyNoPlace) 5 = .ok (.invokevirtual 95, 3) := by decide +kernel
theorem d_F_whyNoPlace_8 : decode (z_c m_F_whyNoPlace) 8 = .ok (.ifCond .ne 5, 3) := by decide +kernel
theorem d_F_whyNoPlace_11 : decode (z_c m_F_whyNoPlace) 11 = .ok (.iconst 1, 1) := by decide +kernel
theorem d_F_whyNoPlace_12 : decode (z_c m_F_whyNoPlace) 12 = .ok (.ireturn, 1) := by decide +kernel
theorem d_F_whyNoPlace_13 : decode (z_c m_F_whyNoPlace) 13 = .ok (.aload_n 0, 1) := by decide +kernel
theorem d_F_whyNoPlace_14 : decode (z_c m_F_whyNoPlace) 14 = .ok (.getfield 23, 3) := by decide +kernel
theorem d_F_whyNoPlace_17 : decode (z_c m_F_whyNoPlace) 17 = .ok (.iload_n 1, 1) := by decide +kernel
theorem d_F_whyNoPlace_18 : decode (z_c m_F_whyNoPlace) 18 = .ok (.invokevirtual 129, 3) := by decide +kernel
theorem d_F_whyNoPlace_21 : decode (z_c m_F_whyNoPlace) 21 = .ok (.ifCond .eq 5, 3) := by decide +kernel
theorem d_F_whyNoPlace_24 : decode (z_c m_F_whyNoPlace) 24 = .ok (.iconst 2, 1) := by decide +kernel
theorem d_F_whyNoPlace_25 : decode (z_c m_F_whyNoPlace) 25 = .ok (.ireturn, 1) := by decide +kernel
theorem d_F_whyNoPlace_26 : decode (z_c m_F_whyNoPlace) 26 = .ok (.iload_n 2, 1) := by decide +kernel
theorem d_F_whyNoPlace_27 : decode (z_c m_F_whyNoPlace) 27 = .ok (.ifCond .lt 16, 3) := by decide +kernel
theorem d_F_whyNoPlace_30 : decode (z_c m_F_whyNoPlace) 30 = .ok (.aload_n 0, 1) := by decide +kernel
theorem d_F_whyNoPlace_31 : decode (z_c m_F_whyNoPlace) 31 = .ok (.getfield 23, 3) := by decide +kernel
theorem d_F_whyNoPlace_34 : decode (z_c m_F_whyNoPlace) 34 = .ok (.iload_n 1, 1) := by decide +kernel
theorem d_F_whyNoPlace_35 : decode (z_c m_F_whyNoPlace) 35 = .ok (.iload_n 2, 1) := by decide +kernel
theorem d_F_whyNoPlace_36 : decode (z_c m_F_whyNoPlace) 36 = .ok (.iconst 1, 1) := by decide +kernel
theorem d_F_whyNoPlace_37 : decode (z_c m_F_whyNoPlace) 37 = .ok (.invokevirtual 135, 3) := by decide +kernel
theorem d_F_whyNoPlace_40 : decode (z_c m_F_whyNoPlace) 40 = .ok (.ifCond .ne 7, 3) := by decide +kernel
theorem d_F_whyNoPlace_43 : decode (z_c m_F_whyNoPlace) 43 = .ok (.iconst 3, 1) := by decide +kernel
theorem d_F_whyNoPlace_44 : decode (z_c m_F_whyNoPlace) 44 = .ok (.goto 4, 3) := by decide +kernel
theorem d_F_whyNoPlace_47 : decode (z_c m_F_whyNoPlace) 47 = .ok (.iconst 0, 1) := by decide +kernel
theorem d_F_whyNoPlace_48 : decode (z_c m_F_whyNoPlace) 48 = .ok (.ireturn, 1) := by decide +kernel
set_option maxRecDepth 8000 in
theorem b_F_whyNoPlace_0 {X : z_X} {N : Nat} {σ g : z_G} {Q : z_P} {a1 a2 : Int} (hx : z_lay X N σ 0 z_SF z_RF) (h : ((a1 < 0) → Q 1 g) ∧ (¬ (a1 < 0) → (((4 ≤ a1) → Q 1 g) ∧ (¬ (4 ≤ a1) → ((0 ≤ a1 ∧ a1 < 4) ∧ ((((g 8 a1) = (-1)) → Q 2 g) ∧ (¬ ((g 8 a1) = (-1)) → (((a2 < 0) → Q 3 g) ∧ (¬ (a2 < 0) → (z_O X 3 m_Tr_hasRoom [(2, 1), (0, a1), (0, a2), (0, 1)] N σ g (fun r0 g0 => (r0 = 0 ∨ r0 = 1) → (((r0 = 0) → Q 3 g0) ∧ (¬ (r0 = 0) → Q 0 g0))))))))))))) : z_O X 4 m_F_whyNoPlace [(2, 0), (0, a1), (0, a2)] N σ g Q := by
  refine z_Oenter mi_F_whyNoPlace rfl (fun _ => ?_)
  show z_U X 4 m_F_whyNoPlace 0 [(0, (2, 0)), (1, (0, a1)), (2, (0, a2))] [] N σ g Q
  refine z_aload_n (i := 0) (c := 0) 0 d_F_whyNoPlace_0 rfl rfl rfl ?_
  refine z_getr (c := 0) (kI := 3) (r2 := 1) d_F_whyNoPlace_1 fd_F_trays fl_F_23 rfl rfl rfl (ks_F_0 hx) (kl_F_0 hx) (kr_F_0_3 hx) ?_
  refine z_iload_n (i := 1) 1 d_F_whyNoPlace_4 rfl rfl ?_
  refine z_cV (c := 1) (as := [(0, a1)]) (d' := 1) (st := []) d_F_whyNoPlace_5 mi_Tr_isTray ml_F_95 mv_Tr_isTray se_Tr_isTray rfl rfl rfl rfl (ks_F_1 hx) rfl rfl (kl_F_1 hx) rfl rfl (b_Tr_isTray_0 hx ?_)
  refine ⟨fun c1 => ?_, fun c1 => ?_⟩
  · have h := h.1 c1
    intro _
    show z_U X 4 m_F_whyNoPlace 8 [(0, (2, 0)), (1, (0, a1)), (2, (0, a2))] [(0, 0)] N σ g Q
    refine z_if_ne (tgt := 13) d_F_whyNoPlace_8 (by decide) (fun c => absurd (by decide) c) (fun _ => ?_)
    refine z_iconst (n := 1) d_F_whyNoPlace_11 (by decide) ?_
    exact z_iret d_F_whyNoPlace_12 rfl (by decide) (by decide) ⟨rfl, rfl, h⟩
  · have h := h.2 c1
    refine ⟨fun c2 => ?_, fun c2 => ?_⟩
    · have h := h.1 c2
      intro _
      show z_U X 4 m_F_whyNoPlace 8 [(0, (2, 0)), (1, (0, a1)), (2, (0, a2))] [(0, 0)] N σ g Q
      refine z_if_ne (tgt := 13) d_F_whyNoPlace_8 (by decide) (fun c => absurd (by decide) c) (fun _ => ?_)
      refine z_iconst (n := 1) d_F_whyNoPlace_11 (by decide) ?_
      exact z_iret d_F_whyNoPlace_12 rfl (by decide) (by decide) ⟨rfl, rfl, h⟩
    · have h := h.2 c2
      intro _
      show z_U X 4 m_F_whyNoPlace 8 [(0, (2, 0)), (1, (0, a1)), (2, (0, a2))] [(0, 1)] N σ g Q
      refine z_if_ne (tgt := 13) d_F_whyNoPlace_8 (by decide) (fun _ => ?_) (fun c => absurd c (by decide))
      refine z_aload_n (i := 0) (c := 0) 0 d_F_whyNoPlace_13 rfl rfl rfl ?_
      refine z_getr (c := 0) (kI := 3) (r2 := 1) d_F_whyNoPlace_14 fd_F_trays fl_F_23 rfl rfl rfl (ks_F_0 hx) (kl_F_0 hx) (kr_F_0_3 hx) ?_
      refine z_iload_n (i := 1) 1 d_F_whyNoPlace_17 rfl rfl ?_
      refine z_cV (c := 1) (as := [(0, a1)]) (d' := 2) (st := []) d_F_whyNoPlace_18 mi_Tr_isMissing ml_F_129 mv_Tr_isMissing se_Tr_isMissing rfl rfl rfl rfl (ks_F_1 hx) rfl rfl (kl_F_1 hx) rfl rfl (b_Tr_isMissing_0 hx ?_)
      refine ⟨fun c => absurd c c1, fun _ => ?_⟩
      refine ⟨fun c => absurd c c2, fun _ => ?_⟩
      obtain ⟨c3, h⟩ := h
      refine ⟨c3, ?_⟩
      refine ⟨fun c4 => ?_, fun c4 => ?_⟩
      · have h := h.1 c4
        intro _
        show z_U X 4 m_F_whyNoPlace 21 [(0, (2, 0)), (1, (0, a1)), (2, (0, a2))] [(0, 1)] N σ g Q
        refine z_if_eq (tgt := 26) d_F_whyNoPlace_21 (by decide) (fun c => absurd c (by decide)) (fun _ => ?_)
        refine z_iconst (n := 2) d_F_whyNoPlace_24 (by decide) ?_
        exact z_iret d_F_whyNoPlace_25 rfl (by decide) (by decide) ⟨rfl, rfl, h⟩
      · have h := h.2 c4
        intro _
        show z_U X 4 m_F_whyNoPlace 21 [(0, (2, 0)), (1, (0, a1)), (2, (0, a2))] [(0, 0)] N σ g Q
        refine z_if_eq (tgt := 26) d_F_whyNoPlace_21 (by decide) (fun _ => ?_) (fun c => absurd (by decide) c)
        refine z_iload_n (i := 2) 2 d_F_whyNoPlace_26 rfl rfl ?_
        refine z_if_lt (tgt := 43) d_F_whyNoPlace_27 (by decide) (fun c5 => ?_) (fun c5 => ?_)
        · have h := h.1 c5
          refine z_iconst (n := 3) d_F_whyNoPlace_43 (by decide) ?_
          refine z_goto (tgt := 48) d_F_whyNoPlace_44 (by decide) ?_
          exact z_iret d_F_whyNoPlace_48 rfl (by decide) (by decide) ⟨rfl, rfl, h⟩
        · have h := h.2 c5
          refine z_aload_n (i := 0) (c := 0) 0 d_F_whyNoPlace_30 rfl rfl rfl ?_
          refine z_getr (c := 0) (kI := 3) (r2 := 1) d_F_whyNoPlace_31 fd_F_trays fl_F_23 rfl rfl rfl (ks_F_0 hx) (kl_F_0 hx) (kr_F_0_3 hx) ?_
          refine z_iload_n (i := 1) 1 d_F_whyNoPlace_34 rfl rfl ?_
          refine z_iload_n (i := 2) 2 d_F_whyNoPlace_35 rfl rfl ?_
          refine z_iconst (n := 1) d_F_whyNoPlace_36 (by decide) ?_
          refine z_cV (c := 1) (as := [(0, a1), (0, a2), (0, 1)]) (d' := 3) (st := []) d_F_whyNoPlace_37 mi_Tr_hasRoom ml_F_135 mv_Tr_hasRoom se_Tr_hasRoom rfl rfl rfl rfl (ks_F_1 hx) rfl rfl (kl_F_1 hx) rfl rfl (z_Omono h (fun r0 g0 _ h hro => ?_))
          have h := h (z_b01 hro)
          have hzr0 := z_b01 hro
          show z_U X 4 m_F_whyNoPlace 40 [(0, (2, 0)), (1, (0, a1)), (2, (0, a2))] [(0, r0)] N σ g0 Q
          refine z_if_ne (tgt := 47) d_F_whyNoPlace_40 (by decide) (fun c6 => ?_) (fun c6 => ?_)
          · have h := h.2 c6
            refine z_iconst (n := 0) d_F_whyNoPlace_47 (by decide) ?_
            exact z_iret d_F_whyNoPlace_48 rfl (by decide) (by decide) ⟨rfl, rfl, h⟩
          · have h := h.1 c6
            refine z_iconst (n := 3) d_F_whyNoPlace_43 (by decide) ?_
            refine z_goto (tgt := 48) d_F_whyNoPlace_44 (by decide) ?_
            exact z_iret d_F_whyNoPlace_48 rfl (by decide) (by decide) ⟨rfl, rfl, h⟩
theorem d_F_whyNotOfTree_0 : decode (z_c m_F_whyNotOfTree) 0 = .ok (.aload_n 0, 1) := by decide +kernel
theorem d_F_whyNotOfTree_1 : decode (z_c m_F_whyNotOfTree) 1 = .ok (.getfield 50, 3) := by decide +kernel
theorem d_F_whyNotOfTree_4 : decode (z_c m_F_whyNotOfTree) 4 = .ok (.iload_n 1, 1) := by decide +kernel
theorem d_F_whyNotOfTree_5 : decode (z_c m_F_whyNotOfTree) 5 = .ok (.iload_n 2, 1) := by decide +kernel
theorem d_F_whyNotOfTree_6 : decode (z_c m_F_whyNotOfTree) 6 = .ok (.invokevirtual 237, 3) := by decide +kernel
theorem d_F_whyNotOfTree_9 : decode (z_c m_F_whyNotOfTree) 9 = .ok (.ifCond .ne 5, 3) := by decide +kernel
theorem d_F_whyNotOfTree_12 : decode (z_c m_F_whyNotOfTree) 12 = .ok (.iconst 1, 1) := by decide +kernel
theorem d_F_whyNotOfTree_13 : decode (z_c m_F_whyNotOfTree) 13 = .ok (.ireturn, 1) := by decide +kernel
theorem d_F_whyNotOfTree_14 : decode (z_c m_F_whyNotOfTree) 14 = .ok (.aload_n 0, 1) := by decide +kernel
theorem d_F_whyNotOfTree_15 : decode (z_c m_F_whyNotOfTree) 15 = .ok (.getfield 50, 3) := by decide +kernel
theorem d_F_whyNotOfTree_18 : decode (z_c m_F_whyNotOfTree) 18 = .ok (.invokevirtual 338, 3) := by decide +kernel
theorem d_F_whyNotOfTree_21 : decode (z_c m_F_whyNotOfTree) 21 = .ok (.ifCond .eq 7, 3) := by decide +kernel
theorem d_F_whyNotOfTree_24 : decode (z_c m_F_whyNotOfTree) 24 = .ok (.iconst 0, 1) := by decide +kernel
theorem d_F_whyNotOfTree_25 : decode (z_c m_F_whyNotOfTree) 25 = .ok (.goto 5, 3) := by decide +kernel
theorem d_F_whyNotOfTree_28 : decode (z_c m_F_whyNotOfTree) 28 = .ok (.bipush 7, 2) := by decide +kernel
theorem d_F_whyNotOfTree_30 : decode (z_c m_F_whyNotOfTree) 30 = .ok (.ireturn, 1) := by decide +kernel
set_option maxRecDepth 8000 in
theorem b_F_whyNotOfTree_0 {X : z_X} {N : Nat} {σ g : z_G} {Q : z_P} {a1 a2 : Int} (hx : z_lay X N σ 0 z_SF z_RF) (h : z_O X 3 m_Ch_take [(2, 18), (0, a1), (0, a2)] N σ g (fun r0 g0 => (r0 = 0 ∨ r0 = 1) → (((r0 = 0) → Q 1 g0) ∧ (¬ (r0 = 0) → ((((g0 18 4) ≤ 1) → Q 7 g0) ∧ (¬ ((g0 18 4) ≤ 1) → Q 0 g0)))))) : z_O X 4 m_F_whyNotOfTree [(2, 0), (0, a1), (0, a2)] N σ g Q := by
  refine z_Oenter mi_F_whyNotOfTree rfl (fun _ => ?_)
  show z_U X 4 m_F_whyNotOfTree 0 [(0, (2, 0)), (1, (0, a1)), (2, (0, a2))] [] N σ g Q
  refine z_aload_n (i := 0) (c := 0) 0 d_F_whyNotOfTree_0 rfl rfl rfl ?_
  refine z_getr (c := 0) (kI := 8) (r2 := 18) d_F_whyNotOfTree_1 fd_F_chain fl_F_50 rfl rfl rfl (ks_F_0 hx) (kl_F_0 hx) (kr_F_0_8 hx) ?_
  refine z_iload_n (i := 1) 1 d_F_whyNotOfTree_4 rfl rfl ?_
  refine z_iload_n (i := 2) 2 d_F_whyNotOfTree_5 rfl rfl ?_
  refine z_cV (c := 18) (as := [(0, a1), (0, a2)]) (d' := 3) (st := []) d_F_whyNotOfTree_6 mi_Ch_take ml_F_237 mv_Ch_take se_Ch_take rfl rfl rfl rfl (ks_F_18 hx) rfl rfl (kl_F_18 hx) rfl rfl (z_Omono h (fun r0 g0 _ h hro => ?_))
  have h := h (z_b01 hro)
  have hzr0 := z_b01 hro
  show z_U X 4 m_F_whyNotOfTree 9 [(0, (2, 0)), (1, (0, a1)), (2, (0, a2))] [(0, r0)] N σ g0 Q
  refine z_if_ne (tgt := 14) d_F_whyNotOfTree_9 (by decide) (fun c1 => ?_) (fun c1 => ?_)
  · have h := h.2 c1
    refine z_aload_n (i := 0) (c := 0) 0 d_F_whyNotOfTree_14 rfl rfl rfl ?_
    refine z_getr (c := 0) (kI := 8) (r2 := 18) d_F_whyNotOfTree_15 fd_F_chain fl_F_50 rfl rfl rfl (ks_F_0 hx) (kl_F_0 hx) (kr_F_0_8 hx) ?_
    refine z_cV (c := 18) (as := []) (d' := 1) (st := []) d_F_whyNotOfTree_18 mi_Ch_isOfTree ml_F_338 mv_Ch_isOfTree se_Ch_isOfTree rfl rfl rfl rfl (ks_F_18 hx) rfl rfl (kl_F_18 hx) rfl rfl (b_Ch_isOfTree_0 (ky_F_18 hx) ?_)
    refine ⟨fun c2 => ?_, fun c2 => ?_⟩
    · have h := h.1 c2
      intro _
      show z_U X 4 m_F_whyNotOfTree 21 [(0, (2, 0)), (1, (0, a1)), (2, (0, a2))] [(0, 0)] N σ g0 Q
      refine z_if_eq (tgt := 28) d_F_whyNotOfTree_21 (by decide) (fun _ => ?_) (fun c => absurd (by decide) c)
      refine z_bipush (n := 7) d_F_whyNotOfTree_28 (by decide) (by decide) ?_
      exact z_iret d_F_whyNotOfTree_30 rfl (by decide) (by decide) ⟨rfl, rfl, h⟩
    · have h := h.2 c2
      intro _
      show z_U X 4 m_F_whyNotOfTree 21 [(0, (2, 0)), (1, (0, a1)), (2, (0, a2))] [(0, 1)] N σ g0 Q
      refine z_if_eq (tgt := 28) d_F_whyNotOfTree_21 (by decide) (fun c => absurd c (by decide)) (fun _ => ?_)
      refine z_iconst (n := 0) d_F_whyNotOfTree_24 (by decide) ?_
      refine z_goto (tgt := 30) d_F_whyNotOfTree_25 (by decide) ?_
      exact z_iret d_F_whyNotOfTree_30 rfl (by decide) (by decide) ⟨rfl, rfl, h⟩
  · have h := h.1 c1
    refine z_iconst (n := 1) d_F_whyNotOfTree_12 (by decide) ?_
    exact z_iret d_F_whyNotOfTree_13 rfl (by decide) (by decide) ⟨rfl, rfl, h⟩

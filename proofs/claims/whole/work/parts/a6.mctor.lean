theorem d_M_init_0 : decode (z_c m_M_init) 0 = .ok (.aload_n 0, 1) := by decide +kernel
theorem d_M_init_1 : decode (z_c m_M_init) 1 = .ok (.invokespecial 1, 3) := by decide +kernel
theorem d_M_init_4 : decode (z_c m_M_init) 4 = .ok (.aload_n 0, 1) := by decide +kernel
theorem d_M_init_5 : decode (z_c m_M_init) 5 = .ok (.sipush 3296, 3) := by decide +kernel
theorem d_M_init_8 : decode (z_c m_M_init) 8 = .ok (.newarray .int, 2) := by decide +kernel
theorem d_M_init_10 : decode (z_c m_M_init) 10 = .ok (.putfield 7, 3) := by decide +kernel
theorem d_M_init_13 : decode (z_c m_M_init) 13 = .ok (.aload_n 0, 1) := by decide +kernel
theorem d_M_init_14 : decode (z_c m_M_init) 14 = .ok (.lconst 1, 1) := by decide +kernel
theorem d_M_init_15 : decode (z_c m_M_init) 15 = .ok (.putfield 13, 3) := by decide +kernel
theorem d_M_init_18 : decode (z_c m_M_init) 18 = .ok (.aload_n 0, 1) := by decide +kernel
theorem d_M_init_19 : decode (z_c m_M_init) 19 = .ok (.iconst 4, 1) := by decide +kernel
theorem d_M_init_20 : decode (z_c m_M_init) 20 = .ok (.newarray .int, 2) := by decide +kernel
theorem d_M_init_22 : decode (z_c m_M_init) 22 = .ok (.putfield 17, 3) := by decide +kernel
theorem d_M_init_25 : decode (z_c m_M_init) 25 = .ok (.aload_n 0, 1) := by decide +kernel
theorem d_M_init_26 : decode (z_c m_M_init) 26 = .ok (.iconst 4, 1) := by decide +kernel
theorem d_M_init_27 : decode (z_c m_M_init) 27 = .ok (.newarray .int, 2) := by decide +kernel
theorem d_M_init_29 : decode (z_c m_M_init) 29 = .ok (.dup, 1) := by decide +kernel
theorem d_M_init_30 : decode (z_c m_M_init) 30 = .ok (.iconst 0, 1) := by decide +kernel
theorem d_M_init_31 : decode (z_c m_M_init) 31 = .ok (.iconst (-1), 1) := by decide +kernel
theorem d_M_init_32 : decode (z_c m_M_init) 32 = .ok (.iastore, 1) := by decide +kernel
theorem d_M_init_33 : decode (z_c m_M_init) 33 = .ok (.dup, 1) := by decide +kernel
theorem d_M_init_34 : decode (z_c m_M_init) 34 = .ok (.iconst 1, 1) := by decide +kernel
theorem d_M_init_35 : decode (z_c m_M_init) 35 = .ok (.iconst (-1), 1) := by decide +kernel
theorem d_M_init_36 : decode (z_c m_M_init) 36 = .ok (.iastore, 1) := by decide +kernel
theorem d_M_init_37 : decode (z_c m_M_init) 37 = .ok (.dup, 1) := by decide +kernel
theorem d_M_init_38 : decode (z_c m_M_init) 38 = .ok (.iconst 2, 1) := by decide +kernel
theorem d_M_init_39 : decode (z_c m_M_init) 39 = .ok (.iconst (-1), 1) := by decide +kernel
theorem d_M_init_40 : decode (z_c m_M_init) 40 = .ok (.iastore, 1) := by decide +kernel
theorem d_M_init_41 : decode (z_c m_M_init) 41 = .ok (.dup, 1) := by decide +kernel
theorem d_M_init_42 : decode (z_c m_M_init) 42 = .ok (.iconst 3, 1) := by decide +kernel
theorem d_M_init_43 : decode (z_c m_M_init) 43 = .ok (.iconst (-1), 1) := by decide +kernel
theorem d_M_init_44 : decode (z_c m_M_init) 44 = .ok (.iastore, 1) := by decide +kernel
theorem d_M_init_45 : decode (z_c m_M_init) 45 = .ok (.putfield 20, 3) := by decide +kernel
theorem d_M_init_48 : decode (z_c m_M_init) 48 = .ok (.aload_n 0, 1) := by decide +kernel
theorem d_M_init_49 : decode (z_c m_M_init) 49 = .ok (.sipush 240, 3) := by decide +kernel
theorem d_M_init_52 : decode (z_c m_M_init) 52 = .ok (.newarray .long, 2) := by decide +kernel
theorem d_M_init_54 : decode (z_c m_M_init) 54 = .ok (.putfield 23, 3) := by decide +kernel
theorem d_M_init_57 : decode (z_c m_M_init) 57 = .ok (.aload_n 0, 1) := by decide +kernel
theorem d_M_init_58 : decode (z_c m_M_init) 58 = .ok (.sipush 900, 3) := by decide +kernel
theorem d_M_init_61 : decode (z_c m_M_init) 61 = .ok (.newarray .byte, 2) := by decide +kernel
theorem d_M_init_63 : decode (z_c m_M_init) 63 = .ok (.putfield 27, 3) := by decide +kernel
theorem d_M_init_66 : decode (z_c m_M_init) 66 = .ok (.aload_n 0, 1) := by decide +kernel
theorem d_M_init_67 : decode (z_c m_M_init) 67 = .ok (.sipush 900, 3) := by decide +kernel
theorem d_M_init_70 : decode (z_c m_M_init) 70 = .ok (.newarray .byte, 2) := by decide +kernel
theorem d_M_init_72 : decode (z_c m_M_init) 72 = .ok (.putfield 31, 3) := by decide +kernel
theorem d_M_init_75 : decode (z_c m_M_init) 75 = .ok (.aload_n 0, 1) := by decide +kernel
theorem d_M_init_76 : decode (z_c m_M_init) 76 = .ok (.iconst (-1), 1) := by decide +kernel
theorem d_M_init_77 : decode (z_c m_M_init) 77 = .ok (.putfield 34, 3) := by decide +kernel
theorem d_M_init_80 : decode (z_c m_M_init) 80 = .ok (.aload_n 0, 1) := by decide +kernel
theorem d_M_init_81 : decode (z_c m_M_init) 81 = .ok (.iconst (-1), 1) := by decide +kernel
theorem d_M_init_82 : decode (z_c m_M_init) 82 = .ok (.putfield 38, 3) := by decide +kernel
theorem d_M_init_85 : decode (z_c m_M_init) 85 = .ok (.aload_n 0, 1) := by decide +kernel
theorem d_M_init_86 : decode (z_c m_M_init) 86 = .ok (.iconst 3, 1) := by decide +kernel
theorem d_M_init_87 : decode (z_c m_M_init) 87 = .ok (.newarray .int, 2) := by decide +kernel
theorem d_M_init_89 : decode (z_c m_M_init) 89 = .ok (.putfield 41, 3) := by decide +kernel
theorem d_M_init_92 : decode (z_c m_M_init) 92 = .ok (.aload_n 0, 1) := by decide +kernel
theorem d_M_init_93 : decode (z_c m_M_init) 93 = .ok (.sipush 12233, 3) := by decide +kernel
theorem d_M_init_96 : decode (z_c m_M_init) 96 = .ok (.newarray .int, 2) := by decide +kernel
theorem d_M_init_98 : decode (z_c m_M_init) 98 = .ok (.putfield 44, 3) := by decide +kernel
theorem d_M_init_101 : decode (z_c m_M_init) 101 = .ok (.aload_n 0, 1) := by decide +kernel
theorem d_M_init_102 : decode (z_c m_M_init) 102 = .ok (.sipush 12233, 3) := by decide +kernel
theorem d_M_init_105 : decode (z_c m_M_init) 105 = .ok (.newarray .int, 2) := by decide +kernel
theorem d_M_init_107 : decode (z_c m_M_init) 107 = .ok (.putfield 47, 3) := by decide +kernel
theorem d_M_init_110 : decode (z_c m_M_init) 110 = .ok (.aload_n 0, 1) := by decide +kernel
theorem d_M_init_111 : decode (z_c m_M_init) 111 = .ok (.bipush 40, 2) := by decide +kernel
theorem d_M_init_113 : decode (z_c m_M_init) 113 = .ok (.newarray .int, 2) := by decide +kernel
theorem d_M_init_115 : decode (z_c m_M_init) 115 = .ok (.putfield 50, 3) := by decide +kernel
theorem d_M_init_118 : decode (z_c m_M_init) 118 = .ok (.aload_n 0, 1) := by decide +kernel
theorem d_M_init_119 : decode (z_c m_M_init) 119 = .ok (.sipush 1024, 3) := by decide +kernel
theorem d_M_init_122 : decode (z_c m_M_init) 122 = .ok (.newarray .int, 2) := by decide +kernel
theorem d_M_init_124 : decode (z_c m_M_init) 124 = .ok (.putfield 53, 3) := by decide +kernel
theorem d_M_init_127 : decode (z_c m_M_init) 127 = .ok (.aload_n 0, 1) := by decide +kernel
theorem d_M_init_128 : decode (z_c m_M_init) 128 = .ok (.sipush 1024, 3) := by decide +kernel
theorem d_M_init_131 : decode (z_c m_M_init) 131 = .ok (.newarray .int, 2) := by decide +kernel
theorem d_M_init_133 : decode (z_c m_M_init) 133 = .ok (.putfield 56, 3) := by decide +kernel
theorem d_M_init_136 : decode (z_c m_M_init) 136 = .ok (.aload_n 0, 1) := by decide +kernel
theorem d_M_init_137 : decode (z_c m_M_init) 137 = .ok (.sipush 1024, 3) := by decide +kernel
theorem d_M_init_140 : decode (z_c m_M_init) 140 = .ok (.newarray .int, 2) := by decide +kernel
theorem d_M_init_142 : decode (z_c m_M_init) 142 = .ok (.putfield 59, 3) := by decide +kernel
theorem d_M_init_145 : decode (z_c m_M_init) 145 = .ok (.aload_n 0, 1) := by decide +kernel
theorem d_M_init_146 : decode (z_c m_M_init) 146 = .ok (.bipush 13, 2) := by decide +kernel
theorem d_M_init_148 : decode (z_c m_M_init) 148 = .ok (.newarray .long, 2) := by decide +kernel
theorem d_M_init_150 : decode (z_c m_M_init) 150 = .ok (.putfield 62, 3) := by decide +kernel
theorem d_M_init_153 : decode (z_c m_M_init) 153 = .ok (.aload_n 0, 1) := by decide +kernel
theorem d_M_init_154 : decode (z_c m_M_init) 154 = .ok (.bipush 60, 2) := by decide +kernel
theorem d_M_init_156 : decode (z_c m_M_init) 156 = .ok (.newarray .int, 2) := by decide +kernel
theorem d_M_init_158 : decode (z_c m_M_init) 158 = .ok (.putfield 65, 3) := by decide +kernel
theorem d_M_init_161 : decode (z_c m_M_init) 161 = .ok (.aload_n 0, 1) := by decide +kernel
theorem d_M_init_162 : decode (z_c m_M_init) 162 = .ok (.iconst 5, 1) := by decide +kernel
theorem d_M_init_163 : decode (z_c m_M_init) 163 = .ok (.newarray .int, 2) := by decide +kernel
theorem d_M_init_165 : decode (z_c m_M_init) 165 = .ok (.putfield 68, 3) := by decide +kernel
theorem d_M_init_168 : decode (z_c m_M_init) 168 = .ok (.aload_n 0, 1) := by decide +kernel
theorem d_M_init_169 : decode (z_c m_M_init) 169 = .ok (.iconst 5, 1) := by decide +kernel
theorem d_M_init_170 : decode (z_c m_M_init) 170 = .ok (.newarray .int, 2) := by decide +kernel
theorem d_M_init_172 : decode (z_c m_M_init) 172 = .ok (.putfield 71, 3) := by decide +kernel
theorem d_M_init_175 : decode (z_c m_M_init) 175 = .ok (.aload_n 0, 1) := by decide +kernel
theorem d_M_init_176 : decode (z_c m_M_init) 176 = .ok (.iconst 0, 1) := by decide +kernel
theorem d_M_init_177 : decode (z_c m_M_init) 177 = .ok (.invokevirtual 74, 3) := by decide +kernel
theorem d_M_init_180 : decode (z_c m_M_init) 180 = .ok (.aload_n 0, 1) := by decide +kernel
theorem d_M_init_181 : decode (z_c m_M_init) 181 = .ok (.iconst 0, 1) := by decide +kernel
theorem d_M_init_182 : decode (z_c m_M_init) 182 = .ok (.invokevirtual 78, 3) := by decide +kernel
theorem d_M_init_185 : decode (z_c m_M_init) 185 = .ok (.return_, 1) := by decide +kernel
def kS_M : z_G := (z_up (z_nw (z_up (z_nw (z_up (z_nw (z_up (z_nw (z_up (z_nw (z_up (z_nw (z_up (z_nw (z_up (z_nw (z_up (z_nw (z_up (z_nw (z_up (z_nw (z_up (z_nw (z_up (z_nw (z_up (z_nw (z_up (z_nw (z_up (z_nw (z_up (z_nw (z_nw (fun _ _ => -1) 0 (fun _ => -1)) 1 (fun _ => -1)) 0 0 1) 2 (fun _ => -1)) 0 4 2) 3 (fun _ => -1)) 0 5 3) 4 (fun _ => -1)) 0 6 4) 5 (fun _ => -1)) 0 7 5) 6 (fun _ => -1)) 0 8 6) 7 (fun _ => -1)) 0 19 7) 8 (fun _ => -1)) 0 22 8) 9 (fun _ => -1)) 0 23 9) 10 (fun _ => -1)) 0 26 10) 11 (fun _ => -1)) 0 31 11) 12 (fun _ => -1)) 0 32 12) 13 (fun _ => -1)) 0 33 13) 14 (fun _ => -1)) 0 34 14) 15 (fun _ => -1)) 0 37 15) 16 (fun _ => -1)) 0 38 16) 17 (fun _ => -1)) 0 39 17)
set_option maxRecDepth 100000 in
theorem kr_M : ∀ q ∈ z_RM, kS_M q.1 q.2.1 = (q.2.2 : Int) := by decide +kernel
def kG_M : z_G := (z_nw (z_nw (z_nw (z_nw (z_nw (z_nw (z_nw (z_nw (z_nw (z_nw (z_nw (z_up (z_up (z_nw (z_nw (z_nw (z_up (z_up (z_up (z_up (z_nw (z_nw (z_up (z_nw kZ 1 (fun _ => 0)) 0 3 1) 2 (fun _ => 0)) 3 (fun _ => 0)) 3 0 (-1)) 3 1 (-1)) 3 2 (-1)) 3 3 (-1)) 4 (fun _ => 0)) 5 (fun _ => 0)) 6 (fun _ => 0)) 0 15 (-1)) 0 16 (-1)) 7 (fun _ => 0)) 8 (fun _ => 0)) 9 (fun _ => 0)) 10 (fun _ => 0)) 11 (fun _ => 0)) 12 (fun _ => 0)) 13 (fun _ => 0)) 14 (fun _ => 0)) 15 (fun _ => 0)) 16 (fun _ => 0)) 17 (fun _ => 0))
theorem kl_M {X : z_X} (hs0 : z_sh X 0 = (0, 12)) (hs1 : z_sh X 1 = (1, 3296)) (hs2 : z_sh X 2 = (1, 4)) (hs3 : z_sh X 3 = (1, 4)) (hs4 : z_sh X 4 = (2, 240)) (hs5 : z_sh X 5 = (4, 900)) (hs6 : z_sh X 6 = (4, 900)) (hs7 : z_sh X 7 = (1, 3)) (hs8 : z_sh X 8 = (1, 12233)) (hs9 : z_sh X 9 = (1, 12233)) (hs10 : z_sh X 10 = (1, 40)) (hs11 : z_sh X 11 = (1, 1024)) (hs12 : z_sh X 12 = (1, 1024)) (hs13 : z_sh X 13 = (1, 1024)) (hs14 : z_sh X 14 = (2, 13)) (hs15 : z_sh X 15 = (1, 60)) (hs16 : z_sh X 16 = (1, 5)) (hs17 : z_sh X 17 = (1, 5)) : z_lay X 18 kS_M 0 z_SM z_RM := by
  refine ⟨fun j s hj => ?_, by decide, fun k q hq => ?_⟩
  · rw [Nat.zero_add]
    match j, hj with
    | 0, hj => cases hj; exact hs0
    | 1, hj => cases hj; exact hs1
    | 2, hj => cases hj; exact hs2
    | 3, hj => cases hj; exact hs3
    | 4, hj => cases hj; exact hs4
    | 5, hj => cases hj; exact hs5
    | 6, hj => cases hj; exact hs6
    | 7, hj => cases hj; exact hs7
    | 8, hj => cases hj; exact hs8
    | 9, hj => cases hj; exact hs9
    | 10, hj => cases hj; exact hs10
    | 11, hj => cases hj; exact hs11
    | 12, hj => cases hj; exact hs12
    | 13, hj => cases hj; exact hs13
    | 14, hj => cases hj; exact hs14
    | 15, hj => cases hj; exact hs15
    | 16, hj => cases hj; exact hs16
    | 17, hj => cases hj; exact hs17
    | (n + 18), hj => simp [z_SM] at hj
  · have := kr_M q (List.mem_of_getElem? hq)
    rw [Nat.zero_add, Nat.zero_add]; exact this
theorem s_plain0 {Y : z_X} {K : Nat} {τ : z_G} {Q : z_P} (hm : z_lay Y K τ 0 z_SM z_RM) {g : z_G} (hq : ∀ g', g' 1 0 = 4 → g' 1 1 = 5 → g' 1 2 = 1 → g' 1 3 = 2 → g' 1 6 = -1 → (∀ i, 0 ≤ i → i < 610 → ¬ (i = 0 ∨ i = 1 ∨ i = 2 ∨ i = 3 ∨ i = 6) → g' 1 i = 0) → (∀ c i, ¬ (c = 1 ∧ 0 ≤ i ∧ i < 610) → g' c i = g c i) → Q 0 g') : z_O Y 1 m_M_plain [(2, 0), (0, 0)] K τ g Q := by
  have L : ∀ (m : Nat) (x : Int) (g1 : z_G), x + m = 610 → 0 ≤ x → (∀ i, 0 ≤ i → i < x → g1 1 i = 0) → (∀ c i, ¬ (c = 1 ∧ 0 ≤ i ∧ i < 610) → g1 c i = g c i) → L_M_plain_2 Y K τ 0 x g1 Q := by
    intro m
    induction m with
    | zero =>
      intro x g1 e1 e2 h0 hf
      refine b_M_plain_2 hm ⟨fun _ => ⟨by omega, by omega, by omega, by omega, by omega, by omega, by omega, by omega, by omega, by omega, hq _ ?_ ?_ ?_ ?_ ?_ (fun i i1 i2 i3 => ?_) (fun c i hc => ?_)⟩, fun z => by exfalso; omega⟩
      · rw [z_u2 (by omega), z_u2 (by omega), z_u2 (by omega), z_u2 (by omega)]; exact z_u1
      · rw [z_u2 (by omega), z_u2 (by omega), z_u2 (by omega)]; exact z_u1
      · rw [z_u2 (by omega), z_u2 (by omega)]; exact z_u1
      · rw [z_u2 (by omega)]; exact z_u1
      · exact z_u1
      · rw [z_u2 (by omega), z_u2 (by omega), z_u2 (by omega), z_u2 (by omega), z_u2 (by omega)]; exact h0 i i1 (by omega)
      · rw [z_u2 (by omega), z_u2 (by omega), z_u2 (by omega), z_u2 (by omega), z_u2 (by omega)]; exact hf c i hc
    | succ m ih =>
      intro x g1 e1 e2 h0 hf
      refine b_M_plain_2 hm ⟨fun z => by exfalso; omega, fun _ => ⟨by omega, by omega, by omega, ih (x + 1) _ (by omega) (by omega) (fun i i1 i2 => ?_) (fun c i hc => by rw [z_u2 (by omega)]; exact hf c i hc)⟩⟩
      by_cases c : i = 0 + x
      · rw [c]; exact z_u1
      · rw [z_u2 (by omega)]; exact h0 i i1 (by omega)
  exact b_M_plain_0 hm (L 610 0 g (by omega) (by omega) (fun i i1 i2 => by exfalso; omega) (fun _ _ _ => rfl))
/-- what the reference holds when it has been made -/
def kM0 (g : z_G) : Prop := g 0 1 = 0 ∧ g 0 2 = 0 ∧ g 0 3 = 1 ∧ g 0 9 = 0 ∧ g 0 15 = (-1) ∧ g 0 16 = (-1) ∧ g 0 25 = 0 ∧ g 0 40 = 0 ∧ g 0 41 = 0 ∧ g 2 0 = 0 ∧ g 2 1 = 0 ∧ g 2 2 = 0 ∧ g 2 3 = 0 ∧ g 3 0 = (-1) ∧ g 3 1 = (-1) ∧ g 3 2 = (-1) ∧ g 3 3 = (-1) ∧ g 1 0 = 4 ∧ g 1 1 = 5 ∧ g 1 2 = 1 ∧ g 1 3 = 2 ∧ g 1 4 = 0 ∧ g 1 6 = (-1) ∧ ∃ κ, eM κ 0 (fun i => g 1 (46 + i)) (g 1 5) 10002
theorem s_M_init {X : z_X} {Q : z_Q} (ht : z_tl X = 0) (hs0 : z_sh X 0 = (0, 12)) (hs1 : z_sh X 1 = (1, 3296)) (hs2 : z_sh X 2 = (1, 4)) (hs3 : z_sh X 3 = (1, 4)) (hs4 : z_sh X 4 = (2, 240)) (hs5 : z_sh X 5 = (4, 900)) (hs6 : z_sh X 6 = (4, 900)) (hs7 : z_sh X 7 = (1, 3)) (hs8 : z_sh X 8 = (1, 12233)) (hs9 : z_sh X 9 = (1, 12233)) (hs10 : z_sh X 10 = (1, 40)) (hs11 : z_sh X 11 = (1, 1024)) (hs12 : z_sh X 12 = (1, 1024)) (hs13 : z_sh X 13 = (1, 1024)) (hs14 : z_sh X 14 = (2, 13)) (hs15 : z_sh X 15 = (1, 60)) (hs16 : z_sh X 16 = (1, 5)) (hs17 : z_sh X 17 = (1, 5)) (h : ∀ g, kM0 g → Q 0 18 kS_M g) : z_C X 8 17 33008 m_M_init [(2, 0)] 1 kM1 kZ Q := by
  refine z_enter mi_M_init (Nat.le_of_ble_eq_true rfl) (fun _ => ?_)
  show z_V X 8 17 33008 m_M_init 0 [(0, (2, 0))] [] 0 0 1 kM1 kZ Q
  refine z_aload_n (i := 0) (c := 0) 0 d_M_init_0 rfl rfl rfl ?_
  refine z_obin (c := 0) d_M_init_1 w_ol_M w_oi w_oc rfl (by decide) rfl ?_
  refine z_aload_n (i := 0) (c := 0) 0 d_M_init_4 rfl rfl rfl ?_
  refine z_sipush (n := 3296) d_M_init_5 (by decide) (by decide) ?_
  refine z_newa (at0 := .int) (t := 0) (n := 3296) (idx := 0) d_M_init_8 w_ac_int rfl (fun _ _ h => h) rfl rfl rfl (by decide) hs1 ht (by decide) (by decide) ?_
  refine z_putr (c := 0) (c2 := 1) (kI := 0) (ty := .array .int) d_M_init_10 fd_M_at fl_M_7 (by decide +kernel) (Or.inr ⟨_, rfl⟩) rfl rfl rfl rfl rfl rfl hs0 (by decide) ?_
  refine z_aload_n (i := 0) (c := 0) 0 d_M_init_13 rfl rfl rfl ?_
  refine z_lconst (v := 1) d_M_init_14 (by decide) (by decide) ?_
  refine z_putl (c := 0) (kI := 3) d_M_init_15 fd_M_bottom fl_M_13 pf_M_bottom rfl rfl rfl rfl hs0 (by decide) ?_
  refine z_aload_n (i := 0) (c := 0) 0 d_M_init_18 rfl rfl rfl ?_
  refine z_iconst (n := 4) d_M_init_19 (by decide) ?_
  refine z_newa (at0 := .int) (t := 0) (n := 4) (idx := 0) d_M_init_20 w_ac_int rfl (fun _ _ h => h) rfl rfl rfl (by decide) hs2 ht (by decide) (by decide) ?_
  refine z_putr (c := 0) (c2 := 2) (kI := 4) (ty := .array .int) d_M_init_22 fd_M_sort fl_M_17 (by decide +kernel) (Or.inr ⟨_, rfl⟩) rfl rfl rfl rfl rfl rfl hs0 (by decide) ?_
  refine z_aload_n (i := 0) (c := 0) 0 d_M_init_25 rfl rfl rfl ?_
  refine z_iconst (n := 4) d_M_init_26 (by decide) ?_
  refine z_newa (at0 := .int) (t := 0) (n := 4) (idx := 0) d_M_init_27 w_ac_int rfl (fun _ _ h => h) rfl rfl rfl (by decide) hs3 ht (by decide) (by decide) ?_
  refine z_dup d_M_init_29 rfl ?_
  refine z_iconst (n := 0) d_M_init_30 (by decide) ?_
  refine z_iconst (n := (-1)) d_M_init_31 (by decide) ?_
  refine z_iast (c := 3) (m := 4) d_M_init_32 rfl hs3 (by decide) rfl (by decide) (by decide) ?_
  refine z_dup d_M_init_33 rfl ?_
  refine z_iconst (n := 1) d_M_init_34 (by decide) ?_
  refine z_iconst (n := (-1)) d_M_init_35 (by decide) ?_
  refine z_iast (c := 3) (m := 4) d_M_init_36 rfl hs3 (by decide) rfl (by decide) (by decide) ?_
  refine z_dup d_M_init_37 rfl ?_
  refine z_iconst (n := 2) d_M_init_38 (by decide) ?_
  refine z_iconst (n := (-1)) d_M_init_39 (by decide) ?_
  refine z_iast (c := 3) (m := 4) d_M_init_40 rfl hs3 (by decide) rfl (by decide) (by decide) ?_
  refine z_dup d_M_init_41 rfl ?_
  refine z_iconst (n := 3) d_M_init_42 (by decide) ?_
  refine z_iconst (n := (-1)) d_M_init_43 (by decide) ?_
  refine z_iast (c := 3) (m := 4) d_M_init_44 rfl hs3 (by decide) rfl (by decide) (by decide) ?_
  refine z_putr (c := 0) (c2 := 3) (kI := 5) (ty := .array .int) d_M_init_45 fd_M_trayMany fl_M_20 (by decide +kernel) (Or.inr ⟨_, rfl⟩) rfl rfl rfl rfl rfl rfl hs0 (by decide) ?_
  refine z_aload_n (i := 0) (c := 0) 0 d_M_init_48 rfl rfl rfl ?_
  refine z_sipush (n := 240) d_M_init_49 (by decide) (by decide) ?_
  refine z_newa (at0 := .long) (t := 1) (n := 240) (idx := 0) d_M_init_52 w_ac_long rfl (fun _ _ h => h) rfl rfl rfl (by decide) hs4 ht (by decide) (by decide) ?_
  refine z_putr (c := 0) (c2 := 4) (kI := 6) (ty := .array .long) d_M_init_54 fd_M_trays fl_M_23 (by decide +kernel) (Or.inr ⟨_, rfl⟩) rfl rfl rfl rfl rfl rfl hs0 (by decide) ?_
  refine z_aload_n (i := 0) (c := 0) 0 d_M_init_57 rfl rfl rfl ?_
  refine z_sipush (n := 900) d_M_init_58 (by decide) (by decide) ?_
  refine z_newa (at0 := .byte) (t := 3) (n := 900) (idx := 0) d_M_init_61 w_ac_byte rfl (fun _ _ h => h) rfl rfl rfl (by decide) hs5 ht (by decide) (by decide) ?_
  refine z_putr (c := 0) (c2 := 5) (kI := 7) (ty := .array .byte) d_M_init_63 fd_M_tape fl_M_27 (by decide +kernel) (Or.inr ⟨_, rfl⟩) rfl rfl rfl rfl rfl rfl hs0 (by decide) ?_
  refine z_aload_n (i := 0) (c := 0) 0 d_M_init_66 rfl rfl rfl ?_
  refine z_sipush (n := 900) d_M_init_67 (by decide) (by decide) ?_
  refine z_newa (at0 := .byte) (t := 3) (n := 900) (idx := 0) d_M_init_70 w_ac_byte rfl (fun _ _ h => h) rfl rfl rfl (by decide) hs6 ht (by decide) (by decide) ?_
  refine z_putr (c := 0) (c2 := 6) (kI := 8) (ty := .array .byte) d_M_init_72 fd_M_text fl_M_31 (by decide +kernel) (Or.inr ⟨_, rfl⟩) rfl rfl rfl rfl rfl rfl hs0 (by decide) ?_
  refine z_aload_n (i := 0) (c := 0) 0 d_M_init_75 rfl rfl rfl ?_
  refine z_iconst (n := (-1)) d_M_init_76 (by decide) ?_
  refine z_puti (c := 0) (kI := 15) d_M_init_77 fd_M_faultKind fl_M_34 pf_M_faultKind rfl rfl rfl rfl hs0 (by decide) ?_
  refine z_aload_n (i := 0) (c := 0) 0 d_M_init_80 rfl rfl rfl ?_
  refine z_iconst (n := (-1)) d_M_init_81 (by decide) ?_
  refine z_puti (c := 0) (kI := 16) d_M_init_82 fd_M_faultPlace fl_M_38 pf_M_faultPlace rfl rfl rfl rfl hs0 (by decide) ?_
  refine z_aload_n (i := 0) (c := 0) 0 d_M_init_85 rfl rfl rfl ?_
  refine z_iconst (n := 3) d_M_init_86 (by decide) ?_
  refine z_newa (at0 := .int) (t := 0) (n := 3) (idx := 0) d_M_init_87 w_ac_int rfl (fun _ _ h => h) rfl rfl rfl (by decide) hs7 ht (by decide) (by decide) ?_
  refine z_putr (c := 0) (c2 := 7) (kI := 19) (ty := .array .int) d_M_init_89 fd_M_opened fl_M_41 (by decide +kernel) (Or.inr ⟨_, rfl⟩) rfl rfl rfl rfl rfl rfl hs0 (by decide) ?_
  refine z_aload_n (i := 0) (c := 0) 0 d_M_init_92 rfl rfl rfl ?_
  refine z_sipush (n := 12233) d_M_init_93 (by decide) (by decide) ?_
  refine z_newa (at0 := .int) (t := 0) (n := 12233) (idx := 0) d_M_init_96 w_ac_int rfl (fun _ _ h => h) rfl rfl rfl (by decide) hs8 ht (by decide) (by decide) ?_
  refine z_putr (c := 0) (c2 := 8) (kI := 22) (ty := .array .int) d_M_init_98 fd_M_topBy fl_M_44 (by decide +kernel) (Or.inr ⟨_, rfl⟩) rfl rfl rfl rfl rfl rfl hs0 (by decide) ?_
  refine z_aload_n (i := 0) (c := 0) 0 d_M_init_101 rfl rfl rfl ?_
  refine z_sipush (n := 12233) d_M_init_102 (by decide) (by decide) ?_
  refine z_newa (at0 := .int) (t := 0) (n := 12233) (idx := 0) d_M_init_105 w_ac_int rfl (fun _ _ h => h) rfl rfl rfl (by decide) hs9 ht (by decide) (by decide) ?_
  refine z_putr (c := 0) (c2 := 9) (kI := 23) (ty := .array .int) d_M_init_107 fd_M_bottomBy fl_M_47 (by decide +kernel) (Or.inr ⟨_, rfl⟩) rfl rfl rfl rfl rfl rfl hs0 (by decide) ?_
  refine z_aload_n (i := 0) (c := 0) 0 d_M_init_110 rfl rfl rfl ?_
  refine z_bipush (n := 40) d_M_init_111 (by decide) (by decide) ?_
  refine z_newa (at0 := .int) (t := 0) (n := 40) (idx := 0) d_M_init_113 w_ac_int rfl (fun _ _ h => h) rfl rfl rfl (by decide) hs10 ht (by decide) (by decide) ?_
  refine z_putr (c := 0) (c2 := 10) (kI := 26) (ty := .array .int) d_M_init_115 fd_M_termBy fl_M_50 (by decide +kernel) (Or.inr ⟨_, rfl⟩) rfl rfl rfl rfl rfl rfl hs0 (by decide) ?_
  refine z_aload_n (i := 0) (c := 0) 0 d_M_init_118 rfl rfl rfl ?_
  refine z_sipush (n := 1024) d_M_init_119 (by decide) (by decide) ?_
  refine z_newa (at0 := .int) (t := 0) (n := 1024) (idx := 0) d_M_init_122 w_ac_int rfl (fun _ _ h => h) rfl rfl rfl (by decide) hs11 ht (by decide) (by decide) ?_
  refine z_putr (c := 0) (c2 := 11) (kI := 31) (ty := .array .int) d_M_init_124 fd_M_lowBy fl_M_53 (by decide +kernel) (Or.inr ⟨_, rfl⟩) rfl rfl rfl rfl rfl rfl hs0 (by decide) ?_
  refine z_aload_n (i := 0) (c := 0) 0 d_M_init_127 rfl rfl rfl ?_
  refine z_sipush (n := 1024) d_M_init_128 (by decide) (by decide) ?_
  refine z_newa (at0 := .int) (t := 0) (n := 1024) (idx := 0) d_M_init_131 w_ac_int rfl (fun _ _ h => h) rfl rfl rfl (by decide) hs12 ht (by decide) (by decide) ?_
  refine z_putr (c := 0) (c2 := 12) (kI := 32) (ty := .array .int) d_M_init_133 fd_M_highBy fl_M_56 (by decide +kernel) (Or.inr ⟨_, rfl⟩) rfl rfl rfl rfl rfl rfl hs0 (by decide) ?_
  refine z_aload_n (i := 0) (c := 0) 0 d_M_init_136 rfl rfl rfl ?_
  refine z_sipush (n := 1024) d_M_init_137 (by decide) (by decide) ?_
  refine z_newa (at0 := .int) (t := 0) (n := 1024) (idx := 0) d_M_init_140 w_ac_int rfl (fun _ _ h => h) rfl rfl rfl (by decide) hs13 ht (by decide) (by decide) ?_
  refine z_putr (c := 0) (c2 := 13) (kI := 33) (ty := .array .int) d_M_init_142 fd_M_endBy fl_M_59 (by decide +kernel) (Or.inr ⟨_, rfl⟩) rfl rfl rfl rfl rfl rfl hs0 (by decide) ?_
  refine z_aload_n (i := 0) (c := 0) 0 d_M_init_145 rfl rfl rfl ?_
  refine z_bipush (n := 13) d_M_init_146 (by decide) (by decide) ?_
  refine z_newa (at0 := .long) (t := 1) (n := 13) (idx := 0) d_M_init_148 w_ac_long rfl (fun _ _ h => h) rfl rfl rfl (by decide) hs14 ht (by decide) (by decide) ?_
  refine z_putr (c := 0) (c2 := 14) (kI := 34) (ty := .array .long) d_M_init_150 fd_M_wrongBy fl_M_62 (by decide +kernel) (Or.inr ⟨_, rfl⟩) rfl rfl rfl rfl rfl rfl hs0 (by decide) ?_
  refine z_aload_n (i := 0) (c := 0) 0 d_M_init_153 rfl rfl rfl ?_
  refine z_bipush (n := 60) d_M_init_154 (by decide) (by decide) ?_
  refine z_newa (at0 := .int) (t := 0) (n := 60) (idx := 0) d_M_init_156 w_ac_int rfl (fun _ _ h => h) rfl rfl rfl (by decide) hs15 ht (by decide) (by decide) ?_
  refine z_putr (c := 0) (c2 := 15) (kI := 37) (ty := .array .int) d_M_init_158 fd_M_loops fl_M_65 (by decide +kernel) (Or.inr ⟨_, rfl⟩) rfl rfl rfl rfl rfl rfl hs0 (by decide) ?_
  refine z_aload_n (i := 0) (c := 0) 0 d_M_init_161 rfl rfl rfl ?_
  refine z_iconst (n := 5) d_M_init_162 (by decide) ?_
  refine z_newa (at0 := .int) (t := 0) (n := 5) (idx := 0) d_M_init_163 w_ac_int rfl (fun _ _ h => h) rfl rfl rfl (by decide) hs16 ht (by decide) (by decide) ?_
  refine z_putr (c := 0) (c2 := 16) (kI := 38) (ty := .array .int) d_M_init_165 fd_M_ran fl_M_68 (by decide +kernel) (Or.inr ⟨_, rfl⟩) rfl rfl rfl rfl rfl rfl hs0 (by decide) ?_
  refine z_aload_n (i := 0) (c := 0) 0 d_M_init_168 rfl rfl rfl ?_
  refine z_iconst (n := 5) d_M_init_169 (by decide) ?_
  refine z_newa (at0 := .int) (t := 0) (n := 5) (idx := 0) d_M_init_170 w_ac_int rfl (fun _ _ h => h) rfl rfl rfl (by decide) hs17 ht (by decide) (by decide) ?_
  refine z_putr (c := 0) (c2 := 17) (kI := 39) (ty := .array .int) d_M_init_172 fd_M_told1 fl_M_71 (by decide +kernel) (Or.inr ⟨_, rfl⟩) rfl rfl rfl rfl rfl rfl hs0 (by decide) ?_
  have hl : z_lay X 18 kS_M 0 z_SM z_RM := kl_M hs0 hs1 hs2 hs3 hs4 hs5 hs6 hs7 hs8 hs9 hs10 hs11 hs12 hs13 hs14 hs15 hs16 hs17
  refine z_aload_n (i := 0) (c := 0) 0 d_M_init_175 rfl rfl rfl ?_
  refine z_iconst (n := 0) d_M_init_176 (by decide) ?_
  refine z_callV (c := 0) (as := [(0, 0)]) (d' := 1) (mc' := 0) (ms' := 0) (st := []) d_M_init_177 mi_M_plain ml_M_74 mv_M_plain se_M_plain rfl (by decide) rfl rfl hs0 rfl rfl (by decide) (by decide) (by decide) (by decide) (by decide) ?_
  refine z_C_mono (s_plain0 (Q := fun r g' => r = 0 ∧ g' 1 0 = 4 ∧ g' 1 1 = 5 ∧ g' 1 2 = 1 ∧ g' 1 3 = 2 ∧ g' 1 6 = -1 ∧ g' 1 4 = 0 ∧ g' 1 5 = 0 ∧ ∀ c i, c ≠ 1 → g' c i = kG_M c i) (g := kG_M) hl fun g' a0 a1 a2 a3 a6 az af => ⟨rfl, a0, a1, a2, a3, a6, az 4 (by omega) (by omega) (by omega), az 5 (by omega) (by omega) (by omega), fun c i hc => af c i (by omega)⟩) fun r N' σ' g' _ hh => ?_
  obtain ⟨rfl, rfl, rfl, b0, b1, b2, b3, b6, b4, b5, bf⟩ := hh
  show z_V X 8 17 33008 m_M_init 180 [(0, (2, 0))] [] 17 33008 18 kS_M g' Q
  refine z_aload_n (i := 0) (c := 0) 0 d_M_init_180 rfl rfl rfl ?_
  refine z_iconst (n := 0) d_M_init_181 (by decide) ?_
  refine z_callV (c := 0) (as := [(0, 0)]) (d' := 1) (mc' := 0) (ms' := 0) (st := []) d_M_init_182 mi_M_sees ml_M_78 mv_M_sees se_M_sees rfl (by decide) rfl rfl hs0 rfl rfl (by decide) (by decide) (by decide) (by decide) (by decide) ?_
  refine z_C_mono (s_M_sees (Q := fun r g'' => r = 0 ∧ kM0 g'') (g := g') hl (s := 0) (T := 1) (B := 2) (by omega) b2 b3 (by omega) (by omega) ⟨by show 0 ≤ g' 1 (0 + 5); rw [show (0 : Int) + 5 = 5 by omega, b5]; omega, by show g' 1 (0 + 5) ≤ 200; rw [show (0 : Int) + 5 = 5 by omega, b5]; omega⟩ fun g'' f1 em => ⟨rfl, ?_⟩) fun r N' σ' g'' _ hh => ?_
  · have m1 : ∀ i, ¬ (i = 5 ∨ (46 ≤ i ∧ i < 246)) → g'' 1 i = g' 1 i := fun i hi => f1 1 i (by omega)
    have m2 : ∀ c i, c ≠ 1 → g'' c i = kG_M c i := fun c i hc => by rw [f1 c i (by omega)]; exact bf c i hc
    refine ⟨?_, ?_, ?_, ?_, ?_, ?_, ?_, ?_, ?_, ?_, ?_, ?_, ?_, ?_, ?_, ?_, ?_, ?_, ?_, ?_, ?_, ?_, ?_, ⟨fun i => g' 1 (0 + (46 + i)), ?_⟩⟩
    · rw [m2 _ _ (by omega)]; decide +kernel
    · rw [m2 _ _ (by omega)]; decide +kernel
    · rw [m2 _ _ (by omega)]; decide +kernel
    · rw [m2 _ _ (by omega)]; decide +kernel
    · rw [m2 _ _ (by omega)]; decide +kernel
    · rw [m2 _ _ (by omega)]; decide +kernel
    · rw [m2 _ _ (by omega)]; decide +kernel
    · rw [m2 _ _ (by omega)]; decide +kernel
    · rw [m2 _ _ (by omega)]; decide +kernel
    · rw [m2 _ _ (by omega)]; decide +kernel
    · rw [m2 _ _ (by omega)]; decide +kernel
    · rw [m2 _ _ (by omega)]; decide +kernel
    · rw [m2 _ _ (by omega)]; decide +kernel
    · rw [m2 _ _ (by omega)]; decide +kernel
    · rw [m2 _ _ (by omega)]; decide +kernel
    · rw [m2 _ _ (by omega)]; decide +kernel
    · rw [m2 _ _ (by omega)]; decide +kernel
    · rw [m1 _ (by omega)]; exact b0
    · rw [m1 _ (by omega)]; exact b1
    · rw [m1 _ (by omega)]; exact b2
    · rw [m1 _ (by omega)]; exact b3
    · rw [m1 _ (by omega)]; exact b4
    · rw [m1 _ (by omega)]; exact b6
    · rw [show (0 : Int) + 5 = 5 by omega, b5] at em
      have e1 : (fun i => g'' 1 (0 + (46 + i))) = fun i => g'' 1 (46 + i) := funext fun i => by rw [Int.zero_add]
      rw [e1] at em
      exact em
  · obtain ⟨rfl, rfl, rfl, hh⟩ := hh
    exact z_vret d_M_init_185 rfl (by decide) (by decide) (h g'' hh)

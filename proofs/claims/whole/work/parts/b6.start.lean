/-! ## the start (printed by gen_start.py) -/
theorem s_arr {args : Array Value} {s : State} {ty : FieldType} (h : (Cond.arrayClass ty).before args s = true) : ∃ cA : ClassId, ArrOfT s cA ty ∧ s.vm.findClass ("[" ++ ty.toString) = some cA := by
  obtain ⟨c, k, comp, h1, h2, h3⟩ := Cond.arrayClass_spec h
  exact ⟨c, fun n z => ⟨fun k h => (by cases h), k, h2, comp, h3⟩, h1⟩
/-- all that the worlds rest on, at the start -/
theorem s_K {p : Program} {l : Launch} {s : State} {m : MethodId} {meth : Method} {c : Code} {b L : Nat} {xs : Nat → Int32} (C0 : lw_At p s m meth c b L xs) : ∃ (D : va_G) (A : Nat → ClassId) (aK aV : Nat → Nat), z_K (l_X l D A s.heap.size aK aV 0 s.heap) s := by
  have hts : ∀ w ∈ z_tb, w.before #[Value.ref b] s = true := fun w hw => l_wd C0 hw
  have ht0 := C0.2.2.2.2.2.1
  have hn : narrow_1.before #[Value.ref b] s = true := n_R C0.2.2.2.2.2.2.2.2.2
  obtain ⟨c0, i0, k0⟩ := u_known (C := RX0) (T := TX0) (N := 6) (n := 6) hts z_ly0 (hts _ w_in_Bd)
  obtain ⟨c1, i1, k1⟩ := u_known (C := RX1) (T := TX1) (N := 7) (n := 7) hts z_ly1 (hts _ w_in_Ch)
  obtain ⟨c2, i2, k2⟩ := u_known (C := RX2) (T := TX2) (N := 10) (n := 10) hts z_ly2 (hts _ w_in_Pa)
  obtain ⟨c3, i3, k3⟩ := u_known (C := RX3) (T := TX3) (N := 4) (n := 4) hts z_ly3 (hts _ w_in_Pi)
  obtain ⟨c4, i4, k4⟩ := u_known (C := RX4) (T := TX4) (N := 8) (n := 8) hts z_ly4 (hts _ w_in_Pg)
  obtain ⟨c5, i5, k5⟩ := u_known (C := RX5) (T := TX5) (N := 6) (n := 6) hts z_ly5 (hts _ w_in_Rw)
  obtain ⟨c6, i6, k6⟩ := u_known (C := RX6) (T := TX6) (N := 5) (n := 5) hts z_ly6 (hts _ w_in_Sp)
  obtain ⟨c7, i7, k7⟩ := u_known (C := RX7) (T := TX7) (N := 11) (n := 11) hts z_ly7 (hts _ w_in_Ta)
  obtain ⟨c8, i8, k8⟩ := u_known (C := RX8) (T := TX8) (N := 3) (n := 3) hts z_ly8 (hts _ w_in_Tr)
  obtain ⟨c9, i9, k9⟩ := u_known (C := RX9) (T := TX9) (N := 2) (n := 2) hts z_ly9 (hts _ w_in_Vi)
  obtain ⟨c10, i10, k10⟩ := u_known (C := RX10) (T := TX10) (N := 8) (n := 8) hts z_ly10 (hts _ w_in_Wk)
  obtain ⟨c11, i11, k11⟩ := u_known (C := RX11) (T := TX11) (N := 18) (n := 18) hts z_ly11 (hts _ w_in_F)
  obtain ⟨c12, i12, k12⟩ := u_known (C := RX12) (T := TX12) (N := 42) (n := 42) hts z_ly12 (hts _ w_in_M)
  obtain ⟨a_int, r_int, f_int⟩ := s_arr (hts _ w_ac_int)
  obtain ⟨a_long, r_long, f_long⟩ := s_arr (hts _ w_ac_long)
  obtain ⟨a_char, r_char, f_char⟩ := s_arr (hts _ w_ac_char)
  obtain ⟨a_byte, r_byte, f_byte⟩ := s_arr (hts _ w_ac_byte)
  have hAO : va_AO "FareyRank$Board" s := va_AO.of (ht0 _ s_aoB)
  have hAW : z_aw s := ht0 _ s_aoJ
  obtain ⟨jc, ja, jk, j1, j2, j3, j4, j5⟩ := z_aw_spec hAW
  obtain ⟨bc, ba, bk, b1, b2, b3, b4, b5⟩ := Cond.arrayOver_spec hAO
  have hA0 : ∀ a : Nat, a < s.heap.size → ¬ (fun q : Nat => s.heap.size ≤ q) a := fun a h => Nat.not_le.mpr h
  obtain ⟨aK, aV, hS, hev⟩ := vk_Sof (args := #[Value.ref b]) (s := s) (N := 21) (tm := s_tm) (len := z_slen) (byt := tx_B) (A := fun q : Nat => s.heap.size ≤ q) (by
    intro i hi
    have : ∀ j : Fin 21, z_slen.getD j.val 0 < 2 ^ 31 := by decide
    exact this ⟨i, hi⟩) (s_hex hn) (s_hco hn) (s_har hn) (s_hle hn) (s_hel hn) (s_hne hn) hA0
  have hZ := va_Zof (ht0 _ s_lsC) (ht0 _ s_itS) (va_eqi (s_cs hn)) hA0
  have hF : ∃ t : Nat, va_Z "jdk/internal/util/Preconditions" "SIOOBE_FORMATTER" "Ljava/util/function/BiFunction;" .null (fun q : Nat => s.heap.size ≤ q) s s.heap ∨ va_Z "jdk/internal/util/Preconditions" "SIOOBE_FORMATTER" "Ljava/util/function/BiFunction;" (.ref t) (fun q : Nat => s.heap.size ≤ q) s s.heap := by
    rcases va_Zqof (ht0 _ s_lsF) (ht0 _ s_itP) (s_ff hn) hA0 with h | ⟨t, h⟩
    · exact ⟨0, Or.inl h⟩
    · exact ⟨t, Or.inr h⟩
  obtain ⟨ft, hF⟩ := hF
  refine ⟨(fun k => if k = 0 then c0 else if k = 1 then c1 else if k = 2 then c2 else if k = 3 then c3 else if k = 4 then c4 else if k = 5 then c5 else if k = 6 then c6 else if k = 7 then c7 else if k = 8 then c8 else if k = 9 then c9 else if k = 10 then c10 else if k = 11 then c11 else c12, fun k => if k = 0 then i0 else if k = 1 then i1 else if k = 2 then i2 else if k = 3 then i3 else if k = 4 then i4 else if k = 5 then i5 else if k = 6 then i6 else if k = 7 then i7 else if k = 8 then i8 else if k = 9 then i9 else if k = 10 then i10 else if k = 11 then i11 else i12), fun k => if k = 2 then a_long else if k = 3 then a_char else if k = 4 then a_byte else if k = 5 then ja else if k = 6 then ba else a_int, aK, fun i => if i = 21 then ft else aV i, ⟨fun k q hq => ?_, fun k q hq => ?_⟩, ⟨fun i hi => ?_, hS.2⟩, ?_, fun q hq => va_Nw.of rfl (ht0 _ (z_nlt q hq)), hAO, hAW, hZ, ?_⟩
  · match k, hq with
    | 0, hq => cases hq; exact k0
    | 1, hq => cases hq; exact k1
    | 2, hq => cases hq; exact k2
    | 3, hq => cases hq; exact k3
    | 4, hq => cases hq; exact k4
    | 5, hq => cases hq; exact k5
    | 6, hq => cases hq; exact k6
    | 7, hq => cases hq; exact k7
    | 8, hq => cases hq; exact k8
    | 9, hq => cases hq; exact k9
    | 10, hq => cases hq; exact k10
    | 11, hq => cases hq; exact k11
    | 12, hq => cases hq; exact k12
    | (n + 13), hq => simp [vwCl] at hq
  · match k, hq with
    | 0, hq => cases hq; exact ⟨r_int, f_int⟩
    | 1, hq => cases hq; exact ⟨r_int, f_int⟩
    | 2, hq => cases hq; exact ⟨r_long, f_long⟩
    | 3, hq => cases hq; exact ⟨r_char, f_char⟩
    | 4, hq => cases hq; exact ⟨r_byte, f_byte⟩
    | 5, hq => cases hq; exact ⟨fun n z => ⟨fun k h => (by cases h), jk, j3, jc, j4⟩, j5⟩
    | 6, hq => cases hq; exact ⟨fun n z => ⟨fun k h => (by cases h), bk, b3, bc, b4⟩, bk, bc, b3, b4, b1, b5⟩
    | (n + 7), hq => simp [z_tys] at hq
  · have h1 := hS.1 i hi
    have e : z_aV (l_X l (fun k => if k = 0 then c0 else if k = 1 then c1 else if k = 2 then c2 else if k = 3 then c3 else if k = 4 then c4 else if k = 5 then c5 else if k = 6 then c6 else if k = 7 then c7 else if k = 8 then c8 else if k = 9 then c9 else if k = 10 then c10 else if k = 11 then c11 else c12, fun k => if k = 0 then i0 else if k = 1 then i1 else if k = 2 then i2 else if k = 3 then i3 else if k = 4 then i4 else if k = 5 then i5 else if k = 6 then i6 else if k = 7 then i7 else if k = 8 then i8 else if k = 9 then i9 else if k = 10 then i10 else if k = 11 then i11 else i12) (fun k => if k = 2 then a_long else if k = 3 then a_char else if k = 4 then a_byte else if k = 5 then ja else if k = 6 then ba else a_int) s.heap.size aK (fun i => if i = 21 then ft else aV i) 0 s.heap) i = aV i := if_neg (by omega)
    rw [e, s_bB]
    exact h1
  · exact List.forall_mem_cons.mpr ⟨vk_R.of (ht0 _ s_sr_Pa_70) (hev 0 (by decide)), List.forall_mem_cons.mpr ⟨vk_R.of (ht0 _ s_sr_Pa_83) (hev 1 (by decide)), List.forall_mem_cons.mpr ⟨vk_R.of (ht0 _ s_sr_Pa_88) (hev 2 (by decide)), List.forall_mem_cons.mpr ⟨vk_R.of (ht0 _ s_sr_Pa_162) (hev 3 (by decide)), List.forall_mem_cons.mpr ⟨vk_R.of (ht0 _ s_sr_Pa_93) (hev 4 (by decide)), List.forall_mem_cons.mpr ⟨vk_R.of (ht0 _ s_sr_Pa_156) (hev 5 (by decide)), List.forall_mem_cons.mpr ⟨vk_R.of (ht0 _ s_sr_Pa_182) (hev 6 (by decide)), List.forall_mem_cons.mpr ⟨vk_R.of (ht0 _ s_sr_Pg_42) (hev 7 (by decide)), List.forall_mem_cons.mpr ⟨vk_R.of (ht0 _ s_sr_Pg_44) (hev 8 (by decide)), List.forall_mem_cons.mpr ⟨vk_R.of (ht0 _ s_sr_Pg_46) (hev 9 (by decide)), List.forall_mem_cons.mpr ⟨vk_R.of (ht0 _ s_sr_Pg_48) (hev 10 (by decide)), List.forall_mem_cons.mpr ⟨vk_R.of (ht0 _ s_sr_Pg_50) (s_eqr (s_dup50 hn) (hev 4 (by decide))), List.forall_mem_cons.mpr ⟨vk_R.of (ht0 _ s_sr_Pg_52) (hev 11 (by decide)), List.forall_mem_cons.mpr ⟨vk_R.of (ht0 _ s_sr_Pg_54) (s_eqr (s_dup54 hn) (hev 1 (by decide))), List.forall_mem_cons.mpr ⟨vk_R.of (ht0 _ s_sr_Pg_56) (hev 12 (by decide)), List.forall_mem_cons.mpr ⟨vk_R.of (ht0 _ s_sr_Pg_58) (hev 13 (by decide)), List.forall_mem_cons.mpr ⟨vk_R.of (ht0 _ s_sr_Pg_60) (hev 14 (by decide)), List.forall_mem_cons.mpr ⟨vk_R.of (ht0 _ s_sr_Pg_62) (hev 15 (by decide)), List.forall_mem_cons.mpr ⟨vk_R.of (ht0 _ s_sr_Pg_64) (s_eqr (s_dup64 hn) (hev 6 (by decide))), List.forall_mem_cons.mpr ⟨vk_R.of (ht0 _ s_sr_Pa_235) (hev 16 (by decide)), List.forall_mem_cons.mpr ⟨vk_R.of (ht0 _ s_sr_Pa_236) (hev 17 (by decide)), List.forall_mem_cons.mpr ⟨vk_R.of (ht0 _ s_sr_Pa_238) (hev 18 (by decide)), List.forall_mem_cons.mpr ⟨vk_R.of (ht0 _ s_sr_Pa_240) (hev 19 (by decide)), List.forall_mem_cons.mpr ⟨vk_R.of (ht0 _ s_sr_M_169) (hev 20 (by decide)), fun q hq => by cases hq⟩⟩⟩⟩⟩⟩⟩⟩⟩⟩⟩⟩⟩⟩⟩⟩⟩⟩⟩⟩⟩⟩⟩⟩
  · rcases hF with h | h
    · exact Or.inl h
    · exact Or.inr h
theorem s_Inv {gx gm : z_G} (hx : kF0 gx) (hm : kM0 gm) : Inv gx gm := by
  obtain ⟨x0, x1, x2, x3, x4, x5, x6, x7, x8, x9, x10, x11, x12, x13, x14, x15, x16, x17, x18, x19, x20, x21, x22, x23, x24, ⟨κ, ex⟩, xr⟩ := hx
  obtain ⟨y0, y1, y2, y3, y4, y5, y6, y7, y8, y9, y10, y11, y12, y13, y14, y15, y16, y17, y18, y19, y20, y21, y22, ⟨κ', em⟩⟩ := hm
  refine ⟨by omega, by omega, by omega, ⟨fun t t0 t4 => ?_, ⟨by omega, by omega, by omega, fun i i1 i2 => by exfalso; omega⟩, ⟨by omega, by omega⟩, Or.inl ⟨by omega, by omega⟩, ⟨by omega, by omega, by omega⟩, fun j hj => by exfalso; omega, ?_, fun d hd => xr d hd⟩, Or.inl (by omega)⟩
  · rcases (show t = 0 ∨ t = 1 ∨ t = 2 ∨ t = 3 by omega) with rfl | rfl | rfl | rfl <;> exact ⟨by omega, by omega, by omega, by omega, by omega, by omega, fun i i1 i2 => by exfalso; omega⟩
  · refine ⟨⟨?_, ?_, ?_, ?_, ?_, ?_⟩, ⟨?_, ?_, ?_, ?_, ?_⟩, ⟨?_, ?_, ?_, fun k k0 k1 => ?_, fun j k j0 jk k1 => ?_⟩, ?_, Or.inl ⟨?_, ?_⟩⟩
    · show gx 23 0 = gm 1 (0 + 1); rw [show (0 : Int) + 1 = 1 by omega]; omega
    · show 1 ≤ gm 1 (0 + 1); rw [show (0 : Int) + 1 = 1 by omega]; omega
    · show gm 1 (0 + 1) ≤ 200; rw [show (0 : Int) + 1 = 1 by omega]; omega
    · show gx 23 1 = gm 1 (0 + 0); rw [show (0 : Int) + 0 = 0 by omega]; omega
    · show 0 ≤ gm 1 (0 + 0); rw [show (0 : Int) + 0 = 0 by omega]; omega
    · show gm 1 (0 + 0) ≤ 16; rw [show (0 : Int) + 0 = 0 by omega]; omega
    · show n_sp (gx 24 0) (gx 24 1) (gx 24 2) (gx 24 3)
      rw [x18, x19, x20, x21]; exact n_sp_root
    · show gx 24 0 + gx 24 2 = gm 1 (0 + 2); rw [show (0 : Int) + 2 = 2 by omega]; omega
    · show gx 24 1 + gx 24 3 = gm 1 (0 + 3); rw [show (0 : Int) + 3 = 3 by omega]; omega
    · show gm 1 (0 + 3) ≤ 9999; rw [show (0 : Int) + 3 = 3 by omega]; omega
    · show gx 24 4 = n_D (gm 1 (0 + 2)) (gm 1 (0 + 3))
      rw [show (0 : Int) + 2 = 2 by omega, show (0 : Int) + 3 = 3 by omega, x22, y19, y20, n_D_root]
    · show gx 25 3 = gm 1 (0 + 4); rw [show (0 : Int) + 4 = 4 by omega]; omega
    · show 0 ≤ gm 1 (0 + 4); rw [show (0 : Int) + 4 = 4 by omega]; omega
    · show gm 1 (0 + 4) ≤ 12; rw [show (0 : Int) + 4 = 4 by omega]; omega
    · have k1 : k < gm 1 (0 + 4) := k1
      rw [show (0 : Int) + 4 = 4 by omega] at k1; exfalso; omega
    · have k1 : k < gm 1 (0 + 4) := k1
      rw [show (0 : Int) + 4 = 4 by omega] at k1; exfalso; omega
    · have h0 : iV (fun j => if j = 6 then (fun _ => 0) else κ) (fun _ => 0) := by
        refine ⟨rfl, by show (0 : Int) ≤ 0; omega, by show (0 : Int) ≤ 200; omega, fun i j j0 j1 j2 => ?_, fun i j0 j1 => ?_, fun i j0 j1 => ?_, fun i j j0 j1 j2 => ?_⟩
        · have j2 : j < 0 := j2
          exfalso; omega
        · have j1 : i < 0 := j1
          exfalso; omega
        · have j1 : i < 0 := j1
          exfalso; omega
        · have j2 : j < 0 := j2
          exfalso; omega
      refine h0.step (key := 10002) ex ?_
      have e1 : (fun i => fM gm 0 (46 + i)) = fun i => gm 1 (46 + i) := funext fun i => by show gm 1 (0 + (46 + i)) = _; rw [Int.zero_add]
      have e2 : fM gm 0 5 = gm 1 5 := by show gm 1 (0 + 5) = _; rw [Int.zero_add]
      rw [e1, e2]
      rcases em with ⟨q | ⟨q, q0, q1, q2⟩, q3, q4⟩ | ⟨q0, q1, q2, q3, q4⟩
      · exfalso; omega
      · exfalso; omega
      · exact Or.inr ⟨q0, fun j j0 j1 => by exfalso; omega, q2, q3, fun j j0 j1 => by exfalso; omega⟩
    · show gx 31 0 = 0; exact x24
    · show gm 1 (0 + 6) = -1; rw [show (0 : Int) + 6 = 6 by omega]; omega

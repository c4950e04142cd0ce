/-! ## the law: its switch, its loop (printed by gen_law.py) -/
section LS
variable {p : Program} {l : Launch} {e : Env} {s : State} {m : MethodId} {below : List Frame} {meth : Method} {c : Code} {b L : Nat} {xs : Nat → Int32} {D : va_G} {A : Nat → ClassId} {aK aV : Nat → Nat} {H : Heap} {gx gm : z_G}
theorem l_sw (C0 : lw_At p s m meth c b L xs) {i : Int} {w : Int32} {off : Int} {tgt : Nat} (k : Nat) (hk : w.toInt = (k : Int)) (h58 : k ≤ 58) (ho : (#[251, 264, 278, 292, 335, 408, 442, 505, 568, 591, 614, 637, 660, 683, 706, 739, 772, 835, 868, 901, 934, 987, 1020, 1073, 1126, 1159, 1202, 1235, 1268, 1301, 1344, 1387, 1430, 1443, 1466, 1479, 1492, 1525, 1558, 1591, 1634, 1667, 1700, 1723, 1746, 1759, 1772, 1785, 1818, 1831, 1854, 1897, 1940, 1973, 1996, 2019, 2042, 2075, 2088] : Array Int)[k]? = some off) (ht : (33 : Int) + off = (tgt : Int)) (kk : l_J p l e s m below meth c b tgt i [] H) : l_J p l e s m below meth c b 33 i [.int w] H := fun locs Lc hL hq => lv_tableIn C0.1 C0.2.1 dl_33 (by omega) (by omega) (by rw [hk, show ((k : Int) - 0).toNat = k by omega]; exact ho) ht (kk locs Lc hL hq)
theorem l_swd (C0 : lw_At p s m meth c b L xs) {i : Int} {w : Int32} (h : w.toInt < 0 ∨ 58 < w.toInt) (kk : l_J p l e s m below meth c b 2134 i [] H) : l_J p l e s m below meth c b 33 i [.int w] H := fun locs Lc hL hq => lv_tableOut C0.1 C0.2.1 dl_33 h (by decide) (kk locs Lc hL hq)
theorem l_switch (C0 : lw_At p s m meth c b L xs) (hL3 : L ≤ 3072) {tl : Nat} (hK : z_K (l_X l D A s.heap.size aK aV tl s.heap) s) (hH : l_H l D A s.heap.size aK aV s.heap gx gm H) (I : Inv gx gm) {i : Int} (hi : 0 ≤ i ∧ i + 6 ≤ L) (nx : ∀ gx' gm' H', l_H l D A s.heap.size aK aV s.heap gx' gm' H' → Inv gx' gm' → l_J p l e s m below meth c b 2134 i [] H') (w : Int32) : l_J p l e s m below meth c b 33 i [.int w] H := by
  by_cases h0 : w.toInt = 0
  · exact l_sw C0 0 h0 (by decide) rfl (by decide) (l_c0 C0 hL3 hK hH I hi nx)
  by_cases h1 : w.toInt = 1
  · exact l_sw C0 1 h1 (by decide) rfl (by decide) (l_c1 C0 hL3 hK hH I hi nx)
  by_cases h2 : w.toInt = 2
  · exact l_sw C0 2 h2 (by decide) rfl (by decide) (l_c2 C0 hL3 hK hH I hi nx)
  by_cases h3 : w.toInt = 3
  · exact l_sw C0 3 h3 (by decide) rfl (by decide) (l_c3 C0 hL3 hK hH I hi nx)
  by_cases h4 : w.toInt = 4
  · exact l_sw C0 4 h4 (by decide) rfl (by decide) (l_c4 C0 hL3 hK hH I hi nx)
  by_cases h5 : w.toInt = 5
  · exact l_sw C0 5 h5 (by decide) rfl (by decide) (l_c5 C0 hL3 hK hH I hi nx)
  by_cases h6 : w.toInt = 6
  · exact l_sw C0 6 h6 (by decide) rfl (by decide) (l_c6 C0 hL3 hK hH I hi nx)
  by_cases h7 : w.toInt = 7
  · exact l_sw C0 7 h7 (by decide) rfl (by decide) (l_c7 C0 hL3 hK hH I hi nx)
  by_cases h8 : w.toInt = 8
  · exact l_sw C0 8 h8 (by decide) rfl (by decide) (l_c8 C0 hL3 hK hH I hi nx)
  by_cases h9 : w.toInt = 9
  · exact l_sw C0 9 h9 (by decide) rfl (by decide) (l_c9 C0 hL3 hK hH I hi nx)
  by_cases h10 : w.toInt = 10
  · exact l_sw C0 10 h10 (by decide) rfl (by decide) (l_c10 C0 hL3 hK hH I hi nx)
  by_cases h11 : w.toInt = 11
  · exact l_sw C0 11 h11 (by decide) rfl (by decide) (l_c11 C0 hL3 hK hH I hi nx)
  by_cases h12 : w.toInt = 12
  · exact l_sw C0 12 h12 (by decide) rfl (by decide) (l_c12 C0 hL3 hK hH I hi nx)
  by_cases h13 : w.toInt = 13
  · exact l_sw C0 13 h13 (by decide) rfl (by decide) (l_c13 C0 hL3 hK hH I hi nx)
  by_cases h14 : w.toInt = 14
  · exact l_sw C0 14 h14 (by decide) rfl (by decide) (l_c14 C0 hL3 hK hH I hi nx)
  by_cases h15 : w.toInt = 15
  · exact l_sw C0 15 h15 (by decide) rfl (by decide) (l_c15 C0 hL3 hK hH I hi nx)
  by_cases h16 : w.toInt = 16
  · exact l_sw C0 16 h16 (by decide) rfl (by decide) (l_c16 C0 hL3 hK hH I hi nx)
  by_cases h17 : w.toInt = 17
  · exact l_sw C0 17 h17 (by decide) rfl (by decide) (l_c17 C0 hL3 hK hH I hi nx)
  by_cases h18 : w.toInt = 18
  · exact l_sw C0 18 h18 (by decide) rfl (by decide) (l_c18 C0 hL3 hK hH I hi nx)
  by_cases h19 : w.toInt = 19
  · exact l_sw C0 19 h19 (by decide) rfl (by decide) (l_c19 C0 hL3 hK hH I hi nx)
  by_cases h20 : w.toInt = 20
  · exact l_sw C0 20 h20 (by decide) rfl (by decide) (l_c20 C0 hL3 hK hH I hi nx)
  by_cases h21 : w.toInt = 21
  · exact l_sw C0 21 h21 (by decide) rfl (by decide) (l_c21 C0 hL3 hK hH I hi nx)
  by_cases h22 : w.toInt = 22
  · exact l_sw C0 22 h22 (by decide) rfl (by decide) (l_c22 C0 hL3 hK hH I hi nx)
  by_cases h23 : w.toInt = 23
  · exact l_sw C0 23 h23 (by decide) rfl (by decide) (l_c23 C0 hL3 hK hH I hi nx)
  by_cases h24 : w.toInt = 24
  · exact l_sw C0 24 h24 (by decide) rfl (by decide) (l_c24 C0 hL3 hK hH I hi nx)
  by_cases h25 : w.toInt = 25
  · exact l_sw C0 25 h25 (by decide) rfl (by decide) (l_c25 C0 hL3 hK hH I hi nx)
  by_cases h26 : w.toInt = 26
  · exact l_sw C0 26 h26 (by decide) rfl (by decide) (l_c26 C0 hL3 hK hH I hi nx)
  by_cases h27 : w.toInt = 27
  · exact l_sw C0 27 h27 (by decide) rfl (by decide) (l_c27 C0 hL3 hK hH I hi nx)
  by_cases h28 : w.toInt = 28
  · exact l_sw C0 28 h28 (by decide) rfl (by decide) (l_c28 C0 hL3 hK hH I hi nx)
  by_cases h29 : w.toInt = 29
  · exact l_sw C0 29 h29 (by decide) rfl (by decide) (l_c29 C0 hL3 hK hH I hi nx)
  by_cases h30 : w.toInt = 30
  · exact l_sw C0 30 h30 (by decide) rfl (by decide) (l_c30 C0 hL3 hK hH I hi nx)
  by_cases h31 : w.toInt = 31
  · exact l_sw C0 31 h31 (by decide) rfl (by decide) (l_c31 C0 hL3 hK hH I hi nx)
  by_cases h32 : w.toInt = 32
  · exact l_sw C0 32 h32 (by decide) rfl (by decide) (l_c32 C0 hL3 hK hH I hi nx)
  by_cases h33 : w.toInt = 33
  · exact l_sw C0 33 h33 (by decide) rfl (by decide) (l_c33 C0 hL3 hK hH I hi nx)
  by_cases h34 : w.toInt = 34
  · exact l_sw C0 34 h34 (by decide) rfl (by decide) (l_c34 C0 hL3 hK hH I hi nx)
  by_cases h35 : w.toInt = 35
  · exact l_sw C0 35 h35 (by decide) rfl (by decide) (l_c35 C0 hL3 hK hH I hi nx)
  by_cases h36 : w.toInt = 36
  · exact l_sw C0 36 h36 (by decide) rfl (by decide) (l_c36 C0 hL3 hK hH I hi nx)
  by_cases h37 : w.toInt = 37
  · exact l_sw C0 37 h37 (by decide) rfl (by decide) (l_c37 C0 hL3 hK hH I hi nx)
  by_cases h38 : w.toInt = 38
  · exact l_sw C0 38 h38 (by decide) rfl (by decide) (l_c38 C0 hL3 hK hH I hi nx)
  by_cases h39 : w.toInt = 39
  · exact l_sw C0 39 h39 (by decide) rfl (by decide) (l_c39 C0 hL3 hK hH I hi nx)
  by_cases h40 : w.toInt = 40
  · exact l_sw C0 40 h40 (by decide) rfl (by decide) (l_c40 C0 hL3 hK hH I hi nx)
  by_cases h41 : w.toInt = 41
  · exact l_sw C0 41 h41 (by decide) rfl (by decide) (l_c41 C0 hL3 hK hH I hi nx)
  by_cases h42 : w.toInt = 42
  · exact l_sw C0 42 h42 (by decide) rfl (by decide) (l_c42 C0 hL3 hK hH I hi nx)
  by_cases h43 : w.toInt = 43
  · exact l_sw C0 43 h43 (by decide) rfl (by decide) (l_c43 C0 hL3 hK hH I hi nx)
  by_cases h44 : w.toInt = 44
  · exact l_sw C0 44 h44 (by decide) rfl (by decide) (l_c44 C0 hL3 hK hH I hi nx)
  by_cases h45 : w.toInt = 45
  · exact l_sw C0 45 h45 (by decide) rfl (by decide) (l_c45 C0 hL3 hK hH I hi nx)
  by_cases h46 : w.toInt = 46
  · exact l_sw C0 46 h46 (by decide) rfl (by decide) (l_c46 C0 hL3 hK hH I hi nx)
  by_cases h47 : w.toInt = 47
  · exact l_sw C0 47 h47 (by decide) rfl (by decide) (l_c47 C0 hL3 hK hH I hi nx)
  by_cases h48 : w.toInt = 48
  · exact l_sw C0 48 h48 (by decide) rfl (by decide) (l_c48 C0 hL3 hK hH I hi nx)
  by_cases h49 : w.toInt = 49
  · exact l_sw C0 49 h49 (by decide) rfl (by decide) (l_c49 C0 hL3 hK hH I hi nx)
  by_cases h50 : w.toInt = 50
  · exact l_sw C0 50 h50 (by decide) rfl (by decide) (l_c50 C0 hL3 hK hH I hi nx)
  by_cases h51 : w.toInt = 51
  · exact l_sw C0 51 h51 (by decide) rfl (by decide) (l_c51 C0 hL3 hK hH I hi nx)
  by_cases h52 : w.toInt = 52
  · exact l_sw C0 52 h52 (by decide) rfl (by decide) (l_c52 C0 hL3 hK hH I hi nx)
  by_cases h53 : w.toInt = 53
  · exact l_sw C0 53 h53 (by decide) rfl (by decide) (l_c53 C0 hL3 hK hH I hi nx)
  by_cases h54 : w.toInt = 54
  · exact l_sw C0 54 h54 (by decide) rfl (by decide) (l_c54 C0 hL3 hK hH I hi nx)
  by_cases h55 : w.toInt = 55
  · exact l_sw C0 55 h55 (by decide) rfl (by decide) (l_c55 C0 hL3 hK hH I hi nx)
  by_cases h56 : w.toInt = 56
  · exact l_sw C0 56 h56 (by decide) rfl (by decide) (l_c56 C0 hL3 hK hH I hi nx)
  by_cases h57 : w.toInt = 57
  · exact l_sw C0 57 h57 (by decide) rfl (by decide) (l_c57 C0 hL3 hK hH I hi nx)
  by_cases h58 : w.toInt = 58
  · exact l_sw C0 58 h58 (by decide) rfl (by decide) (l_c58 C0 hL3 hK hH I hi nx)
  exact l_swd C0 (by omega) (nx gx gm H hH I)
theorem l_end (C0 : lw_At p s m meth c b L xs) {i : Int} : l_J p l e s m below meth c b 2140 i [] H := fun locs Lc hL hq =>
  lv_iconst (v := 1) C0.1 C0.2.1 dl_2140 (by decide) (va_forget hq (W.widen (Nat.le_of_ble_eq_true rfl) (Nat.le_of_ble_eq_true rfl) (lw_ret C0.1 C0.2.1 C0.2.2.1 C0.2.2.2.2.2.2.2.2.1 dl_2141)))
theorem l_loop (C0 : lw_At p s m meth c b L xs) (hL3 : L ≤ 3072) {tl : Nat} (hK : z_K (l_X l D A s.heap.size aK aV tl s.heap) s) : ∀ (n : Nat) (i : Int) (gx gm : z_G) (H : Heap), (L : Int) ≤ i + 6 * n + 5 → 0 ≤ i → i ≤ 3078 → l_H l D A s.heap.size aK aV s.heap gx gm H → Inv gx gm → l_J p l e s m below meth c b 18 i [] H := by
  intro n
  have hd : ∀ (i : Int) (gx gm : z_G) (H : Heap), 0 ≤ i → i ≤ 3078 → l_H l D A s.heap.size aK aV s.heap gx gm H → ((L : Int) - 6 < i → l_J p l e s m below meth c b 2140 i [] H) → (¬ (L : Int) - 6 < i → l_J p l e s m below meth c b 27 i [] H) → l_J p l e s m below meth c b 18 i [] H := fun i gx gm H i0 i1 hH kt kf locs Lc hL hq => by
    have h0 := hL.2.2 (0, .ref b) (List.mem_of_getElem? (i := 0) rfl)
    have h3 := hL.2.2 (3, .int (Int32.ofInt i)) (List.mem_of_getElem? (i := 3) rfl)
    have hS : va_S (fun q : Nat => s.heap.size ≤ q) s.heap H locs := ⟨by rw [hH.1]; omega, fun q h1 _ => hH.2.1 q h1, hq⟩
    refine lv_iload_n C0.1 C0.2.1 dl_18 rfl h3 (lv_aload_n C0.1 C0.2.1 dl_19 rfl h0 (va_slen (A := fun q : Nat => s.heap.size ≤ q) C0.1 C0.2.1 C0.2.2.2.2.2.2.1 C0.2.2.2.2.2.2.2.1 (Nat.not_le.mpr C0.2.2.2.2.2.2.2.1) hS dl_20 (lv_bipush (v := 6) C0.1 C0.2.1 dl_21 (by decide) (lv_isub C0.1 C0.2.1 dl_23 ?_))))
    have e : Int32.ofNat L - 6 = Int32.ofInt ((L : Int) - 6) := by
      rw [Int32.ofInt_sub]; rfl
    rw [e]
    refine lv_icmp_gt (tgt := 2140) C0.1 C0.2.1 dl_24 (by decide) (fun h => kt ?_ locs Lc hL hq) (fun h => kf ?_ locs Lc hL hq)
    · rw [Int32.lt_iff_toInt_lt, z_i (by omega), z_i (by omega)] at h; exact h
    · rw [Int32.lt_iff_toInt_lt, z_i (by omega), z_i (by omega)] at h; exact h
  induction n with
  | zero => intro i gx gm H e1 e2 e3 hH I; exact hd i gx gm H e2 e3 hH (fun _ => l_end C0) (fun h => by exfalso; omega)
  | succ n ih =>
    intro i gx gm H e1 e2 e3 hH I
    refine hd i gx gm H e2 e3 hH (fun _ => l_end C0) (fun h => fun locs Lc hL hq => ?_)
    have h0 := hL.2.2 (0, .ref b) (List.mem_of_getElem? (i := 0) rfl)
    have h3 := hL.2.2 (3, .int (Int32.ofInt i)) (List.mem_of_getElem? (i := 3) rfl)
    have hS : va_S (fun q : Nat => s.heap.size ≤ q) s.heap H locs := ⟨by rw [hH.1]; omega, fun q h1 _ => hH.2.1 q h1, hq⟩
    refine lv_aload_n C0.1 C0.2.1 dl_27 rfl h0 (lv_iload_n C0.1 C0.2.1 dl_28 rfl h3 (va_sld (A := fun q : Nat => s.heap.size ≤ q) C0.1 C0.2.1 C0.2.2.2.2.2.2.1 C0.2.2.2.2.2.2.2.1 (Nat.not_le.mpr C0.2.2.2.2.2.2.2.1) hS (z_in_vp (by omega) (by omega)) dl_29 (lv_bipush (v := 63) C0.1 C0.2.1 dl_30 (by decide) (lv_iand C0.1 C0.2.1 dl_32 ?_))))
    exact l_switch C0 hL3 hK hH I ⟨e2, by omega⟩ (fun gx' gm' H' hH' I' => l_next C0 dl_2134 dl_2137 (ih (i + 6) gx' gm' H' (by omega) (by omega) (by omega) hH' I')) _ locs Lc hL hq
end LS

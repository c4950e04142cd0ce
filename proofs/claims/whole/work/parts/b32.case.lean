/-! ## the law: cases (printed by gen_law.py) -/
section LC
variable {p : Program} {l : Launch} {e : Env} {s : State} {m : MethodId} {below : List Frame} {meth : Method} {c : Code} {b L : Nat} {xs : Nat → Int32} {D : va_G} {A : Nat → ClassId} {aK aV : Nat → Nat} {H : Heap} {gx gm : z_G}
theorem l_c40 (C0 : lw_At p s m meth c b L xs) (hL3 : L ≤ 3072) {tl : Nat} (hK : z_K (l_X l D A s.heap.size aK aV tl s.heap) s) (hH : l_H l D A s.heap.size aK aV s.heap gx gm H) (I : Inv gx gm) {i : Int} (hi : 0 ≤ i ∧ i + 6 ≤ L) (nx : ∀ gx' gm' H', l_H l D A s.heap.size aK aV s.heap gx' gm' H' → Inv gx' gm' → l_J p l e s m below meth c b 2134 i [] H') : l_J p l e s m below meth c b 1667 i [] H := by
  refine l_ald1 C0 dl_1667 ?_
  refine l_arg C0 hH (k := 1) rfl (by omega) hL3 dl_1668 dl_1669 dl_1670 dl_1671 dl_1672 ?_
  refine l_arg C0 hH (k := 2) rfl (by omega) hL3 dl_1673 dl_1674 dl_1675 dl_1676 dl_1677 ?_
  refine l_callX (as := [(0, l_a xs i 1), (0, l_a xs i 2)]) (st := []) (d' := 4) C0 hK hH dl_1678 mi_F_lift ml_Law_191 mv_F_lift se_F_lift rfl rfl rfl (z_op (z_op (fun _ h => by cases h) (l_ar xs i _)) (l_ar xs i _)) rfl (by decide) (Qh := fun h' r gx' => z_O (l_Y l D A s.heap.size aK aV h') 4 m_M_lift [(2, 0), (0, l_a xs i 1), (0, l_a xs i 2)] 18 kS_M gm (fun r' gm' => r' = r ∧ Inv gx' gm')) (fun h' => o_lift l_layX l_layY I (l_ar xs i _) (l_ar xs i _)) fun r gx1 H1 _ hH1 hQ => ?_
  show l_J p l e s m below meth c b 1681 i [.int (Int32.ofInt r)] H1
  refine l_ald2 C0 dl_1681 ?_
  refine l_arg C0 hH1 (k := 1) rfl (by omega) hL3 dl_1682 dl_1683 dl_1684 dl_1685 dl_1686 ?_
  refine l_arg C0 hH1 (k := 2) rfl (by omega) hL3 dl_1687 dl_1688 dl_1689 dl_1690 dl_1691 ?_
  refine l_callY (as := [(0, l_a xs i 1), (0, l_a xs i 2)]) (st := [.int (Int32.ofInt r)]) (d' := 4) C0 hK hH1 dl_1692 mi_M_lift ml_Law_194 mv_M_lift se_M_lift rfl rfl rfl (z_op (z_op (fun _ h => by cases h) (l_ar xs i _)) (l_ar xs i _)) rfl (by simp [Value.category]) hQ fun r1 gm1 H2 _ hH2 hq => ?_
  show l_J p l e s m below meth c b 1695 i [.int (Int32.ofInt r1), .int (Int32.ofInt r)] H2
  rw [hq.1]
  exact l_cmpI C0 dl_1695 (by decide) (nx gx1 gm1 H2 hH2 hq.2)
theorem l_c41 (C0 : lw_At p s m meth c b L xs) (hL3 : L ≤ 3072) {tl : Nat} (hK : z_K (l_X l D A s.heap.size aK aV tl s.heap) s) (hH : l_H l D A s.heap.size aK aV s.heap gx gm H) (I : Inv gx gm) {i : Int} (hi : 0 ≤ i ∧ i + 6 ≤ L) (nx : ∀ gx' gm' H', l_H l D A s.heap.size aK aV s.heap gx' gm' H' → Inv gx' gm' → l_J p l e s m below meth c b 2134 i [] H') : l_J p l e s m below meth c b 1700 i [] H := by
  refine l_ald1 C0 dl_1700 ?_
  refine l_arg C0 hH (k := 1) rfl (by omega) hL3 dl_1701 dl_1702 dl_1703 dl_1704 dl_1705 ?_
  refine l_arg C0 hH (k := 2) rfl (by omega) hL3 dl_1706 dl_1707 dl_1708 dl_1709 dl_1710 ?_
  refine l_callX (as := [(0, l_a xs i 1), (0, l_a xs i 2)]) (st := []) (d' := 4) C0 hK hH dl_1711 mi_F_weight ml_Law_195 mv_F_weight se_F_weight rfl rfl rfl (z_op (z_op (fun _ h => by cases h) (l_ar xs i _)) (l_ar xs i _)) rfl (by decide) (Qh := fun h' r gx' => z_O (l_Y l D A s.heap.size aK aV h') 3 m_M_weight [(2, 0), (0, l_a xs i 1), (0, l_a xs i 2)] 18 kS_M gm (fun r' gm' => r' = r ∧ Inv gx' gm')) (fun h' => o_weight l_layX l_layY I (l_ar xs i _) (l_ar xs i _)) fun r gx1 H1 _ hH1 hQ => ?_
  show l_J p l e s m below meth c b 1714 i [.int (Int32.ofInt r)] H1
  refine l_ald2 C0 dl_1714 ?_
  refine l_arg C0 hH1 (k := 1) rfl (by omega) hL3 dl_1715 dl_1716 dl_1717 dl_1718 dl_1719 ?_
  refine l_arg C0 hH1 (k := 2) rfl (by omega) hL3 dl_1720 dl_1721 dl_1722 dl_1723 dl_1724 ?_
  refine l_callY (as := [(0, l_a xs i 1), (0, l_a xs i 2)]) (st := [.int (Int32.ofInt r)]) (d' := 3) C0 hK hH1 dl_1725 mi_M_weight ml_Law_198 mv_M_weight se_M_weight rfl rfl rfl (z_op (z_op (fun _ h => by cases h) (l_ar xs i _)) (l_ar xs i _)) rfl (by simp [Value.category]) hQ fun r1 gm1 H2 _ hH2 hq => ?_
  show l_J p l e s m below meth c b 1728 i [.int (Int32.ofInt r1), .int (Int32.ofInt r)] H2
  rw [hq.1]
  exact l_cmpI C0 dl_1728 (by decide) (nx gx1 gm1 H2 hH2 hq.2)
theorem l_c42 (C0 : lw_At p s m meth c b L xs) (hL3 : L ≤ 3072) {tl : Nat} (hK : z_K (l_X l D A s.heap.size aK aV tl s.heap) s) (hH : l_H l D A s.heap.size aK aV s.heap gx gm H) (I : Inv gx gm) {i : Int} (hi : 0 ≤ i ∧ i + 6 ≤ L) (nx : ∀ gx' gm' H', l_H l D A s.heap.size aK aV s.heap gx' gm' H' → Inv gx' gm' → l_J p l e s m below meth c b 2134 i [] H') : l_J p l e s m below meth c b 1733 i [] H := by
  refine l_ald1 C0 dl_1733 ?_
  refine l_arg C0 hH (k := 1) rfl (by omega) hL3 dl_1734 dl_1735 dl_1736 dl_1737 dl_1738 ?_
  refine l_callX (as := [(0, l_a xs i 1)]) (st := []) (d' := 4) C0 hK hH dl_1739 mi_F_pinAt ml_Law_199 mv_F_pinAt se_F_pinAt rfl rfl rfl (z_op (fun _ h => by cases h) (l_ar xs i _)) rfl (by decide) (Qh := fun h' r gx' => z_O (l_Y l D A s.heap.size aK aV h') 4 m_M_pinAt [(2, 0), (0, l_a xs i 1)] 18 kS_M gm (fun r' gm' => r' = r ∧ Inv gx' gm')) (fun h' => o_pinAt l_layX l_layY I (l_ar xs i _)) fun r gx1 H1 _ hH1 hQ => ?_
  show l_J p l e s m below meth c b 1742 i [.int (Int32.ofInt r)] H1
  refine l_ald2 C0 dl_1742 ?_
  refine l_arg C0 hH1 (k := 1) rfl (by omega) hL3 dl_1743 dl_1744 dl_1745 dl_1746 dl_1747 ?_
  refine l_callY (as := [(0, l_a xs i 1)]) (st := [.int (Int32.ofInt r)]) (d' := 4) C0 hK hH1 dl_1748 mi_M_pinAt ml_Law_202 mv_M_pinAt se_M_pinAt rfl rfl rfl (z_op (fun _ h => by cases h) (l_ar xs i _)) rfl (by simp [Value.category]) hQ fun r1 gm1 H2 _ hH2 hq => ?_
  show l_J p l e s m below meth c b 1751 i [.int (Int32.ofInt r1), .int (Int32.ofInt r)] H2
  rw [hq.1]
  exact l_cmpI C0 dl_1751 (by decide) (nx gx1 gm1 H2 hH2 hq.2)
theorem l_c43 (C0 : lw_At p s m meth c b L xs) (hL3 : L ≤ 3072) {tl : Nat} (hK : z_K (l_X l D A s.heap.size aK aV tl s.heap) s) (hH : l_H l D A s.heap.size aK aV s.heap gx gm H) (I : Inv gx gm) {i : Int} (hi : 0 ≤ i ∧ i + 6 ≤ L) (nx : ∀ gx' gm' H', l_H l D A s.heap.size aK aV s.heap gx' gm' H' → Inv gx' gm' → l_J p l e s m below meth c b 2134 i [] H') : l_J p l e s m below meth c b 1756 i [] H := by
  refine l_ald1 C0 dl_1756 ?_
  refine l_arg C0 hH (k := 1) rfl (by omega) hL3 dl_1757 dl_1758 dl_1759 dl_1760 dl_1761 ?_
  refine l_callX (as := [(0, l_a xs i 1)]) (st := []) (d' := 5) C0 hK hH dl_1762 mi_F_risingAt ml_Law_203 mv_F_risingAt se_F_risingAt rfl rfl rfl (z_op (fun _ h => by cases h) (l_ar xs i _)) rfl (by decide) (Qh := fun h' r gx' => z_O (l_Y l D A s.heap.size aK aV h') 5 m_M_risingAt [(2, 0), (0, l_a xs i 1)] 18 kS_M gm (fun r' gm' => r' = r ∧ Inv gx' gm')) (fun h' => o_risingAt l_layX l_layY I (l_ar xs i _)) fun r gx1 H1 _ hH1 hQ => ?_
  show l_J p l e s m below meth c b 1765 i [.int (Int32.ofInt r)] H1
  refine l_ald2 C0 dl_1765 ?_
  refine l_arg C0 hH1 (k := 1) rfl (by omega) hL3 dl_1766 dl_1767 dl_1768 dl_1769 dl_1770 ?_
  refine l_callY (as := [(0, l_a xs i 1)]) (st := [.int (Int32.ofInt r)]) (d' := 5) C0 hK hH1 dl_1771 mi_M_risingAt ml_Law_206 mv_M_risingAt se_M_risingAt rfl rfl rfl (z_op (fun _ h => by cases h) (l_ar xs i _)) rfl (by simp [Value.category]) hQ fun r1 gm1 H2 _ hH2 hq => ?_
  show l_J p l e s m below meth c b 1774 i [.int (Int32.ofInt r1), .int (Int32.ofInt r)] H2
  rw [hq.1]
  exact l_cmpI C0 dl_1774 (by decide) (nx gx1 gm1 H2 hH2 hq.2)
theorem l_c44 (C0 : lw_At p s m meth c b L xs) (hL3 : L ≤ 3072) {tl : Nat} (hK : z_K (l_X l D A s.heap.size aK aV tl s.heap) s) (hH : l_H l D A s.heap.size aK aV s.heap gx gm H) (I : Inv gx gm) {i : Int} (hi : 0 ≤ i ∧ i + 6 ≤ L) (nx : ∀ gx' gm' H', l_H l D A s.heap.size aK aV s.heap gx' gm' H' → Inv gx' gm' → l_J p l e s m below meth c b 2134 i [] H') : l_J p l e s m below meth c b 1779 i [] H := by
  refine l_ald1 C0 dl_1779 ?_
  refine l_callX (as := []) (st := []) (d' := 4) C0 hK hH dl_1780 mi_F_heaviest ml_Law_207 mv_F_heaviest se_F_heaviest rfl rfl rfl (fun _ h => by cases h) rfl (by decide) (Qh := fun h' r gx' => z_O (l_Y l D A s.heap.size aK aV h') 5 m_M_heaviest [(2, 0)] 18 kS_M gm (fun r' gm' => r' = r ∧ Inv gx' gm')) (fun h' => o_heaviest l_layX l_layY I ) fun r gx1 H1 _ hH1 hQ => ?_
  show l_J p l e s m below meth c b 1783 i [.int (Int32.ofInt r)] H1
  refine l_ald2 C0 dl_1783 ?_
  refine l_callY (as := []) (st := [.int (Int32.ofInt r)]) (d' := 5) C0 hK hH1 dl_1784 mi_M_heaviest ml_Law_210 mv_M_heaviest se_M_heaviest rfl rfl rfl (fun _ h => by cases h) rfl (by simp [Value.category]) hQ fun r1 gm1 H2 _ hH2 hq => ?_
  show l_J p l e s m below meth c b 1787 i [.int (Int32.ofInt r1), .int (Int32.ofInt r)] H2
  rw [hq.1]
  exact l_cmpI C0 dl_1787 (by decide) (nx gx1 gm1 H2 hH2 hq.2)
theorem l_c45 (C0 : lw_At p s m meth c b L xs) (hL3 : L ≤ 3072) {tl : Nat} (hK : z_K (l_X l D A s.heap.size aK aV tl s.heap) s) (hH : l_H l D A s.heap.size aK aV s.heap gx gm H) (I : Inv gx gm) {i : Int} (hi : 0 ≤ i ∧ i + 6 ≤ L) (nx : ∀ gx' gm' H', l_H l D A s.heap.size aK aV s.heap gx' gm' H' → Inv gx' gm' → l_J p l e s m below meth c b 2134 i [] H') : l_J p l e s m below meth c b 1792 i [] H := by
  refine l_ald1 C0 dl_1792 ?_
  refine l_callX (as := []) (st := []) (d' := 5) C0 hK hH dl_1793 mi_F_middle ml_Law_211 mv_F_middle se_F_middle rfl rfl rfl (fun _ h => by cases h) rfl (by decide) (Qh := fun h' r gx' => z_O (l_Y l D A s.heap.size aK aV h') 5 m_M_middle [(2, 0)] 18 kS_M gm (fun r' gm' => r' = r ∧ Inv gx' gm')) (fun h' => o_middle l_layX l_layY I ) fun r gx1 H1 _ hH1 hQ => ?_
  show l_J p l e s m below meth c b 1796 i [.int (Int32.ofInt r)] H1
  refine l_ald2 C0 dl_1796 ?_
  refine l_callY (as := []) (st := [.int (Int32.ofInt r)]) (d' := 5) C0 hK hH1 dl_1797 mi_M_middle ml_Law_214 mv_M_middle se_M_middle rfl rfl rfl (fun _ h => by cases h) rfl (by simp [Value.category]) hQ fun r1 gm1 H2 _ hH2 hq => ?_
  show l_J p l e s m below meth c b 1800 i [.int (Int32.ofInt r1), .int (Int32.ofInt r)] H2
  rw [hq.1]
  exact l_cmpI C0 dl_1800 (by decide) (nx gx1 gm1 H2 hH2 hq.2)
theorem l_c46 (C0 : lw_At p s m meth c b L xs) (hL3 : L ≤ 3072) {tl : Nat} (hK : z_K (l_X l D A s.heap.size aK aV tl s.heap) s) (hH : l_H l D A s.heap.size aK aV s.heap gx gm H) (I : Inv gx gm) {i : Int} (hi : 0 ≤ i ∧ i + 6 ≤ L) (nx : ∀ gx' gm' H', l_H l D A s.heap.size aK aV s.heap gx' gm' H' → Inv gx' gm' → l_J p l e s m below meth c b 2134 i [] H') : l_J p l e s m below meth c b 1805 i [] H := by
  refine l_ald1 C0 dl_1805 ?_
  refine l_callX (as := []) (st := []) (d' := 5) C0 hK hH dl_1806 mi_F_gap ml_Law_215 mv_F_gap se_F_gap rfl rfl rfl (fun _ h => by cases h) rfl (by decide) (Qh := fun h' r gx' => z_O (l_Y l D A s.heap.size aK aV h') 5 m_M_gap [(2, 0)] 18 kS_M gm (fun r' gm' => r' = r ∧ Inv gx' gm')) (fun h' => o_gap l_layX l_layY I ) fun r gx1 H1 _ hH1 hQ => ?_
  show l_J p l e s m below meth c b 1809 i [.int (Int32.ofInt r)] H1
  refine l_ald2 C0 dl_1809 ?_
  refine l_callY (as := []) (st := [.int (Int32.ofInt r)]) (d' := 5) C0 hK hH1 dl_1810 mi_M_gap ml_Law_218 mv_M_gap se_M_gap rfl rfl rfl (fun _ h => by cases h) rfl (by simp [Value.category]) hQ fun r1 gm1 H2 _ hH2 hq => ?_
  show l_J p l e s m below meth c b 1813 i [.int (Int32.ofInt r1), .int (Int32.ofInt r)] H2
  rw [hq.1]
  exact l_cmpI C0 dl_1813 (by decide) (nx gx1 gm1 H2 hH2 hq.2)
theorem l_c47 (C0 : lw_At p s m meth c b L xs) (hL3 : L ≤ 3072) {tl : Nat} (hK : z_K (l_X l D A s.heap.size aK aV tl s.heap) s) (hH : l_H l D A s.heap.size aK aV s.heap gx gm H) (I : Inv gx gm) {i : Int} (hi : 0 ≤ i ∧ i + 6 ≤ L) (nx : ∀ gx' gm' H', l_H l D A s.heap.size aK aV s.heap gx' gm' H' → Inv gx' gm' → l_J p l e s m below meth c b 2134 i [] H') : l_J p l e s m below meth c b 1818 i [] H := by
  refine l_ald1 C0 dl_1818 ?_
  refine l_arg C0 hH (k := 1) rfl (by omega) hL3 dl_1819 dl_1820 dl_1821 dl_1822 dl_1823 ?_
  refine l_arg C0 hH (k := 2) rfl (by omega) hL3 dl_1824 dl_1825 dl_1826 dl_1827 dl_1828 ?_
  refine l_callX (as := [(0, l_a xs i 1), (0, l_a xs i 2)]) (st := []) (d' := 4) C0 hK hH dl_1829 mi_F_share ml_Law_219 mv_F_share se_F_share rfl rfl rfl (z_op (z_op (fun _ h => by cases h) (l_ar xs i _)) (l_ar xs i _)) rfl (by decide) (Qh := fun h' r gx' => z_O (l_Y l D A s.heap.size aK aV h') 4 m_M_share [(2, 0), (0, l_a xs i 1), (0, l_a xs i 2)] 18 kS_M gm (fun r' gm' => r' = r ∧ Inv gx' gm')) (fun h' => o_share l_layX l_layY I (l_ar xs i _) (l_ar xs i _)) fun r gx1 H1 _ hH1 hQ => ?_
  show l_J p l e s m below meth c b 1832 i [.int (Int32.ofInt r)] H1
  refine l_ald2 C0 dl_1832 ?_
  refine l_arg C0 hH1 (k := 1) rfl (by omega) hL3 dl_1833 dl_1834 dl_1835 dl_1836 dl_1837 ?_
  refine l_arg C0 hH1 (k := 2) rfl (by omega) hL3 dl_1838 dl_1839 dl_1840 dl_1841 dl_1842 ?_
  refine l_callY (as := [(0, l_a xs i 1), (0, l_a xs i 2)]) (st := [.int (Int32.ofInt r)]) (d' := 4) C0 hK hH1 dl_1843 mi_M_share ml_Law_222 mv_M_share se_M_share rfl rfl rfl (z_op (z_op (fun _ h => by cases h) (l_ar xs i _)) (l_ar xs i _)) rfl (by simp [Value.category]) hQ fun r1 gm1 H2 _ hH2 hq => ?_
  show l_J p l e s m below meth c b 1846 i [.int (Int32.ofInt r1), .int (Int32.ofInt r)] H2
  rw [hq.1]
  exact l_cmpI C0 dl_1846 (by decide) (nx gx1 gm1 H2 hH2 hq.2)
theorem l_c48 (C0 : lw_At p s m meth c b L xs) (hL3 : L ≤ 3072) {tl : Nat} (hK : z_K (l_X l D A s.heap.size aK aV tl s.heap) s) (hH : l_H l D A s.heap.size aK aV s.heap gx gm H) (I : Inv gx gm) {i : Int} (hi : 0 ≤ i ∧ i + 6 ≤ L) (nx : ∀ gx' gm' H', l_H l D A s.heap.size aK aV s.heap gx' gm' H' → Inv gx' gm' → l_J p l e s m below meth c b 2134 i [] H') : l_J p l e s m below meth c b 1851 i [] H := by
  refine l_ald1 C0 dl_1851 ?_
  refine l_callX (as := []) (st := []) (d' := 2) C0 hK hH dl_1852 mi_F_pinsOfRow ml_Law_223 mv_F_pinsOfRow se_F_pinsOfRow rfl rfl rfl (fun _ h => by cases h) rfl (by decide) (Qh := fun h' r gx' => z_O (l_Y l D A s.heap.size aK aV h') 3 m_M_pinsOfRow [(2, 0)] 18 kS_M gm (fun r' gm' => r' = r ∧ Inv gx' gm')) (fun h' => o_pinsOfRow l_layX l_layY I ) fun r gx1 H1 _ hH1 hQ => ?_
  show l_J p l e s m below meth c b 1855 i [.int (Int32.ofInt r)] H1
  refine l_ald2 C0 dl_1855 ?_
  refine l_callY (as := []) (st := [.int (Int32.ofInt r)]) (d' := 3) C0 hK hH1 dl_1856 mi_M_pinsOfRow ml_Law_226 mv_M_pinsOfRow se_M_pinsOfRow rfl rfl rfl (fun _ h => by cases h) rfl (by simp [Value.category]) hQ fun r1 gm1 H2 _ hH2 hq => ?_
  show l_J p l e s m below meth c b 1859 i [.int (Int32.ofInt r1), .int (Int32.ofInt r)] H2
  rw [hq.1]
  exact l_cmpI C0 dl_1859 (by decide) (nx gx1 gm1 H2 hH2 hq.2)
theorem l_c49 (C0 : lw_At p s m meth c b L xs) (hL3 : L ≤ 3072) {tl : Nat} (hK : z_K (l_X l D A s.heap.size aK aV tl s.heap) s) (hH : l_H l D A s.heap.size aK aV s.heap gx gm H) (I : Inv gx gm) {i : Int} (hi : 0 ≤ i ∧ i + 6 ≤ L) (nx : ∀ gx' gm' H', l_H l D A s.heap.size aK aV s.heap gx' gm' H' → Inv gx' gm' → l_J p l e s m below meth c b 2134 i [] H') : l_J p l e s m below meth c b 1864 i [] H := by
  refine l_ald1 C0 dl_1864 ?_
  refine l_arg C0 hH (k := 1) rfl (by omega) hL3 dl_1865 dl_1866 dl_1867 dl_1868 dl_1869 ?_
  refine l_callX (as := [(0, l_a xs i 1)]) (st := []) (d' := 5) C0 hK hH dl_1870 mi_F_copyPins ml_Law_227 mv_F_copyPins se_F_copyPins rfl rfl rfl (z_op (fun _ h => by cases h) (l_ar xs i _)) rfl (by decide) (Qh := fun h' r gx' => z_O (l_Y l D A s.heap.size aK aV h') 3 m_M_copyPins [(2, 0), (0, l_a xs i 1)] 18 kS_M gm (fun r' gm' => r' = r ∧ Inv gx' gm')) (fun h' => o_copyPins l_layX l_layY I (l_ar xs i _)) fun r gx1 H1 _ hH1 hQ => ?_
  show l_J p l e s m below meth c b 1873 i [.int (Int32.ofInt r)] H1
  refine l_ald2 C0 dl_1873 ?_
  refine l_arg C0 hH1 (k := 1) rfl (by omega) hL3 dl_1874 dl_1875 dl_1876 dl_1877 dl_1878 ?_
  refine l_callY (as := [(0, l_a xs i 1)]) (st := [.int (Int32.ofInt r)]) (d' := 3) C0 hK hH1 dl_1879 mi_M_copyPins ml_Law_230 mv_M_copyPins se_M_copyPins rfl rfl rfl (z_op (fun _ h => by cases h) (l_ar xs i _)) rfl (by simp [Value.category]) hQ fun r1 gm1 H2 _ hH2 hq => ?_
  show l_J p l e s m below meth c b 1882 i [.int (Int32.ofInt r1), .int (Int32.ofInt r)] H2
  rw [hq.1]
  exact l_cmpI C0 dl_1882 (by decide) (nx gx1 gm1 H2 hH2 hq.2)
theorem l_c50 (C0 : lw_At p s m meth c b L xs) (hL3 : L ≤ 3072) {tl : Nat} (hK : z_K (l_X l D A s.heap.size aK aV tl s.heap) s) (hH : l_H l D A s.heap.size aK aV s.heap gx gm H) (I : Inv gx gm) {i : Int} (hi : 0 ≤ i ∧ i + 6 ≤ L) (nx : ∀ gx' gm' H', l_H l D A s.heap.size aK aV s.heap gx' gm' H' → Inv gx' gm' → l_J p l e s m below meth c b 2134 i [] H') : l_J p l e s m below meth c b 1887 i [] H := by
  refine l_ald1 C0 dl_1887 ?_
  refine l_arg C0 hH (k := 1) rfl (by omega) hL3 dl_1888 dl_1889 dl_1890 dl_1891 dl_1892 ?_
  refine l_arg C0 hH (k := 2) rfl (by omega) hL3 dl_1893 dl_1894 dl_1895 dl_1896 dl_1897 ?_
  refine l_arg C0 hH (k := 3) rfl (by omega) hL3 dl_1898 dl_1899 dl_1900 dl_1901 dl_1902 ?_
  refine l_callX (as := [(0, l_a xs i 1), (0, l_a xs i 2), (0, l_a xs i 3)]) (st := []) (d' := 15) C0 hK hH dl_1903 mi_F_game ml_Law_231 mv_F_game se_F_game rfl rfl rfl (z_op (z_op (z_op (fun _ h => by cases h) (l_ar xs i _)) (l_ar xs i _)) (l_ar xs i _)) rfl (by decide) (Qh := fun h' r gx' => z_O (l_Y l D A s.heap.size aK aV h') 3 m_M_game [(2, 0), (0, l_a xs i 1), (0, l_a xs i 2), (0, l_a xs i 3)] 18 kS_M gm (fun r' gm' => r' = r ∧ Inv gx' gm')) (fun h' => o_game l_layX l_layY I (l_ar xs i _) (l_ar xs i _) (l_ar xs i _)) fun r gx1 H1 _ hH1 hQ => ?_
  show l_J p l e s m below meth c b 1906 i [.int (Int32.ofInt r)] H1
  refine l_ald2 C0 dl_1906 ?_
  refine l_arg C0 hH1 (k := 1) rfl (by omega) hL3 dl_1907 dl_1908 dl_1909 dl_1910 dl_1911 ?_
  refine l_arg C0 hH1 (k := 2) rfl (by omega) hL3 dl_1912 dl_1913 dl_1914 dl_1915 dl_1916 ?_
  refine l_arg C0 hH1 (k := 3) rfl (by omega) hL3 dl_1917 dl_1918 dl_1919 dl_1920 dl_1921 ?_
  refine l_callY (as := [(0, l_a xs i 1), (0, l_a xs i 2), (0, l_a xs i 3)]) (st := [.int (Int32.ofInt r)]) (d' := 3) C0 hK hH1 dl_1922 mi_M_game ml_Law_234 mv_M_game se_M_game rfl rfl rfl (z_op (z_op (z_op (fun _ h => by cases h) (l_ar xs i _)) (l_ar xs i _)) (l_ar xs i _)) rfl (by simp [Value.category]) hQ fun r1 gm1 H2 _ hH2 hq => ?_
  show l_J p l e s m below meth c b 1925 i [.int (Int32.ofInt r1), .int (Int32.ofInt r)] H2
  rw [hq.1]
  exact l_cmpI C0 dl_1925 (by decide) (nx gx1 gm1 H2 hH2 hq.2)
theorem l_c51 (C0 : lw_At p s m meth c b L xs) (hL3 : L ≤ 3072) {tl : Nat} (hK : z_K (l_X l D A s.heap.size aK aV tl s.heap) s) (hH : l_H l D A s.heap.size aK aV s.heap gx gm H) (I : Inv gx gm) {i : Int} (hi : 0 ≤ i ∧ i + 6 ≤ L) (nx : ∀ gx' gm' H', l_H l D A s.heap.size aK aV s.heap gx' gm' H' → Inv gx' gm' → l_J p l e s m below meth c b 2134 i [] H') : l_J p l e s m below meth c b 1930 i [] H := by
  refine l_ald1 C0 dl_1930 ?_
  refine l_arg C0 hH (k := 1) rfl (by omega) hL3 dl_1931 dl_1932 dl_1933 dl_1934 dl_1935 ?_
  refine l_arg C0 hH (k := 2) rfl (by omega) hL3 dl_1936 dl_1937 dl_1938 dl_1939 dl_1940 ?_
  refine l_arg C0 hH (k := 3) rfl (by omega) hL3 dl_1941 dl_1942 dl_1943 dl_1944 dl_1945 ?_
  refine l_callX (as := [(0, l_a xs i 1), (0, l_a xs i 2), (0, l_a xs i 3)]) (st := []) (d' := 15) C0 hK hH dl_1946 mi_F_moveOf ml_Law_235 mv_F_moveOf se_F_moveOf rfl rfl rfl (z_op (z_op (z_op (fun _ h => by cases h) (l_ar xs i _)) (l_ar xs i _)) (l_ar xs i _)) rfl (by decide) (Qh := fun h' r gx' => z_O (l_Y l D A s.heap.size aK aV h') 3 m_M_moveOf [(2, 0), (0, l_a xs i 1), (0, l_a xs i 2), (0, l_a xs i 3)] 18 kS_M gm (fun r' gm' => r' = r ∧ Inv gx' gm')) (fun h' => o_moveOf l_layX l_layY I (l_ar xs i _) (l_ar xs i _) (l_ar xs i _)) fun r gx1 H1 _ hH1 hQ => ?_
  show l_J p l e s m below meth c b 1949 i [.int (Int32.ofInt r)] H1
  refine l_ald2 C0 dl_1949 ?_
  refine l_arg C0 hH1 (k := 1) rfl (by omega) hL3 dl_1950 dl_1951 dl_1952 dl_1953 dl_1954 ?_
  refine l_arg C0 hH1 (k := 2) rfl (by omega) hL3 dl_1955 dl_1956 dl_1957 dl_1958 dl_1959 ?_
  refine l_arg C0 hH1 (k := 3) rfl (by omega) hL3 dl_1960 dl_1961 dl_1962 dl_1963 dl_1964 ?_
  refine l_callY (as := [(0, l_a xs i 1), (0, l_a xs i 2), (0, l_a xs i 3)]) (st := [.int (Int32.ofInt r)]) (d' := 3) C0 hK hH1 dl_1965 mi_M_moveOf ml_Law_238 mv_M_moveOf se_M_moveOf rfl rfl rfl (z_op (z_op (z_op (fun _ h => by cases h) (l_ar xs i _)) (l_ar xs i _)) (l_ar xs i _)) rfl (by simp [Value.category]) hQ fun r1 gm1 H2 _ hH2 hq => ?_
  show l_J p l e s m below meth c b 1968 i [.int (Int32.ofInt r1), .int (Int32.ofInt r)] H2
  rw [hq.1]
  exact l_cmpI C0 dl_1968 (by decide) (nx gx1 gm1 H2 hH2 hq.2)
theorem l_c52 (C0 : lw_At p s m meth c b L xs) (hL3 : L ≤ 3072) {tl : Nat} (hK : z_K (l_X l D A s.heap.size aK aV tl s.heap) s) (hH : l_H l D A s.heap.size aK aV s.heap gx gm H) (I : Inv gx gm) {i : Int} (hi : 0 ≤ i ∧ i + 6 ≤ L) (nx : ∀ gx' gm' H', l_H l D A s.heap.size aK aV s.heap gx' gm' H' → Inv gx' gm' → l_J p l e s m below meth c b 2134 i [] H') : l_J p l e s m below meth c b 1973 i [] H := by
  refine l_ald1 C0 dl_1973 ?_
  refine l_arg C0 hH (k := 1) rfl (by omega) hL3 dl_1974 dl_1975 dl_1976 dl_1977 dl_1978 ?_
  refine l_arg C0 hH (k := 2) rfl (by omega) hL3 dl_1979 dl_1980 dl_1981 dl_1982 dl_1983 ?_
  refine l_callX (as := [(0, l_a xs i 1), (0, l_a xs i 2)]) (st := []) (d' := 3) C0 hK hH dl_1984 mi_F_wrong ml_Law_239 mv_F_wrong se_F_wrong rfl rfl rfl (z_op (z_op (fun _ h => by cases h) (l_ar xs i _)) (l_ar xs i _)) rfl (by decide) (Qh := fun h' r gx' => z_O (l_Y l D A s.heap.size aK aV h') 3 m_M_wrong [(2, 0), (0, l_a xs i 1), (0, l_a xs i 2)] 18 kS_M gm (fun r' gm' => r' = r ∧ Inv gx' gm')) (fun h' => o_wrong l_layX l_layY I (l_ar xs i _) (l_ar xs i _)) fun r gx1 H1 _ hH1 hQ => ?_
  show l_J p l e s m below meth c b 1987 i [.int (Int32.ofInt r)] H1
  refine l_ald2 C0 dl_1987 ?_
  refine l_arg C0 hH1 (k := 1) rfl (by omega) hL3 dl_1988 dl_1989 dl_1990 dl_1991 dl_1992 ?_
  refine l_arg C0 hH1 (k := 2) rfl (by omega) hL3 dl_1993 dl_1994 dl_1995 dl_1996 dl_1997 ?_
  refine l_callY (as := [(0, l_a xs i 1), (0, l_a xs i 2)]) (st := [.int (Int32.ofInt r)]) (d' := 3) C0 hK hH1 dl_1998 mi_M_wrong ml_Law_242 mv_M_wrong se_M_wrong rfl rfl rfl (z_op (z_op (fun _ h => by cases h) (l_ar xs i _)) (l_ar xs i _)) rfl (by simp [Value.category]) hQ fun r1 gm1 H2 _ hH2 hq => ?_
  show l_J p l e s m below meth c b 2001 i [.int (Int32.ofInt r1), .int (Int32.ofInt r)] H2
  rw [hq.1]
  exact l_cmpI C0 dl_2001 (by decide) (nx gx1 gm1 H2 hH2 hq.2)
theorem l_c53 (C0 : lw_At p s m meth c b L xs) (hL3 : L ≤ 3072) {tl : Nat} (hK : z_K (l_X l D A s.heap.size aK aV tl s.heap) s) (hH : l_H l D A s.heap.size aK aV s.heap gx gm H) (I : Inv gx gm) {i : Int} (hi : 0 ≤ i ∧ i + 6 ≤ L) (nx : ∀ gx' gm' H', l_H l D A s.heap.size aK aV s.heap gx' gm' H' → Inv gx' gm' → l_J p l e s m below meth c b 2134 i [] H') : l_J p l e s m below meth c b 2006 i [] H := by
  refine l_ald1 C0 dl_2006 ?_
  refine l_arg C0 hH (k := 1) rfl (by omega) hL3 dl_2007 dl_2008 dl_2009 dl_2010 dl_2011 ?_
  refine l_callX (as := [(0, l_a xs i 1)]) (st := []) (d' := 3) C0 hK hH dl_2012 mi_F_part ml_Law_243 mv_F_part se_F_part rfl rfl rfl (z_op (fun _ h => by cases h) (l_ar xs i _)) rfl (by decide) (Qh := fun h' r gx' => z_O (l_Y l D A s.heap.size aK aV h') 4 m_M_part [(2, 0), (0, l_a xs i 1)] 18 kS_M gm (fun r' gm' => r' = r ∧ Inv gx' gm')) (fun h' => o_part l_layX l_layY I (l_ar xs i _)) fun r gx1 H1 _ hH1 hQ => ?_
  show l_J p l e s m below meth c b 2015 i [.int (Int32.ofInt r)] H1
  refine l_ald2 C0 dl_2015 ?_
  refine l_arg C0 hH1 (k := 1) rfl (by omega) hL3 dl_2016 dl_2017 dl_2018 dl_2019 dl_2020 ?_
  refine l_callY (as := [(0, l_a xs i 1)]) (st := [.int (Int32.ofInt r)]) (d' := 4) C0 hK hH1 dl_2021 mi_M_part ml_Law_246 mv_M_part se_M_part rfl rfl rfl (z_op (fun _ h => by cases h) (l_ar xs i _)) rfl (by simp [Value.category]) hQ fun r1 gm1 H2 _ hH2 hq => ?_
  show l_J p l e s m below meth c b 2024 i [.int (Int32.ofInt r1), .int (Int32.ofInt r)] H2
  rw [hq.1]
  exact l_cmpI C0 dl_2024 (by decide) (nx gx1 gm1 H2 hH2 hq.2)
theorem l_c54 (C0 : lw_At p s m meth c b L xs) (hL3 : L ≤ 3072) {tl : Nat} (hK : z_K (l_X l D A s.heap.size aK aV tl s.heap) s) (hH : l_H l D A s.heap.size aK aV s.heap gx gm H) (I : Inv gx gm) {i : Int} (hi : 0 ≤ i ∧ i + 6 ≤ L) (nx : ∀ gx' gm' H', l_H l D A s.heap.size aK aV s.heap gx' gm' H' → Inv gx' gm' → l_J p l e s m below meth c b 2134 i [] H') : l_J p l e s m below meth c b 2029 i [] H := by
  refine l_ald1 C0 dl_2029 ?_
  refine l_arg C0 hH (k := 1) rfl (by omega) hL3 dl_2030 dl_2031 dl_2032 dl_2033 dl_2034 ?_
  refine l_callX (as := [(0, l_a xs i 1)]) (st := []) (d' := 8) C0 hK hH dl_2035 mi_F_live ml_Law_247 mv_F_live se_F_live rfl rfl rfl (z_op (fun _ h => by cases h) (l_ar xs i _)) rfl (by decide) (Qh := fun h' r gx' => z_O (l_Y l D A s.heap.size aK aV h') 7 m_M_live [(2, 0), (0, l_a xs i 1)] 18 kS_M gm (fun r' gm' => r' = r ∧ Inv gx' gm')) (fun h' => o_live l_layX l_layY I (l_ar xs i _)) fun r gx1 H1 _ hH1 hQ => ?_
  show l_J p l e s m below meth c b 2038 i [.int (Int32.ofInt r)] H1
  refine l_ald2 C0 dl_2038 ?_
  refine l_arg C0 hH1 (k := 1) rfl (by omega) hL3 dl_2039 dl_2040 dl_2041 dl_2042 dl_2043 ?_
  refine l_callY (as := [(0, l_a xs i 1)]) (st := [.int (Int32.ofInt r)]) (d' := 7) C0 hK hH1 dl_2044 mi_M_live ml_Law_250 mv_M_live se_M_live rfl rfl rfl (z_op (fun _ h => by cases h) (l_ar xs i _)) rfl (by simp [Value.category]) hQ fun r1 gm1 H2 _ hH2 hq => ?_
  show l_J p l e s m below meth c b 2047 i [.int (Int32.ofInt r1), .int (Int32.ofInt r)] H2
  rw [hq.1]
  exact l_cmpI C0 dl_2047 (by decide) (nx gx1 gm1 H2 hH2 hq.2)
theorem l_c55 (C0 : lw_At p s m meth c b L xs) (hL3 : L ≤ 3072) {tl : Nat} (hK : z_K (l_X l D A s.heap.size aK aV tl s.heap) s) (hH : l_H l D A s.heap.size aK aV s.heap gx gm H) (I : Inv gx gm) {i : Int} (hi : 0 ≤ i ∧ i + 6 ≤ L) (nx : ∀ gx' gm' H', l_H l D A s.heap.size aK aV s.heap gx' gm' H' → Inv gx' gm' → l_J p l e s m below meth c b 2134 i [] H') : l_J p l e s m below meth c b 2052 i [] H := by
  refine l_ald1 C0 dl_2052 ?_
  refine l_arg C0 hH (k := 1) rfl (by omega) hL3 dl_2053 dl_2054 dl_2055 dl_2056 dl_2057 ?_
  refine l_callX (as := [(0, l_a xs i 1)]) (st := []) (d' := 2) C0 hK hH dl_2058 mi_F_lived ml_Law_251 mv_F_lived se_F_lived rfl rfl rfl (z_op (fun _ h => by cases h) (l_ar xs i _)) rfl (by decide) (Qh := fun h' r gx' => z_O (l_Y l D A s.heap.size aK aV h') 2 m_M_lived [(2, 0), (0, l_a xs i 1)] 18 kS_M gm (fun r' gm' => r' = r ∧ Inv gx' gm')) (fun h' => o_lived l_layX l_layY I (l_ar xs i _)) fun r gx1 H1 _ hH1 hQ => ?_
  show l_J p l e s m below meth c b 2061 i [.int (Int32.ofInt r)] H1
  refine l_ald2 C0 dl_2061 ?_
  refine l_arg C0 hH1 (k := 1) rfl (by omega) hL3 dl_2062 dl_2063 dl_2064 dl_2065 dl_2066 ?_
  refine l_callY (as := [(0, l_a xs i 1)]) (st := [.int (Int32.ofInt r)]) (d' := 2) C0 hK hH1 dl_2067 mi_M_lived ml_Law_254 mv_M_lived se_M_lived rfl rfl rfl (z_op (fun _ h => by cases h) (l_ar xs i _)) rfl (by simp [Value.category]) hQ fun r1 gm1 H2 _ hH2 hq => ?_
  show l_J p l e s m below meth c b 2070 i [.int (Int32.ofInt r1), .int (Int32.ofInt r)] H2
  rw [hq.1]
  exact l_cmpI C0 dl_2070 (by decide) (nx gx1 gm1 H2 hH2 hq.2)
theorem l_c56 (C0 : lw_At p s m meth c b L xs) (hL3 : L ≤ 3072) {tl : Nat} (hK : z_K (l_X l D A s.heap.size aK aV tl s.heap) s) (hH : l_H l D A s.heap.size aK aV s.heap gx gm H) (I : Inv gx gm) {i : Int} (hi : 0 ≤ i ∧ i + 6 ≤ L) (nx : ∀ gx' gm' H', l_H l D A s.heap.size aK aV s.heap gx' gm' H' → Inv gx' gm' → l_J p l e s m below meth c b 2134 i [] H') : l_J p l e s m below meth c b 2075 i [] H := by
  refine l_ald1 C0 dl_2075 ?_
  refine l_arg C0 hH (k := 1) rfl (by omega) hL3 dl_2076 dl_2077 dl_2078 dl_2079 dl_2080 ?_
  refine l_arg C0 hH (k := 2) rfl (by omega) hL3 dl_2081 dl_2082 dl_2083 dl_2084 dl_2085 ?_
  refine l_callX (as := [(0, l_a xs i 1), (0, l_a xs i 2)]) (st := []) (d' := 8) C0 hK hH dl_2086 mi_F_mean ml_Law_255 mv_F_mean se_F_mean rfl rfl rfl (z_op (z_op (fun _ h => by cases h) (l_ar xs i _)) (l_ar xs i _)) rfl (by decide) (Qh := fun h' r gx' => z_O (l_Y l D A s.heap.size aK aV h') 7 m_M_mean [(2, 0), (0, l_a xs i 1), (0, l_a xs i 2)] 18 kS_M gm (fun r' gm' => r' = r ∧ Inv gx' gm')) (fun h' => o_mean l_layX l_layY I (l_ar xs i _) (l_ar xs i _)) fun r gx1 H1 _ hH1 hQ => ?_
  show l_J p l e s m below meth c b 2089 i [.int (Int32.ofInt r)] H1
  refine l_ald2 C0 dl_2089 ?_
  refine l_arg C0 hH1 (k := 1) rfl (by omega) hL3 dl_2090 dl_2091 dl_2092 dl_2093 dl_2094 ?_
  refine l_arg C0 hH1 (k := 2) rfl (by omega) hL3 dl_2095 dl_2096 dl_2097 dl_2098 dl_2099 ?_
  refine l_callY (as := [(0, l_a xs i 1), (0, l_a xs i 2)]) (st := [.int (Int32.ofInt r)]) (d' := 7) C0 hK hH1 dl_2100 mi_M_mean ml_Law_258 mv_M_mean se_M_mean rfl rfl rfl (z_op (z_op (fun _ h => by cases h) (l_ar xs i _)) (l_ar xs i _)) rfl (by simp [Value.category]) hQ fun r1 gm1 H2 _ hH2 hq => ?_
  show l_J p l e s m below meth c b 2103 i [.int (Int32.ofInt r1), .int (Int32.ofInt r)] H2
  rw [hq.1]
  exact l_cmpI C0 dl_2103 (by decide) (nx gx1 gm1 H2 hH2 hq.2)
theorem l_c57 (C0 : lw_At p s m meth c b L xs) (hL3 : L ≤ 3072) {tl : Nat} (hK : z_K (l_X l D A s.heap.size aK aV tl s.heap) s) (hH : l_H l D A s.heap.size aK aV s.heap gx gm H) (I : Inv gx gm) {i : Int} (hi : 0 ≤ i ∧ i + 6 ≤ L) (nx : ∀ gx' gm' H', l_H l D A s.heap.size aK aV s.heap gx' gm' H' → Inv gx' gm' → l_J p l e s m below meth c b 2134 i [] H') : l_J p l e s m below meth c b 2108 i [] H := by
  refine l_ald1 C0 dl_2108 ?_
  refine l_callX (as := []) (st := []) (d' := 3) C0 hK hH dl_2109 mi_F_mark ml_Law_259 mv_F_mark se_F_mark rfl rfl rfl (fun _ h => by cases h) rfl (by decide) (Qh := fun h' r gx' => z_O (l_Y l D A s.heap.size aK aV h') 2 m_M_mark [(2, 0)] 18 kS_M gm (fun r' gm' => r' = r ∧ Inv gx' gm')) (fun h' => o_mark l_layX l_layY I ) fun r gx1 H1 _ hH1 hQ => ?_
  show l_J p l e s m below meth c b 2112 i [.int (Int32.ofInt r)] H1
  refine l_ald2 C0 dl_2112 ?_
  refine l_callY (as := []) (st := [.int (Int32.ofInt r)]) (d' := 2) C0 hK hH1 dl_2113 mi_M_mark ml_Law_262 mv_M_mark se_M_mark rfl rfl rfl (fun _ h => by cases h) rfl (by simp [Value.category]) hQ fun r1 gm1 H2 _ hH2 hq => ?_
  show l_J p l e s m below meth c b 2116 i [.int (Int32.ofInt r1), .int (Int32.ofInt r)] H2
  rw [hq.1]
  exact l_cmpI C0 dl_2116 (by decide) (nx gx1 gm1 H2 hH2 hq.2)
theorem l_c58 (C0 : lw_At p s m meth c b L xs) (hL3 : L ≤ 3072) {tl : Nat} (hK : z_K (l_X l D A s.heap.size aK aV tl s.heap) s) (hH : l_H l D A s.heap.size aK aV s.heap gx gm H) (I : Inv gx gm) {i : Int} (hi : 0 ≤ i ∧ i + 6 ≤ L) (nx : ∀ gx' gm' H', l_H l D A s.heap.size aK aV s.heap gx' gm' H' → Inv gx' gm' → l_J p l e s m below meth c b 2134 i [] H') : l_J p l e s m below meth c b 2121 i [] H := by
  refine l_ald1 C0 dl_2121 ?_
  refine l_callX (as := []) (st := []) (d' := 3) C0 hK hH dl_2122 mi_F_undo ml_Law_263 mv_F_undo se_F_undo rfl rfl rfl (fun _ h => by cases h) rfl (by decide) (Qh := fun h' r gx' => z_O (l_Y l D A s.heap.size aK aV h') 2 m_M_undo [(2, 0)] 18 kS_M gm (fun r' gm' => r' = r ∧ Inv gx' gm')) (fun h' => o_undo l_layX l_layY I ) fun r gx1 H1 _ hH1 hQ => ?_
  show l_J p l e s m below meth c b 2125 i [.int (Int32.ofInt r)] H1
  refine l_ald2 C0 dl_2125 ?_
  refine l_callY (as := []) (st := [.int (Int32.ofInt r)]) (d' := 2) C0 hK hH1 dl_2126 mi_M_undo ml_Law_266 mv_M_undo se_M_undo rfl rfl rfl (fun _ h => by cases h) rfl (by simp [Value.category]) hQ fun r1 gm1 H2 _ hH2 hq => ?_
  show l_J p l e s m below meth c b 2129 i [.int (Int32.ofInt r1), .int (Int32.ofInt r)] H2
  rw [hq.1]
  exact l_cmpI C0 dl_2129 (by decide) (nx gx1 gm1 H2 hH2 hq.2)
end LC

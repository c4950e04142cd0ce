/-! ## the law: cases (printed by gen_law.py) -/
section LC
variable {p : Program} {l : Launch} {e : Env} {s : State} {m : MethodId} {below : List Frame} {meth : Method} {c : Code} {b L : Nat} {xs : Nat → Int32} {D : va_G} {A : Nat → ClassId} {aK aV : Nat → Nat} {H : Heap} {gx gm : z_G}
theorem l_c20 (C0 : lw_At p s m meth c b L xs) (hL3 : L ≤ 3072) {tl : Nat} (hK : z_K (l_X l D A s.heap.size aK aV tl s.heap) s) (hH : l_H l D A s.heap.size aK aV s.heap gx gm H) (I : Inv gx gm) {i : Int} (hi : 0 ≤ i ∧ i + 6 ≤ L) (nx : ∀ gx' gm' H', l_H l D A s.heap.size aK aV s.heap gx' gm' H' → Inv gx' gm' → l_J p l e s m below meth c b 2134 i [] H') : l_J p l e s m below meth c b 967 i [] H := by
  refine l_ald1 C0 dl_967 ?_
  refine l_arg C0 hH (k := 1) rfl (by omega) hL3 dl_968 dl_969 dl_970 dl_971 dl_972 ?_
  refine l_arg C0 hH (k := 2) rfl (by omega) hL3 dl_973 dl_974 dl_975 dl_976 dl_977 ?_
  refine l_arg C0 hH (k := 3) rfl (by omega) hL3 dl_978 dl_979 dl_980 dl_981 dl_982 ?_
  refine l_arg C0 hH (k := 4) rfl (by omega) hL3 dl_983 dl_984 dl_985 dl_986 dl_987 ?_
  refine l_callX (as := [(0, l_a xs i 1), (0, l_a xs i 2), (0, l_a xs i 3), (0, l_a xs i 4)]) (st := []) (d' := 4) C0 hK hH dl_988 mi_F_between ml_Law_107 mv_F_between se_F_between rfl rfl rfl (z_op (z_op (z_op (z_op (fun _ h => by cases h) (l_ar xs i _)) (l_ar xs i _)) (l_ar xs i _)) (l_ar xs i _)) rfl (by decide) (Qh := fun h' r gx' => z_O (l_Y l D A s.heap.size aK aV h') 4 m_M_between [(2, 0), (0, l_a xs i 1), (0, l_a xs i 2), (0, l_a xs i 3), (0, l_a xs i 4)] 18 kS_M gm (fun r' gm' => r' = r ∧ Inv gx' gm')) (fun h' => o_between l_layX l_layY I (l_ar xs i _) (l_ar xs i _) (l_ar xs i _) (l_ar xs i _)) fun r gx1 H1 _ hH1 hQ => ?_
  show l_J p l e s m below meth c b 991 i [.int (Int32.ofInt r)] H1
  refine l_ald2 C0 dl_991 ?_
  refine l_arg C0 hH1 (k := 1) rfl (by omega) hL3 dl_992 dl_993 dl_994 dl_995 dl_996 ?_
  refine l_arg C0 hH1 (k := 2) rfl (by omega) hL3 dl_997 dl_998 dl_999 dl_1000 dl_1001 ?_
  refine l_arg C0 hH1 (k := 3) rfl (by omega) hL3 dl_1002 dl_1003 dl_1004 dl_1005 dl_1006 ?_
  refine l_arg C0 hH1 (k := 4) rfl (by omega) hL3 dl_1007 dl_1008 dl_1009 dl_1010 dl_1011 ?_
  refine l_callY (as := [(0, l_a xs i 1), (0, l_a xs i 2), (0, l_a xs i 3), (0, l_a xs i 4)]) (st := [.int (Int32.ofInt r)]) (d' := 4) C0 hK hH1 dl_1012 mi_M_between ml_Law_111 mv_M_between se_M_between rfl rfl rfl (z_op (z_op (z_op (z_op (fun _ h => by cases h) (l_ar xs i _)) (l_ar xs i _)) (l_ar xs i _)) (l_ar xs i _)) rfl (by simp [Value.category]) hQ fun r1 gm1 H2 _ hH2 hq => ?_
  show l_J p l e s m below meth c b 1015 i [.int (Int32.ofInt r1), .int (Int32.ofInt r)] H2
  rw [hq.1]
  exact l_cmpI C0 dl_1015 (by decide) (nx gx1 gm1 H2 hH2 hq.2)
theorem l_c21 (C0 : lw_At p s m meth c b L xs) (hL3 : L ≤ 3072) {tl : Nat} (hK : z_K (l_X l D A s.heap.size aK aV tl s.heap) s) (hH : l_H l D A s.heap.size aK aV s.heap gx gm H) (I : Inv gx gm) {i : Int} (hi : 0 ≤ i ∧ i + 6 ≤ L) (nx : ∀ gx' gm' H', l_H l D A s.heap.size aK aV s.heap gx' gm' H' → Inv gx' gm' → l_J p l e s m below meth c b 2134 i [] H') : l_J p l e s m below meth c b 1020 i [] H := by
  refine l_ald1 C0 dl_1020 ?_
  refine l_arg C0 hH (k := 1) rfl (by omega) hL3 dl_1021 dl_1022 dl_1023 dl_1024 dl_1025 ?_
  refine l_arg C0 hH (k := 2) rfl (by omega) hL3 dl_1026 dl_1027 dl_1028 dl_1029 dl_1030 ?_
  refine l_callX (as := [(0, l_a xs i 1), (0, l_a xs i 2)]) (st := []) (d' := 2) C0 hK hH dl_1031 mi_F_coprimes ml_Law_112 mv_F_coprimes se_F_coprimes rfl rfl rfl (z_op (z_op (fun _ h => by cases h) (l_ar xs i _)) (l_ar xs i _)) rfl (by decide) (Qh := fun h' r gx' => z_O (l_Y l D A s.heap.size aK aV h') 2 m_M_coprimes [(2, 0), (0, l_a xs i 1), (0, l_a xs i 2)] 18 kS_M gm (fun r' gm' => r' = r ∧ Inv gx' gm')) (fun h' => o_coprimes l_layX l_layY I (l_ar xs i _) (l_ar xs i _)) fun r gx1 H1 _ hH1 hQ => ?_
  show l_J p l e s m below meth c b 1034 i [.int (Int32.ofInt r)] H1
  refine l_ald2 C0 dl_1034 ?_
  refine l_arg C0 hH1 (k := 1) rfl (by omega) hL3 dl_1035 dl_1036 dl_1037 dl_1038 dl_1039 ?_
  refine l_arg C0 hH1 (k := 2) rfl (by omega) hL3 dl_1040 dl_1041 dl_1042 dl_1043 dl_1044 ?_
  refine l_callY (as := [(0, l_a xs i 1), (0, l_a xs i 2)]) (st := [.int (Int32.ofInt r)]) (d' := 2) C0 hK hH1 dl_1045 mi_M_coprimes ml_Law_115 mv_M_coprimes se_M_coprimes rfl rfl rfl (z_op (z_op (fun _ h => by cases h) (l_ar xs i _)) (l_ar xs i _)) rfl (by simp [Value.category]) hQ fun r1 gm1 H2 _ hH2 hq => ?_
  show l_J p l e s m below meth c b 1048 i [.int (Int32.ofInt r1), .int (Int32.ofInt r)] H2
  rw [hq.1]
  exact l_cmpI C0 dl_1048 (by decide) (nx gx1 gm1 H2 hH2 hq.2)
theorem l_c22 (C0 : lw_At p s m meth c b L xs) (hL3 : L ≤ 3072) {tl : Nat} (hK : z_K (l_X l D A s.heap.size aK aV tl s.heap) s) (hH : l_H l D A s.heap.size aK aV s.heap gx gm H) (I : Inv gx gm) {i : Int} (hi : 0 ≤ i ∧ i + 6 ≤ L) (nx : ∀ gx' gm' H', l_H l D A s.heap.size aK aV s.heap gx' gm' H' → Inv gx' gm' → l_J p l e s m below meth c b 2134 i [] H') : l_J p l e s m below meth c b 1053 i [] H := by
  refine l_ald1 C0 dl_1053 ?_
  refine l_arg C0 hH (k := 1) rfl (by omega) hL3 dl_1054 dl_1055 dl_1056 dl_1057 dl_1058 ?_
  refine l_arg C0 hH (k := 2) rfl (by omega) hL3 dl_1059 dl_1060 dl_1061 dl_1062 dl_1063 ?_
  refine l_arg C0 hH (k := 3) rfl (by omega) hL3 dl_1064 dl_1065 dl_1066 dl_1067 dl_1068 ?_
  refine l_arg C0 hH (k := 4) rfl (by omega) hL3 dl_1069 dl_1070 dl_1071 dl_1072 dl_1073 ?_
  refine l_callX (as := [(0, l_a xs i 1), (0, l_a xs i 2), (0, l_a xs i 3), (0, l_a xs i 4)]) (st := []) (d' := 4) C0 hK hH dl_1074 mi_F_simplest ml_Law_116 mv_F_simplest se_F_simplest rfl rfl rfl (z_op (z_op (z_op (z_op (fun _ h => by cases h) (l_ar xs i _)) (l_ar xs i _)) (l_ar xs i _)) (l_ar xs i _)) rfl (by decide) (Qh := fun h' r gx' => z_O (l_Y l D A s.heap.size aK aV h') 3 m_M_simplest [(2, 0), (0, l_a xs i 1), (0, l_a xs i 2), (0, l_a xs i 3), (0, l_a xs i 4)] 18 kS_M gm (fun r' gm' => r' = r ∧ Inv gx' gm')) (fun h' => o_simplest l_layX l_layY I (l_ar xs i _) (l_ar xs i _) (l_ar xs i _) (l_ar xs i _)) fun r gx1 H1 _ hH1 hQ => ?_
  show l_J p l e s m below meth c b 1077 i [.int (Int32.ofInt r)] H1
  refine l_ald2 C0 dl_1077 ?_
  refine l_arg C0 hH1 (k := 1) rfl (by omega) hL3 dl_1078 dl_1079 dl_1080 dl_1081 dl_1082 ?_
  refine l_arg C0 hH1 (k := 2) rfl (by omega) hL3 dl_1083 dl_1084 dl_1085 dl_1086 dl_1087 ?_
  refine l_arg C0 hH1 (k := 3) rfl (by omega) hL3 dl_1088 dl_1089 dl_1090 dl_1091 dl_1092 ?_
  refine l_arg C0 hH1 (k := 4) rfl (by omega) hL3 dl_1093 dl_1094 dl_1095 dl_1096 dl_1097 ?_
  refine l_callY (as := [(0, l_a xs i 1), (0, l_a xs i 2), (0, l_a xs i 3), (0, l_a xs i 4)]) (st := [.int (Int32.ofInt r)]) (d' := 3) C0 hK hH1 dl_1098 mi_M_simplest ml_Law_120 mv_M_simplest se_M_simplest rfl rfl rfl (z_op (z_op (z_op (z_op (fun _ h => by cases h) (l_ar xs i _)) (l_ar xs i _)) (l_ar xs i _)) (l_ar xs i _)) rfl (by simp [Value.category]) hQ fun r1 gm1 H2 _ hH2 hq => ?_
  show l_J p l e s m below meth c b 1101 i [.int (Int32.ofInt r1), .int (Int32.ofInt r)] H2
  rw [hq.1]
  exact l_cmpI C0 dl_1101 (by decide) (nx gx1 gm1 H2 hH2 hq.2)
theorem l_c23 (C0 : lw_At p s m meth c b L xs) (hL3 : L ≤ 3072) {tl : Nat} (hK : z_K (l_X l D A s.heap.size aK aV tl s.heap) s) (hH : l_H l D A s.heap.size aK aV s.heap gx gm H) (I : Inv gx gm) {i : Int} (hi : 0 ≤ i ∧ i + 6 ≤ L) (nx : ∀ gx' gm' H', l_H l D A s.heap.size aK aV s.heap gx' gm' H' → Inv gx' gm' → l_J p l e s m below meth c b 2134 i [] H') : l_J p l e s m below meth c b 1106 i [] H := by
  refine l_ald1 C0 dl_1106 ?_
  refine l_arg C0 hH (k := 1) rfl (by omega) hL3 dl_1107 dl_1108 dl_1109 dl_1110 dl_1111 ?_
  refine l_arg C0 hH (k := 2) rfl (by omega) hL3 dl_1112 dl_1113 dl_1114 dl_1115 dl_1116 ?_
  refine l_arg C0 hH (k := 3) rfl (by omega) hL3 dl_1117 dl_1118 dl_1119 dl_1120 dl_1121 ?_
  refine l_arg C0 hH (k := 4) rfl (by omega) hL3 dl_1122 dl_1123 dl_1124 dl_1125 dl_1126 ?_
  refine l_callX (as := [(0, l_a xs i 1), (0, l_a xs i 2), (0, l_a xs i 3), (0, l_a xs i 4)]) (st := []) (d' := 4) C0 hK hH dl_1127 mi_F_wide ml_Law_121 mv_F_wide se_F_wide rfl rfl rfl (z_op (z_op (z_op (z_op (fun _ h => by cases h) (l_ar xs i _)) (l_ar xs i _)) (l_ar xs i _)) (l_ar xs i _)) rfl (by decide) (Qh := fun h' r gx' => z_O (l_Y l D A s.heap.size aK aV h') 2 m_M_wide [(2, 0), (0, l_a xs i 1), (0, l_a xs i 2), (0, l_a xs i 3), (0, l_a xs i 4)] 18 kS_M gm (fun r' gm' => r' = r ∧ Inv gx' gm')) (fun h' => o_wide l_layX l_layY I (l_ar xs i _) (l_ar xs i _) (l_ar xs i _) (l_ar xs i _)) fun r gx1 H1 _ hH1 hQ => ?_
  show l_J p l e s m below meth c b 1130 i [.int (Int32.ofInt r)] H1
  refine l_ald2 C0 dl_1130 ?_
  refine l_arg C0 hH1 (k := 1) rfl (by omega) hL3 dl_1131 dl_1132 dl_1133 dl_1134 dl_1135 ?_
  refine l_arg C0 hH1 (k := 2) rfl (by omega) hL3 dl_1136 dl_1137 dl_1138 dl_1139 dl_1140 ?_
  refine l_arg C0 hH1 (k := 3) rfl (by omega) hL3 dl_1141 dl_1142 dl_1143 dl_1144 dl_1145 ?_
  refine l_arg C0 hH1 (k := 4) rfl (by omega) hL3 dl_1146 dl_1147 dl_1148 dl_1149 dl_1150 ?_
  refine l_callY (as := [(0, l_a xs i 1), (0, l_a xs i 2), (0, l_a xs i 3), (0, l_a xs i 4)]) (st := [.int (Int32.ofInt r)]) (d' := 2) C0 hK hH1 dl_1151 mi_M_wide ml_Law_124 mv_M_wide se_M_wide rfl rfl rfl (z_op (z_op (z_op (z_op (fun _ h => by cases h) (l_ar xs i _)) (l_ar xs i _)) (l_ar xs i _)) (l_ar xs i _)) rfl (by simp [Value.category]) hQ fun r1 gm1 H2 _ hH2 hq => ?_
  show l_J p l e s m below meth c b 1154 i [.int (Int32.ofInt r1), .int (Int32.ofInt r)] H2
  rw [hq.1]
  exact l_cmpI C0 dl_1154 (by decide) (nx gx1 gm1 H2 hH2 hq.2)
theorem l_c24 (C0 : lw_At p s m meth c b L xs) (hL3 : L ≤ 3072) {tl : Nat} (hK : z_K (l_X l D A s.heap.size aK aV tl s.heap) s) (hH : l_H l D A s.heap.size aK aV s.heap gx gm H) (I : Inv gx gm) {i : Int} (hi : 0 ≤ i ∧ i + 6 ≤ L) (nx : ∀ gx' gm' H', l_H l D A s.heap.size aK aV s.heap gx' gm' H' → Inv gx' gm' → l_J p l e s m below meth c b 2134 i [] H') : l_J p l e s m below meth c b 1159 i [] H := by
  refine l_ald1 C0 dl_1159 ?_
  refine l_arg C0 hH (k := 1) rfl (by omega) hL3 dl_1160 dl_1161 dl_1162 dl_1163 dl_1164 ?_
  refine l_arg C0 hH (k := 2) rfl (by omega) hL3 dl_1165 dl_1166 dl_1167 dl_1168 dl_1169 ?_
  refine l_callX (as := [(0, l_a xs i 1), (0, l_a xs i 2)]) (st := []) (d' := 5) C0 hK hH dl_1170 mi_F_depth ml_Law_125 mv_F_depth se_F_depth rfl rfl rfl (z_op (z_op (fun _ h => by cases h) (l_ar xs i _)) (l_ar xs i _)) rfl (by decide) (Qh := fun h' r gx' => z_O (l_Y l D A s.heap.size aK aV h') 3 m_M_depth [(2, 0), (0, l_a xs i 1), (0, l_a xs i 2)] 18 kS_M gm (fun r' gm' => r' = r ∧ Inv gx' gm')) (fun h' => o_depth l_layX l_layY I (l_ar xs i _) (l_ar xs i _)) fun r gx1 H1 _ hH1 hQ => ?_
  show l_J p l e s m below meth c b 1173 i [.int (Int32.ofInt r)] H1
  refine l_ald2 C0 dl_1173 ?_
  refine l_arg C0 hH1 (k := 1) rfl (by omega) hL3 dl_1174 dl_1175 dl_1176 dl_1177 dl_1178 ?_
  refine l_arg C0 hH1 (k := 2) rfl (by omega) hL3 dl_1179 dl_1180 dl_1181 dl_1182 dl_1183 ?_
  refine l_callY (as := [(0, l_a xs i 1), (0, l_a xs i 2)]) (st := [.int (Int32.ofInt r)]) (d' := 3) C0 hK hH1 dl_1184 mi_M_depth ml_Law_128 mv_M_depth se_M_depth rfl rfl rfl (z_op (z_op (fun _ h => by cases h) (l_ar xs i _)) (l_ar xs i _)) rfl (by simp [Value.category]) hQ fun r1 gm1 H2 _ hH2 hq => ?_
  show l_J p l e s m below meth c b 1187 i [.int (Int32.ofInt r1), .int (Int32.ofInt r)] H2
  rw [hq.1]
  exact l_cmpI C0 dl_1187 (by decide) (nx gx1 gm1 H2 hH2 hq.2)
theorem l_c25 (C0 : lw_At p s m meth c b L xs) (hL3 : L ≤ 3072) {tl : Nat} (hK : z_K (l_X l D A s.heap.size aK aV tl s.heap) s) (hH : l_H l D A s.heap.size aK aV s.heap gx gm H) (I : Inv gx gm) {i : Int} (hi : 0 ≤ i ∧ i + 6 ≤ L) (nx : ∀ gx' gm' H', l_H l D A s.heap.size aK aV s.heap gx' gm' H' → Inv gx' gm' → l_J p l e s m below meth c b 2134 i [] H') : l_J p l e s m below meth c b 1192 i [] H := by
  refine l_ald1 C0 dl_1192 ?_
  refine l_arg C0 hH (k := 1) rfl (by omega) hL3 dl_1193 dl_1194 dl_1195 dl_1196 dl_1197 ?_
  refine l_arg C0 hH (k := 2) rfl (by omega) hL3 dl_1198 dl_1199 dl_1200 dl_1201 dl_1202 ?_
  refine l_arg C0 hH (k := 3) rfl (by omega) hL3 dl_1203 dl_1204 dl_1205 dl_1206 dl_1207 ?_
  refine l_callX (as := [(0, l_a xs i 1), (0, l_a xs i 2), (0, l_a xs i 3)]) (st := []) (d' := 5) C0 hK hH dl_1208 mi_F_turnAt ml_Law_129 mv_F_turnAt se_F_turnAt rfl rfl rfl (z_op (z_op (z_op (fun _ h => by cases h) (l_ar xs i _)) (l_ar xs i _)) (l_ar xs i _)) rfl (by decide) (Qh := fun h' r gx' => z_O (l_Y l D A s.heap.size aK aV h') 2 m_M_turnAt [(2, 0), (0, l_a xs i 1), (0, l_a xs i 2), (0, l_a xs i 3)] 18 kS_M gm (fun r' gm' => r' = r ∧ Inv gx' gm')) (fun h' => o_turnAt l_layX l_layY I (l_ar xs i _) (l_ar xs i _) (l_ar xs i _)) fun r gx1 H1 _ hH1 hQ => ?_
  show l_J p l e s m below meth c b 1211 i [.int (Int32.ofInt r)] H1
  refine l_ald2 C0 dl_1211 ?_
  refine l_arg C0 hH1 (k := 1) rfl (by omega) hL3 dl_1212 dl_1213 dl_1214 dl_1215 dl_1216 ?_
  refine l_arg C0 hH1 (k := 2) rfl (by omega) hL3 dl_1217 dl_1218 dl_1219 dl_1220 dl_1221 ?_
  refine l_arg C0 hH1 (k := 3) rfl (by omega) hL3 dl_1222 dl_1223 dl_1224 dl_1225 dl_1226 ?_
  refine l_callY (as := [(0, l_a xs i 1), (0, l_a xs i 2), (0, l_a xs i 3)]) (st := [.int (Int32.ofInt r)]) (d' := 2) C0 hK hH1 dl_1227 mi_M_turnAt ml_Law_133 mv_M_turnAt se_M_turnAt rfl rfl rfl (z_op (z_op (z_op (fun _ h => by cases h) (l_ar xs i _)) (l_ar xs i _)) (l_ar xs i _)) rfl (by simp [Value.category]) hQ fun r1 gm1 H2 _ hH2 hq => ?_
  show l_J p l e s m below meth c b 1230 i [.int (Int32.ofInt r1), .int (Int32.ofInt r)] H2
  rw [hq.1]
  exact l_cmpI C0 dl_1230 (by decide) (nx gx1 gm1 H2 hH2 hq.2)
theorem l_c26 (C0 : lw_At p s m meth c b L xs) (hL3 : L ≤ 3072) {tl : Nat} (hK : z_K (l_X l D A s.heap.size aK aV tl s.heap) s) (hH : l_H l D A s.heap.size aK aV s.heap gx gm H) (I : Inv gx gm) {i : Int} (hi : 0 ≤ i ∧ i + 6 ≤ L) (nx : ∀ gx' gm' H', l_H l D A s.heap.size aK aV s.heap gx' gm' H' → Inv gx' gm' → l_J p l e s m below meth c b 2134 i [] H') : l_J p l e s m below meth c b 1235 i [] H := by
  refine l_ald1 C0 dl_1235 ?_
  refine l_arg C0 hH (k := 1) rfl (by omega) hL3 dl_1236 dl_1237 dl_1238 dl_1239 dl_1240 ?_
  refine l_arg C0 hH (k := 2) rfl (by omega) hL3 dl_1241 dl_1242 dl_1243 dl_1244 dl_1245 ?_
  refine l_callX (as := [(0, l_a xs i 1), (0, l_a xs i 2)]) (st := []) (d' := 5) C0 hK hH dl_1246 mi_F_parent ml_Law_134 mv_F_parent se_F_parent rfl rfl rfl (z_op (z_op (fun _ h => by cases h) (l_ar xs i _)) (l_ar xs i _)) rfl (by decide) (Qh := fun h' r gx' => z_O (l_Y l D A s.heap.size aK aV h') 3 m_M_parent [(2, 0), (0, l_a xs i 1), (0, l_a xs i 2)] 18 kS_M gm (fun r' gm' => r' = r ∧ Inv gx' gm')) (fun h' => o_parent l_layX l_layY I (l_ar xs i _) (l_ar xs i _)) fun r gx1 H1 _ hH1 hQ => ?_
  show l_J p l e s m below meth c b 1249 i [.int (Int32.ofInt r)] H1
  refine l_ald2 C0 dl_1249 ?_
  refine l_arg C0 hH1 (k := 1) rfl (by omega) hL3 dl_1250 dl_1251 dl_1252 dl_1253 dl_1254 ?_
  refine l_arg C0 hH1 (k := 2) rfl (by omega) hL3 dl_1255 dl_1256 dl_1257 dl_1258 dl_1259 ?_
  refine l_callY (as := [(0, l_a xs i 1), (0, l_a xs i 2)]) (st := [.int (Int32.ofInt r)]) (d' := 3) C0 hK hH1 dl_1260 mi_M_parent ml_Law_137 mv_M_parent se_M_parent rfl rfl rfl (z_op (z_op (fun _ h => by cases h) (l_ar xs i _)) (l_ar xs i _)) rfl (by simp [Value.category]) hQ fun r1 gm1 H2 _ hH2 hq => ?_
  show l_J p l e s m below meth c b 1263 i [.int (Int32.ofInt r1), .int (Int32.ofInt r)] H2
  rw [hq.1]
  exact l_cmpI C0 dl_1263 (by decide) (nx gx1 gm1 H2 hH2 hq.2)
theorem l_c27 (C0 : lw_At p s m meth c b L xs) (hL3 : L ≤ 3072) {tl : Nat} (hK : z_K (l_X l D A s.heap.size aK aV tl s.heap) s) (hH : l_H l D A s.heap.size aK aV s.heap gx gm H) (I : Inv gx gm) {i : Int} (hi : 0 ≤ i ∧ i + 6 ≤ L) (nx : ∀ gx' gm' H', l_H l D A s.heap.size aK aV s.heap gx' gm' H' → Inv gx' gm' → l_J p l e s m below meth c b 2134 i [] H') : l_J p l e s m below meth c b 1268 i [] H := by
  refine l_ald1 C0 dl_1268 ?_
  refine l_arg C0 hH (k := 1) rfl (by omega) hL3 dl_1269 dl_1270 dl_1271 dl_1272 dl_1273 ?_
  refine l_arg C0 hH (k := 2) rfl (by omega) hL3 dl_1274 dl_1275 dl_1276 dl_1277 dl_1278 ?_
  refine l_callX (as := [(0, l_a xs i 1), (0, l_a xs i 2)]) (st := []) (d' := 5) C0 hK hH dl_1279 mi_F_follow ml_Law_138 mv_F_follow se_F_follow rfl rfl rfl (z_op (z_op (fun _ h => by cases h) (l_ar xs i _)) (l_ar xs i _)) rfl (by decide) (Qh := fun h' r gx' => z_O (l_Y l D A s.heap.size aK aV h') 3 m_M_follow [(2, 0), (0, l_a xs i 1), (0, l_a xs i 2)] 18 kS_M gm (fun r' gm' => r' = r ∧ Inv gx' gm')) (fun h' => o_follow l_layX l_layY I (l_ar xs i _) (l_ar xs i _)) fun r gx1 H1 _ hH1 hQ => ?_
  show l_J p l e s m below meth c b 1282 i [.int (Int32.ofInt r)] H1
  refine l_ald2 C0 dl_1282 ?_
  refine l_arg C0 hH1 (k := 1) rfl (by omega) hL3 dl_1283 dl_1284 dl_1285 dl_1286 dl_1287 ?_
  refine l_arg C0 hH1 (k := 2) rfl (by omega) hL3 dl_1288 dl_1289 dl_1290 dl_1291 dl_1292 ?_
  refine l_callY (as := [(0, l_a xs i 1), (0, l_a xs i 2)]) (st := [.int (Int32.ofInt r)]) (d' := 3) C0 hK hH1 dl_1293 mi_M_follow ml_Law_141 mv_M_follow se_M_follow rfl rfl rfl (z_op (z_op (fun _ h => by cases h) (l_ar xs i _)) (l_ar xs i _)) rfl (by simp [Value.category]) hQ fun r1 gm1 H2 _ hH2 hq => ?_
  show l_J p l e s m below meth c b 1296 i [.int (Int32.ofInt r1), .int (Int32.ofInt r)] H2
  rw [hq.1]
  exact l_cmpI C0 dl_1296 (by decide) (nx gx1 gm1 H2 hH2 hq.2)
theorem l_c28 (C0 : lw_At p s m meth c b L xs) (hL3 : L ≤ 3072) {tl : Nat} (hK : z_K (l_X l D A s.heap.size aK aV tl s.heap) s) (hH : l_H l D A s.heap.size aK aV s.heap gx gm H) (I : Inv gx gm) {i : Int} (hi : 0 ≤ i ∧ i + 6 ≤ L) (nx : ∀ gx' gm' H', l_H l D A s.heap.size aK aV s.heap gx' gm' H' → Inv gx' gm' → l_J p l e s m below meth c b 2134 i [] H') : l_J p l e s m below meth c b 1301 i [] H := by
  refine l_ald1 C0 dl_1301 ?_
  refine l_arg C0 hH (k := 1) rfl (by omega) hL3 dl_1302 dl_1303 dl_1304 dl_1305 dl_1306 ?_
  refine l_arg C0 hH (k := 2) rfl (by omega) hL3 dl_1307 dl_1308 dl_1309 dl_1310 dl_1311 ?_
  refine l_callX (as := [(0, l_a xs i 1), (0, l_a xs i 2)]) (st := []) (d' := 4) C0 hK hH dl_1312 mi_F_terms ml_Law_142 mv_F_terms se_F_terms rfl rfl rfl (z_op (z_op (fun _ h => by cases h) (l_ar xs i _)) (l_ar xs i _)) rfl (by decide) (Qh := fun h' r gx' => z_O (l_Y l D A s.heap.size aK aV h') 2 m_M_terms [(2, 0), (0, l_a xs i 1), (0, l_a xs i 2)] 18 kS_M gm (fun r' gm' => r' = r ∧ Inv gx' gm')) (fun h' => o_terms l_layX l_layY I (l_ar xs i _) (l_ar xs i _)) fun r gx1 H1 _ hH1 hQ => ?_
  show l_J p l e s m below meth c b 1315 i [.int (Int32.ofInt r)] H1
  refine l_ald2 C0 dl_1315 ?_
  refine l_arg C0 hH1 (k := 1) rfl (by omega) hL3 dl_1316 dl_1317 dl_1318 dl_1319 dl_1320 ?_
  refine l_arg C0 hH1 (k := 2) rfl (by omega) hL3 dl_1321 dl_1322 dl_1323 dl_1324 dl_1325 ?_
  refine l_callY (as := [(0, l_a xs i 1), (0, l_a xs i 2)]) (st := [.int (Int32.ofInt r)]) (d' := 2) C0 hK hH1 dl_1326 mi_M_terms ml_Law_145 mv_M_terms se_M_terms rfl rfl rfl (z_op (z_op (fun _ h => by cases h) (l_ar xs i _)) (l_ar xs i _)) rfl (by simp [Value.category]) hQ fun r1 gm1 H2 _ hH2 hq => ?_
  show l_J p l e s m below meth c b 1329 i [.int (Int32.ofInt r1), .int (Int32.ofInt r)] H2
  rw [hq.1]
  exact l_cmpI C0 dl_1329 (by decide) (nx gx1 gm1 H2 hH2 hq.2)
theorem l_c29 (C0 : lw_At p s m meth c b L xs) (hL3 : L ≤ 3072) {tl : Nat} (hK : z_K (l_X l D A s.heap.size aK aV tl s.heap) s) (hH : l_H l D A s.heap.size aK aV s.heap gx gm H) (I : Inv gx gm) {i : Int} (hi : 0 ≤ i ∧ i + 6 ≤ L) (nx : ∀ gx' gm' H', l_H l D A s.heap.size aK aV s.heap gx' gm' H' → Inv gx' gm' → l_J p l e s m below meth c b 2134 i [] H') : l_J p l e s m below meth c b 1334 i [] H := by
  refine l_ald1 C0 dl_1334 ?_
  refine l_arg C0 hH (k := 1) rfl (by omega) hL3 dl_1335 dl_1336 dl_1337 dl_1338 dl_1339 ?_
  refine l_arg C0 hH (k := 2) rfl (by omega) hL3 dl_1340 dl_1341 dl_1342 dl_1343 dl_1344 ?_
  refine l_arg C0 hH (k := 3) rfl (by omega) hL3 dl_1345 dl_1346 dl_1347 dl_1348 dl_1349 ?_
  refine l_callX (as := [(0, l_a xs i 1), (0, l_a xs i 2), (0, l_a xs i 3)]) (st := []) (d' := 4) C0 hK hH dl_1350 mi_F_termAt ml_Law_146 mv_F_termAt se_F_termAt rfl rfl rfl (z_op (z_op (z_op (fun _ h => by cases h) (l_ar xs i _)) (l_ar xs i _)) (l_ar xs i _)) rfl (by decide) (Qh := fun h' r gx' => z_O (l_Y l D A s.heap.size aK aV h') 2 m_M_termAt [(2, 0), (0, l_a xs i 1), (0, l_a xs i 2), (0, l_a xs i 3)] 18 kS_M gm (fun r' gm' => r' = r ∧ Inv gx' gm')) (fun h' => o_termAt l_layX l_layY I (l_ar xs i _) (l_ar xs i _) (l_ar xs i _)) fun r gx1 H1 _ hH1 hQ => ?_
  show l_J p l e s m below meth c b 1353 i [.int (Int32.ofInt r)] H1
  refine l_ald2 C0 dl_1353 ?_
  refine l_arg C0 hH1 (k := 1) rfl (by omega) hL3 dl_1354 dl_1355 dl_1356 dl_1357 dl_1358 ?_
  refine l_arg C0 hH1 (k := 2) rfl (by omega) hL3 dl_1359 dl_1360 dl_1361 dl_1362 dl_1363 ?_
  refine l_arg C0 hH1 (k := 3) rfl (by omega) hL3 dl_1364 dl_1365 dl_1366 dl_1367 dl_1368 ?_
  refine l_callY (as := [(0, l_a xs i 1), (0, l_a xs i 2), (0, l_a xs i 3)]) (st := [.int (Int32.ofInt r)]) (d' := 2) C0 hK hH1 dl_1369 mi_M_termAt ml_Law_149 mv_M_termAt se_M_termAt rfl rfl rfl (z_op (z_op (z_op (fun _ h => by cases h) (l_ar xs i _)) (l_ar xs i _)) (l_ar xs i _)) rfl (by simp [Value.category]) hQ fun r1 gm1 H2 _ hH2 hq => ?_
  show l_J p l e s m below meth c b 1372 i [.int (Int32.ofInt r1), .int (Int32.ofInt r)] H2
  rw [hq.1]
  exact l_cmpI C0 dl_1372 (by decide) (nx gx1 gm1 H2 hH2 hq.2)
theorem l_c30 (C0 : lw_At p s m meth c b L xs) (hL3 : L ≤ 3072) {tl : Nat} (hK : z_K (l_X l D A s.heap.size aK aV tl s.heap) s) (hH : l_H l D A s.heap.size aK aV s.heap gx gm H) (I : Inv gx gm) {i : Int} (hi : 0 ≤ i ∧ i + 6 ≤ L) (nx : ∀ gx' gm' H', l_H l D A s.heap.size aK aV s.heap gx' gm' H' → Inv gx' gm' → l_J p l e s m below meth c b 2134 i [] H') : l_J p l e s m below meth c b 1377 i [] H := by
  refine l_ald1 C0 dl_1377 ?_
  refine l_arg C0 hH (k := 1) rfl (by omega) hL3 dl_1378 dl_1379 dl_1380 dl_1381 dl_1382 ?_
  refine l_arg C0 hH (k := 2) rfl (by omega) hL3 dl_1383 dl_1384 dl_1385 dl_1386 dl_1387 ?_
  refine l_arg C0 hH (k := 3) rfl (by omega) hL3 dl_1388 dl_1389 dl_1390 dl_1391 dl_1392 ?_
  refine l_callX (as := [(0, l_a xs i 1), (0, l_a xs i 2), (0, l_a xs i 3)]) (st := []) (d' := 4) C0 hK hH dl_1393 mi_F_digits ml_Law_150 mv_F_digits se_F_digits rfl rfl rfl (z_op (z_op (z_op (fun _ h => by cases h) (l_ar xs i _)) (l_ar xs i _)) (l_ar xs i _)) rfl (by decide) (Qh := fun h' r gx' => z_O (l_Y l D A s.heap.size aK aV h') 2 m_M_digits [(2, 0), (0, l_a xs i 1), (0, l_a xs i 2), (0, l_a xs i 3)] 18 kS_M gm (fun r' gm' => r' = r ∧ Inv gx' gm')) (fun h' => o_digits l_layX l_layY I (l_ar xs i _) (l_ar xs i _) (l_ar xs i _)) fun r gx1 H1 _ hH1 hQ => ?_
  show l_J p l e s m below meth c b 1396 i [.int (Int32.ofInt r)] H1
  refine l_ald2 C0 dl_1396 ?_
  refine l_arg C0 hH1 (k := 1) rfl (by omega) hL3 dl_1397 dl_1398 dl_1399 dl_1400 dl_1401 ?_
  refine l_arg C0 hH1 (k := 2) rfl (by omega) hL3 dl_1402 dl_1403 dl_1404 dl_1405 dl_1406 ?_
  refine l_arg C0 hH1 (k := 3) rfl (by omega) hL3 dl_1407 dl_1408 dl_1409 dl_1410 dl_1411 ?_
  refine l_callY (as := [(0, l_a xs i 1), (0, l_a xs i 2), (0, l_a xs i 3)]) (st := [.int (Int32.ofInt r)]) (d' := 2) C0 hK hH1 dl_1412 mi_M_digits ml_Law_153 mv_M_digits se_M_digits rfl rfl rfl (z_op (z_op (z_op (fun _ h => by cases h) (l_ar xs i _)) (l_ar xs i _)) (l_ar xs i _)) rfl (by simp [Value.category]) hQ fun r1 gm1 H2 _ hH2 hq => ?_
  show l_J p l e s m below meth c b 1415 i [.int (Int32.ofInt r1), .int (Int32.ofInt r)] H2
  rw [hq.1]
  exact l_cmpI C0 dl_1415 (by decide) (nx gx1 gm1 H2 hH2 hq.2)
theorem l_c31 (C0 : lw_At p s m meth c b L xs) (hL3 : L ≤ 3072) {tl : Nat} (hK : z_K (l_X l D A s.heap.size aK aV tl s.heap) s) (hH : l_H l D A s.heap.size aK aV s.heap gx gm H) (I : Inv gx gm) {i : Int} (hi : 0 ≤ i ∧ i + 6 ≤ L) (nx : ∀ gx' gm' H', l_H l D A s.heap.size aK aV s.heap gx' gm' H' → Inv gx' gm' → l_J p l e s m below meth c b 2134 i [] H') : l_J p l e s m below meth c b 1420 i [] H := by
  refine l_ald1 C0 dl_1420 ?_
  refine l_arg C0 hH (k := 1) rfl (by omega) hL3 dl_1421 dl_1422 dl_1423 dl_1424 dl_1425 ?_
  refine l_arg C0 hH (k := 2) rfl (by omega) hL3 dl_1426 dl_1427 dl_1428 dl_1429 dl_1430 ?_
  refine l_arg C0 hH (k := 3) rfl (by omega) hL3 dl_1431 dl_1432 dl_1433 dl_1434 dl_1435 ?_
  refine l_callX (as := [(0, l_a xs i 1), (0, l_a xs i 2), (0, l_a xs i 3)]) (st := []) (d' := 4) C0 hK hH dl_1436 mi_F_digitAt ml_Law_154 mv_F_digitAt se_F_digitAt rfl rfl rfl (z_op (z_op (z_op (fun _ h => by cases h) (l_ar xs i _)) (l_ar xs i _)) (l_ar xs i _)) rfl (by decide) (Qh := fun h' r gx' => z_O (l_Y l D A s.heap.size aK aV h') 2 m_M_digitAt [(2, 0), (0, l_a xs i 1), (0, l_a xs i 2), (0, l_a xs i 3)] 18 kS_M gm (fun r' gm' => r' = r ∧ Inv gx' gm')) (fun h' => o_digitAt l_layX l_layY I (l_ar xs i _) (l_ar xs i _) (l_ar xs i _)) fun r gx1 H1 _ hH1 hQ => ?_
  show l_J p l e s m below meth c b 1439 i [.int (Int32.ofInt r)] H1
  refine l_ald2 C0 dl_1439 ?_
  refine l_arg C0 hH1 (k := 1) rfl (by omega) hL3 dl_1440 dl_1441 dl_1442 dl_1443 dl_1444 ?_
  refine l_arg C0 hH1 (k := 2) rfl (by omega) hL3 dl_1445 dl_1446 dl_1447 dl_1448 dl_1449 ?_
  refine l_arg C0 hH1 (k := 3) rfl (by omega) hL3 dl_1450 dl_1451 dl_1452 dl_1453 dl_1454 ?_
  refine l_callY (as := [(0, l_a xs i 1), (0, l_a xs i 2), (0, l_a xs i 3)]) (st := [.int (Int32.ofInt r)]) (d' := 2) C0 hK hH1 dl_1455 mi_M_digitAt ml_Law_157 mv_M_digitAt se_M_digitAt rfl rfl rfl (z_op (z_op (z_op (fun _ h => by cases h) (l_ar xs i _)) (l_ar xs i _)) (l_ar xs i _)) rfl (by simp [Value.category]) hQ fun r1 gm1 H2 _ hH2 hq => ?_
  show l_J p l e s m below meth c b 1458 i [.int (Int32.ofInt r1), .int (Int32.ofInt r)] H2
  rw [hq.1]
  exact l_cmpI C0 dl_1458 (by decide) (nx gx1 gm1 H2 hH2 hq.2)
theorem l_c32 (C0 : lw_At p s m meth c b L xs) (hL3 : L ≤ 3072) {tl : Nat} (hK : z_K (l_X l D A s.heap.size aK aV tl s.heap) s) (hH : l_H l D A s.heap.size aK aV s.heap gx gm H) (I : Inv gx gm) {i : Int} (hi : 0 ≤ i ∧ i + 6 ≤ L) (nx : ∀ gx' gm' H', l_H l D A s.heap.size aK aV s.heap gx' gm' H' → Inv gx' gm' → l_J p l e s m below meth c b 2134 i [] H') : l_J p l e s m below meth c b 1463 i [] H := by
  refine l_ald1 C0 dl_1463 ?_
  refine l_callX (as := []) (st := []) (d' := 3) C0 hK hH dl_1464 mi_F_here ml_Law_158 mv_F_here se_F_here rfl rfl rfl (fun _ h => by cases h) rfl (by decide) (Qh := fun h' r gx' => z_O (l_Y l D A s.heap.size aK aV h') 3 m_M_here [(2, 0)] 18 kS_M gm (fun r' gm' => r' = r ∧ Inv gx' gm')) (fun h' => o_here l_layX l_layY I ) fun r gx1 H1 _ hH1 hQ => ?_
  show l_J p l e s m below meth c b 1467 i [.int (Int32.ofInt r)] H1
  refine l_ald2 C0 dl_1467 ?_
  refine l_callY (as := []) (st := [.int (Int32.ofInt r)]) (d' := 3) C0 hK hH1 dl_1468 mi_M_here ml_Law_162 mv_M_here se_M_here rfl rfl rfl (fun _ h => by cases h) rfl (by simp [Value.category]) hQ fun r1 gm1 H2 _ hH2 hq => ?_
  show l_J p l e s m below meth c b 1471 i [.int (Int32.ofInt r1), .int (Int32.ofInt r)] H2
  rw [hq.1]
  exact l_cmpI C0 dl_1471 (by decide) (nx gx1 gm1 H2 hH2 hq.2)
theorem l_c33 (C0 : lw_At p s m meth c b L xs) (hL3 : L ≤ 3072) {tl : Nat} (hK : z_K (l_X l D A s.heap.size aK aV tl s.heap) s) (hH : l_H l D A s.heap.size aK aV s.heap gx gm H) (I : Inv gx gm) {i : Int} (hi : 0 ≤ i ∧ i + 6 ≤ L) (nx : ∀ gx' gm' H', l_H l D A s.heap.size aK aV s.heap gx' gm' H' → Inv gx' gm' → l_J p l e s m below meth c b 2134 i [] H') : l_J p l e s m below meth c b 1476 i [] H := by
  refine l_ald1 C0 dl_1476 ?_
  refine l_arg C0 hH (k := 1) rfl (by omega) hL3 dl_1477 dl_1478 dl_1479 dl_1480 dl_1481 ?_
  refine l_callX (as := [(0, l_a xs i 1)]) (st := []) (d' := 4) C0 hK hH dl_1482 mi_F_go ml_Law_163 mv_F_go se_F_go rfl rfl rfl (z_op (fun _ h => by cases h) (l_ar xs i _)) rfl (by decide) (Qh := fun h' r gx' => z_O (l_Y l D A s.heap.size aK aV h') 4 m_M_go [(2, 0), (0, l_a xs i 1)] 18 kS_M gm (fun r' gm' => r' = r ∧ Inv gx' gm')) (fun h' => o_go l_layX l_layY I (l_ar xs i _)) fun r gx1 H1 _ hH1 hQ => ?_
  show l_J p l e s m below meth c b 1485 i [.int (Int32.ofInt r)] H1
  refine l_ald2 C0 dl_1485 ?_
  refine l_arg C0 hH1 (k := 1) rfl (by omega) hL3 dl_1486 dl_1487 dl_1488 dl_1489 dl_1490 ?_
  refine l_callY (as := [(0, l_a xs i 1)]) (st := [.int (Int32.ofInt r)]) (d' := 4) C0 hK hH1 dl_1491 mi_M_go ml_Law_166 mv_M_go se_M_go rfl rfl rfl (z_op (fun _ h => by cases h) (l_ar xs i _)) rfl (by simp [Value.category]) hQ fun r1 gm1 H2 _ hH2 hq => ?_
  show l_J p l e s m below meth c b 1494 i [.int (Int32.ofInt r1), .int (Int32.ofInt r)] H2
  rw [hq.1]
  exact l_cmpI C0 dl_1494 (by decide) (nx gx1 gm1 H2 hH2 hq.2)
theorem l_c34 (C0 : lw_At p s m meth c b L xs) (hL3 : L ≤ 3072) {tl : Nat} (hK : z_K (l_X l D A s.heap.size aK aV tl s.heap) s) (hH : l_H l D A s.heap.size aK aV s.heap gx gm H) (I : Inv gx gm) {i : Int} (hi : 0 ≤ i ∧ i + 6 ≤ L) (nx : ∀ gx' gm' H', l_H l D A s.heap.size aK aV s.heap gx' gm' H' → Inv gx' gm' → l_J p l e s m below meth c b 2134 i [] H') : l_J p l e s m below meth c b 1499 i [] H := by
  refine l_ald1 C0 dl_1499 ?_
  refine l_callX (as := []) (st := []) (d' := 4) C0 hK hH dl_1500 mi_F_up ml_Law_167 mv_F_up se_F_up rfl rfl rfl (fun _ h => by cases h) rfl (by decide) (Qh := fun h' r gx' => z_O (l_Y l D A s.heap.size aK aV h') 4 m_M_up [(2, 0)] 18 kS_M gm (fun r' gm' => r' = r ∧ Inv gx' gm')) (fun h' => o_up l_layX l_layY I ) fun r gx1 H1 _ hH1 hQ => ?_
  show l_J p l e s m below meth c b 1503 i [.int (Int32.ofInt r)] H1
  refine l_ald2 C0 dl_1503 ?_
  refine l_callY (as := []) (st := [.int (Int32.ofInt r)]) (d' := 4) C0 hK hH1 dl_1504 mi_M_up ml_Law_170 mv_M_up se_M_up rfl rfl rfl (fun _ h => by cases h) rfl (by simp [Value.category]) hQ fun r1 gm1 H2 _ hH2 hq => ?_
  show l_J p l e s m below meth c b 1507 i [.int (Int32.ofInt r1), .int (Int32.ofInt r)] H2
  rw [hq.1]
  exact l_cmpI C0 dl_1507 (by decide) (nx gx1 gm1 H2 hH2 hq.2)
theorem l_c35 (C0 : lw_At p s m meth c b L xs) (hL3 : L ≤ 3072) {tl : Nat} (hK : z_K (l_X l D A s.heap.size aK aV tl s.heap) s) (hH : l_H l D A s.heap.size aK aV s.heap gx gm H) (I : Inv gx gm) {i : Int} (hi : 0 ≤ i ∧ i + 6 ≤ L) (nx : ∀ gx' gm' H', l_H l D A s.heap.size aK aV s.heap gx' gm' H' → Inv gx' gm' → l_J p l e s m below meth c b 2134 i [] H') : l_J p l e s m below meth c b 1512 i [] H := by
  refine l_ald1 C0 dl_1512 ?_
  refine l_callX (as := []) (st := []) (d' := 4) C0 hK hH dl_1513 mi_F_flip ml_Law_171 mv_F_flip se_F_flip rfl rfl rfl (fun _ h => by cases h) rfl (by decide) (Qh := fun h' r gx' => z_O (l_Y l D A s.heap.size aK aV h') 4 m_M_flip [(2, 0)] 18 kS_M gm (fun r' gm' => r' = r ∧ Inv gx' gm')) (fun h' => o_flip l_layX l_layY I ) fun r gx1 H1 _ hH1 hQ => ?_
  show l_J p l e s m below meth c b 1516 i [.int (Int32.ofInt r)] H1
  refine l_ald2 C0 dl_1516 ?_
  refine l_callY (as := []) (st := [.int (Int32.ofInt r)]) (d' := 4) C0 hK hH1 dl_1517 mi_M_flip ml_Law_174 mv_M_flip se_M_flip rfl rfl rfl (fun _ h => by cases h) rfl (by simp [Value.category]) hQ fun r1 gm1 H2 _ hH2 hq => ?_
  show l_J p l e s m below meth c b 1520 i [.int (Int32.ofInt r1), .int (Int32.ofInt r)] H2
  rw [hq.1]
  exact l_cmpI C0 dl_1520 (by decide) (nx gx1 gm1 H2 hH2 hq.2)
theorem l_c36 (C0 : lw_At p s m meth c b L xs) (hL3 : L ≤ 3072) {tl : Nat} (hK : z_K (l_X l D A s.heap.size aK aV tl s.heap) s) (hH : l_H l D A s.heap.size aK aV s.heap gx gm H) (I : Inv gx gm) {i : Int} (hi : 0 ≤ i ∧ i + 6 ≤ L) (nx : ∀ gx' gm' H', l_H l D A s.heap.size aK aV s.heap gx' gm' H' → Inv gx' gm' → l_J p l e s m below meth c b 2134 i [] H') : l_J p l e s m below meth c b 1525 i [] H := by
  refine l_ald1 C0 dl_1525 ?_
  refine l_arg C0 hH (k := 1) rfl (by omega) hL3 dl_1526 dl_1527 dl_1528 dl_1529 dl_1530 ?_
  refine l_arg C0 hH (k := 2) rfl (by omega) hL3 dl_1531 dl_1532 dl_1533 dl_1534 dl_1535 ?_
  refine l_callX (as := [(0, l_a xs i 1), (0, l_a xs i 2)]) (st := []) (d' := 5) C0 hK hH dl_1536 mi_F_jump ml_Law_175 mv_F_jump se_F_jump rfl rfl rfl (z_op (z_op (fun _ h => by cases h) (l_ar xs i _)) (l_ar xs i _)) rfl (by decide) (Qh := fun h' r gx' => z_O (l_Y l D A s.heap.size aK aV h') 4 m_M_jump [(2, 0), (0, l_a xs i 1), (0, l_a xs i 2)] 18 kS_M gm (fun r' gm' => r' = r ∧ Inv gx' gm')) (fun h' => o_jump l_layX l_layY I (l_ar xs i _) (l_ar xs i _)) fun r gx1 H1 _ hH1 hQ => ?_
  show l_J p l e s m below meth c b 1539 i [.int (Int32.ofInt r)] H1
  refine l_ald2 C0 dl_1539 ?_
  refine l_arg C0 hH1 (k := 1) rfl (by omega) hL3 dl_1540 dl_1541 dl_1542 dl_1543 dl_1544 ?_
  refine l_arg C0 hH1 (k := 2) rfl (by omega) hL3 dl_1545 dl_1546 dl_1547 dl_1548 dl_1549 ?_
  refine l_callY (as := [(0, l_a xs i 1), (0, l_a xs i 2)]) (st := [.int (Int32.ofInt r)]) (d' := 4) C0 hK hH1 dl_1550 mi_M_jump ml_Law_178 mv_M_jump se_M_jump rfl rfl rfl (z_op (z_op (fun _ h => by cases h) (l_ar xs i _)) (l_ar xs i _)) rfl (by simp [Value.category]) hQ fun r1 gm1 H2 _ hH2 hq => ?_
  show l_J p l e s m below meth c b 1553 i [.int (Int32.ofInt r1), .int (Int32.ofInt r)] H2
  rw [hq.1]
  exact l_cmpI C0 dl_1553 (by decide) (nx gx1 gm1 H2 hH2 hq.2)
theorem l_c37 (C0 : lw_At p s m meth c b L xs) (hL3 : L ≤ 3072) {tl : Nat} (hK : z_K (l_X l D A s.heap.size aK aV tl s.heap) s) (hH : l_H l D A s.heap.size aK aV s.heap gx gm H) (I : Inv gx gm) {i : Int} (hi : 0 ≤ i ∧ i + 6 ≤ L) (nx : ∀ gx' gm' H', l_H l D A s.heap.size aK aV s.heap gx' gm' H' → Inv gx' gm' → l_J p l e s m below meth c b 2134 i [] H') : l_J p l e s m below meth c b 1558 i [] H := by
  refine l_ald1 C0 dl_1558 ?_
  refine l_arg C0 hH (k := 1) rfl (by omega) hL3 dl_1559 dl_1560 dl_1561 dl_1562 dl_1563 ?_
  refine l_arg C0 hH (k := 2) rfl (by omega) hL3 dl_1564 dl_1565 dl_1566 dl_1567 dl_1568 ?_
  refine l_callX (as := [(0, l_a xs i 1), (0, l_a xs i 2)]) (st := []) (d' := 4) C0 hK hH dl_1569 mi_F_wasAt ml_Law_179 mv_F_wasAt se_F_wasAt rfl rfl rfl (z_op (z_op (fun _ h => by cases h) (l_ar xs i _)) (l_ar xs i _)) rfl (by decide) (Qh := fun h' r gx' => z_O (l_Y l D A s.heap.size aK aV h') 2 m_M_wasAt [(2, 0), (0, l_a xs i 1), (0, l_a xs i 2)] 18 kS_M gm (fun r' gm' => r' = r ∧ Inv gx' gm')) (fun h' => o_wasAt l_layX l_layY I (l_ar xs i _) (l_ar xs i _)) fun r gx1 H1 _ hH1 hQ => ?_
  show l_J p l e s m below meth c b 1572 i [.int (Int32.ofInt r)] H1
  refine l_ald2 C0 dl_1572 ?_
  refine l_arg C0 hH1 (k := 1) rfl (by omega) hL3 dl_1573 dl_1574 dl_1575 dl_1576 dl_1577 ?_
  refine l_arg C0 hH1 (k := 2) rfl (by omega) hL3 dl_1578 dl_1579 dl_1580 dl_1581 dl_1582 ?_
  refine l_callY (as := [(0, l_a xs i 1), (0, l_a xs i 2)]) (st := [.int (Int32.ofInt r)]) (d' := 2) C0 hK hH1 dl_1583 mi_M_wasAt ml_Law_182 mv_M_wasAt se_M_wasAt rfl rfl rfl (z_op (z_op (fun _ h => by cases h) (l_ar xs i _)) (l_ar xs i _)) rfl (by simp [Value.category]) hQ fun r1 gm1 H2 _ hH2 hq => ?_
  show l_J p l e s m below meth c b 1586 i [.int (Int32.ofInt r1), .int (Int32.ofInt r)] H2
  rw [hq.1]
  exact l_cmpI C0 dl_1586 (by decide) (nx gx1 gm1 H2 hH2 hq.2)
theorem l_c38 (C0 : lw_At p s m meth c b L xs) (hL3 : L ≤ 3072) {tl : Nat} (hK : z_K (l_X l D A s.heap.size aK aV tl s.heap) s) (hH : l_H l D A s.heap.size aK aV s.heap gx gm H) (I : Inv gx gm) {i : Int} (hi : 0 ≤ i ∧ i + 6 ≤ L) (nx : ∀ gx' gm' H', l_H l D A s.heap.size aK aV s.heap gx' gm' H' → Inv gx' gm' → l_J p l e s m below meth c b 2134 i [] H') : l_J p l e s m below meth c b 1591 i [] H := by
  refine l_ald1 C0 dl_1591 ?_
  refine l_arg C0 hH (k := 1) rfl (by omega) hL3 dl_1592 dl_1593 dl_1594 dl_1595 dl_1596 ?_
  refine l_arg C0 hH (k := 2) rfl (by omega) hL3 dl_1597 dl_1598 dl_1599 dl_1600 dl_1601 ?_
  refine l_callX (as := [(0, l_a xs i 1), (0, l_a xs i 2)]) (st := []) (d' := 3) C0 hK hH dl_1602 mi_F_rule ml_Law_183 mv_F_rule se_F_rule rfl rfl rfl (z_op (z_op (fun _ h => by cases h) (l_ar xs i _)) (l_ar xs i _)) rfl (by decide) (Qh := fun h' r gx' => z_O (l_Y l D A s.heap.size aK aV h') 4 m_M_rule [(2, 0), (0, l_a xs i 1), (0, l_a xs i 2)] 18 kS_M gm (fun r' gm' => r' = r ∧ Inv gx' gm')) (fun h' => o_rule l_layX l_layY I (l_ar xs i _) (l_ar xs i _)) fun r gx1 H1 _ hH1 hQ => ?_
  show l_J p l e s m below meth c b 1605 i [.int (Int32.ofInt r)] H1
  refine l_ald2 C0 dl_1605 ?_
  refine l_arg C0 hH1 (k := 1) rfl (by omega) hL3 dl_1606 dl_1607 dl_1608 dl_1609 dl_1610 ?_
  refine l_arg C0 hH1 (k := 2) rfl (by omega) hL3 dl_1611 dl_1612 dl_1613 dl_1614 dl_1615 ?_
  refine l_callY (as := [(0, l_a xs i 1), (0, l_a xs i 2)]) (st := [.int (Int32.ofInt r)]) (d' := 4) C0 hK hH1 dl_1616 mi_M_rule ml_Law_186 mv_M_rule se_M_rule rfl rfl rfl (z_op (z_op (fun _ h => by cases h) (l_ar xs i _)) (l_ar xs i _)) rfl (by simp [Value.category]) hQ fun r1 gm1 H2 _ hH2 hq => ?_
  show l_J p l e s m below meth c b 1619 i [.int (Int32.ofInt r1), .int (Int32.ofInt r)] H2
  rw [hq.1]
  exact l_cmpI C0 dl_1619 (by decide) (nx gx1 gm1 H2 hH2 hq.2)
theorem l_c39 (C0 : lw_At p s m meth c b L xs) (hL3 : L ≤ 3072) {tl : Nat} (hK : z_K (l_X l D A s.heap.size aK aV tl s.heap) s) (hH : l_H l D A s.heap.size aK aV s.heap gx gm H) (I : Inv gx gm) {i : Int} (hi : 0 ≤ i ∧ i + 6 ≤ L) (nx : ∀ gx' gm' H', l_H l D A s.heap.size aK aV s.heap gx' gm' H' → Inv gx' gm' → l_J p l e s m below meth c b 2134 i [] H') : l_J p l e s m below meth c b 1624 i [] H := by
  refine l_ald1 C0 dl_1624 ?_
  refine l_arg C0 hH (k := 1) rfl (by omega) hL3 dl_1625 dl_1626 dl_1627 dl_1628 dl_1629 ?_
  refine l_arg C0 hH (k := 2) rfl (by omega) hL3 dl_1630 dl_1631 dl_1632 dl_1633 dl_1634 ?_
  refine l_arg C0 hH (k := 3) rfl (by omega) hL3 dl_1635 dl_1636 dl_1637 dl_1638 dl_1639 ?_
  refine l_callX (as := [(0, l_a xs i 1), (0, l_a xs i 2), (0, l_a xs i 3)]) (st := []) (d' := 4) C0 hK hH dl_1640 mi_F_pin ml_Law_187 mv_F_pin se_F_pin rfl rfl rfl (z_op (z_op (z_op (fun _ h => by cases h) (l_ar xs i _)) (l_ar xs i _)) (l_ar xs i _)) rfl (by decide) (Qh := fun h' r gx' => z_O (l_Y l D A s.heap.size aK aV h') 4 m_M_pin [(2, 0), (0, l_a xs i 1), (0, l_a xs i 2), (0, l_a xs i 3)] 18 kS_M gm (fun r' gm' => r' = r ∧ Inv gx' gm')) (fun h' => o_pin l_layX l_layY I (l_ar xs i _) (l_ar xs i _) (l_ar xs i _)) fun r gx1 H1 _ hH1 hQ => ?_
  show l_J p l e s m below meth c b 1643 i [.int (Int32.ofInt r)] H1
  refine l_ald2 C0 dl_1643 ?_
  refine l_arg C0 hH1 (k := 1) rfl (by omega) hL3 dl_1644 dl_1645 dl_1646 dl_1647 dl_1648 ?_
  refine l_arg C0 hH1 (k := 2) rfl (by omega) hL3 dl_1649 dl_1650 dl_1651 dl_1652 dl_1653 ?_
  refine l_arg C0 hH1 (k := 3) rfl (by omega) hL3 dl_1654 dl_1655 dl_1656 dl_1657 dl_1658 ?_
  refine l_callY (as := [(0, l_a xs i 1), (0, l_a xs i 2), (0, l_a xs i 3)]) (st := [.int (Int32.ofInt r)]) (d' := 4) C0 hK hH1 dl_1659 mi_M_pin ml_Law_190 mv_M_pin se_M_pin rfl rfl rfl (z_op (z_op (z_op (fun _ h => by cases h) (l_ar xs i _)) (l_ar xs i _)) (l_ar xs i _)) rfl (by simp [Value.category]) hQ fun r1 gm1 H2 _ hH2 hq => ?_
  show l_J p l e s m below meth c b 1662 i [.int (Int32.ofInt r1), .int (Int32.ofInt r)] H2
  rw [hq.1]
  exact l_cmpI C0 dl_1662 (by decide) (nx gx1 gm1 H2 hH2 hq.2)
end LC

/-! ===== the law: its cases, 2 ===== -/
section LWX
variable {p : Program} {l : Launch} {e : Env} {R : Room} {s : State} {m : MethodId} {args : Array Value} {below : List Frame} {meth : Method} {c : Code} {H : Heap} {locs : List Loc} {cells slots : Nat} {Q : State → Prop}
variable {ls : Array Slot} {D : va_G} {Y : JY} {ty : Nat → ClassId} {ad : Nat → Nat} {A : Nat → Prop} {M : JM} {L b i : Nat} {xs : Nat → Int32}
theorem lw_c993 (K : lw_C p l R s m args c D Y ty A L b xs) (w : JW D Y ty ad A s.heap M H locs) (hR : RLL M) (hi : 4 * i + 4 ≤ L) (hl : lv_has ls 9 (lw_ls ad b i)) (hcR : cells + 4 ≤ R.cells) (hsR : slots + 24 ≤ R.slots) (kk : lw_K p l e R s m args below meth c cells slots Q D Y ty ad A b i) : W p l e R s m args below meth c H locs cells slots Q (F0 m 993 ls []) := by
  have K9 := K
  obtain ⟨jc, jx, hA, -, hYH, ⟨k9, k10, k104, k105⟩, hl9, hRf, hRl⟩ := K
  have hx := jc.1
  have hb := jc.2.1
  have hok := jc.2.2.2.2.2.2
  obtain ⟨k, M1, bv, M2, e1, e2, h0, hv, hR2⟩ := r_partner hYH hR (lw_x xs i 1)
  refine lv_aload_n hx hb dL_law_993 rfl (lv_at hl 1 rfl) ?_
  refine lw_arg 1 K9 w hi (by decide) (by decide) (lv_at hl 0 rfl) (lv_at hl 5 rfl) dL_law_994 dL_law_995 dL_law_997 dL_law_998 dL_law_999 ?_
  refine lv_aload_n hx hb dL_law_1000 rfl (lv_at hl 3 rfl) ?_
  refine jw_call (r := k) (M' := M1) [.ref (ad 0), .int (lw_x xs i 1), .ref (ad 174)] [] jc jx w hA (c_L_partner hl9 hok k9 k104 e1) sd_W_180 rfl hl.1 (lw_hR hRf hRl rfl rfl (by omega) (by omega)) (Nat.le_of_ble_eq_true rfl) dL_law_1001 (fun H1 L1 w1 => ?_)
  refine lv_istore (lv' := (6, .int k) :: lw_ls ad b i) hx hb dL_law_1004 hl (by decide) rfl (fun ls hl => ?_)
  refine lv_aload_n hx hb dL_law_1006 rfl (lv_at hl 3 rfl) ?_
  refine lw_arg 1 K9 w1 hi (by decide) (by decide) (lv_at hl 1 rfl) (lv_at hl 6 rfl) dL_law_1007 dL_law_1008 dL_law_1010 dL_law_1011 dL_law_1012 ?_
  refine jc_vi (r := bv) (M' := M2) (o := 140) (ci := 10) [.int (lw_x xs i 1)] [] jc w1 hA k10 (by decide) rfl (c_X10_partner hok k10 e2) sd_W_182 rfl hl.1 (lw_hR hRf hRl rfl rfl (by omega) (by omega)) (Nat.le_of_ble_eq_true rfl) dL_law_1013 (fun H2 L2 w2 => ?_)
  refine lv_istore (lv' := (7, .int bv) :: (6, .int k) :: lw_ls ad b i) hx hb dL_law_1016 hl (by decide) rfl (fun ls hl => ?_)
  exact lw_tail K9 w2 hR2 h0 hv hl (Nat.add_le_add_left (by decide) _) (Nat.add_le_add_left (by decide) _) (by omega) (by omega) dL_law_1018 dL_law_1019 dL_law_1022 dL_law_1024 dL_law_1029 dL_law_1031 dL_law_1034 dL_law_1035 dL_law_1036 dL_law_1037 dL_law_1039 dL_law_1040 dL_law_1041 dL_law_1046 (by decide) kk
theorem lw_c1049 (K : lw_C p l R s m args c D Y ty A L b xs) (w : JW D Y ty ad A s.heap M H locs) (hR : RLL M) (hi : 4 * i + 4 ≤ L) (hl : lv_has ls 9 (lw_ls ad b i)) (hcR : cells + 4 ≤ R.cells) (hsR : slots + 24 ≤ R.slots) (kk : lw_K p l e R s m args below meth c cells slots Q D Y ty ad A b i) : W p l e R s m args below meth c H locs cells slots Q (F0 m 1049 ls []) := by
  have K9 := K
  obtain ⟨jc, jx, hA, -, hYH, ⟨k9, k10, k104, k105⟩, hl9, hRf, hRl⟩ := K
  have hx := jc.1
  have hb := jc.2.1
  have hok := jc.2.2.2.2.2.2
  obtain ⟨k, M1, bv, M2, e1, e2, h0, hv, hR2⟩ := r_anchors hYH hR
  refine lv_aload_n hx hb dL_law_1049 rfl (lv_at hl 1 rfl) ?_
  refine lv_aload_n hx hb dL_law_1050 rfl (lv_at hl 3 rfl) ?_
  refine jw_call (r := k) (M' := M1) [.ref (ad 0), .ref (ad 174)] [] jc jx w hA (c_L_anchors hl9 hok k9 k104 e1) sd_W_183 rfl hl.1 (lw_hR hRf hRl rfl rfl (by omega) (by omega)) (Nat.le_of_ble_eq_true rfl) dL_law_1051 (fun H1 L1 w1 => ?_)
  refine lv_istore (lv' := (6, .int k) :: lw_ls ad b i) hx hb dL_law_1054 hl (by decide) rfl (fun ls hl => ?_)
  refine lv_aload_n hx hb dL_law_1056 rfl (lv_at hl 3 rfl) ?_
  refine jc_vi (r := bv) (M' := M2) (o := 140) (ci := 10) [] [] jc w1 hA k10 (by decide) rfl (c_X10_anchors hok k10 (Option.some.inj e2)) sd_W_186 rfl hl.1 (lw_hR hRf hRl rfl rfl (by omega) (by omega)) (Nat.le_of_ble_eq_true rfl) dL_law_1057 (fun H2 L2 w2 => ?_)
  refine lv_istore (lv' := (7, .int bv) :: (6, .int k) :: lw_ls ad b i) hx hb dL_law_1060 hl (by decide) rfl (fun ls hl => ?_)
  exact lw_tail K9 w2 hR2 h0 hv hl (Nat.add_le_add_left (by decide) _) (Nat.add_le_add_left (by decide) _) (by omega) (by omega) dL_law_1062 dL_law_1063 dL_law_1066 dL_law_1068 dL_law_1073 dL_law_1075 dL_law_1078 dL_law_1079 dL_law_1080 dL_law_1081 dL_law_1083 dL_law_1084 dL_law_1085 dL_law_1090 (by decide) kk
theorem lw_c1093 (K : lw_C p l R s m args c D Y ty A L b xs) (w : JW D Y ty ad A s.heap M H locs) (hR : RLL M) (hi : 4 * i + 4 ≤ L) (hl : lv_has ls 9 (lw_ls ad b i)) (hcR : cells + 4 ≤ R.cells) (hsR : slots + 24 ≤ R.slots) (kk : lw_K p l e R s m args below meth c cells slots Q D Y ty ad A b i) : W p l e R s m args below meth c H locs cells slots Q (F0 m 1093 ls []) := by
  have K9 := K
  obtain ⟨jc, jx, hA, -, hYH, ⟨k9, k10, k104, k105⟩, hl9, hRf, hRl⟩ := K
  have hx := jc.1
  have hb := jc.2.1
  have hok := jc.2.2.2.2.2.2
  obtain ⟨k, M1, bv, M2, e1, e2, h0, hv, hR2⟩ := r_differences hYH hR
  refine lv_aload_n hx hb dL_law_1093 rfl (lv_at hl 1 rfl) ?_
  refine lv_aload_n hx hb dL_law_1094 rfl (lv_at hl 3 rfl) ?_
  refine jw_call (r := k) (M' := M1) [.ref (ad 0), .ref (ad 174)] [] jc jx w hA (c_L_differences hl9 hok k9 k104 e1) sd_W_187 rfl hl.1 (lw_hR hRf hRl rfl rfl (by omega) (by omega)) (Nat.le_of_ble_eq_true rfl) dL_law_1095 (fun H1 L1 w1 => ?_)
  refine lv_istore (lv' := (6, .int k) :: lw_ls ad b i) hx hb dL_law_1098 hl (by decide) rfl (fun ls hl => ?_)
  refine lv_aload_n hx hb dL_law_1100 rfl (lv_at hl 3 rfl) ?_
  refine jc_vi (r := bv) (M' := M2) (o := 140) (ci := 10) [] [] jc w1 hA k10 (by decide) rfl (c_X10_differences hok k10 (Option.some.inj e2)) sd_W_189 rfl hl.1 (lw_hR hRf hRl rfl rfl (by omega) (by omega)) (Nat.le_of_ble_eq_true rfl) dL_law_1101 (fun H2 L2 w2 => ?_)
  refine lv_istore (lv' := (7, .int bv) :: (6, .int k) :: lw_ls ad b i) hx hb dL_law_1104 hl (by decide) rfl (fun ls hl => ?_)
  exact lw_tail K9 w2 hR2 h0 hv hl (Nat.add_le_add_left (by decide) _) (Nat.add_le_add_left (by decide) _) (by omega) (by omega) dL_law_1106 dL_law_1107 dL_law_1110 dL_law_1112 dL_law_1117 dL_law_1119 dL_law_1122 dL_law_1123 dL_law_1124 dL_law_1125 dL_law_1127 dL_law_1128 dL_law_1129 dL_law_1134 (by decide) kk
theorem lw_c1137 (K : lw_C p l R s m args c D Y ty A L b xs) (w : JW D Y ty ad A s.heap M H locs) (hR : RLL M) (hi : 4 * i + 4 ≤ L) (hl : lv_has ls 9 (lw_ls ad b i)) (hcR : cells + 4 ≤ R.cells) (hsR : slots + 24 ≤ R.slots) (kk : lw_K p l e R s m args below meth c cells slots Q D Y ty ad A b i) : W p l e R s m args below meth c H locs cells slots Q (F0 m 1137 ls []) := by
  have K9 := K
  obtain ⟨jc, jx, hA, -, hYH, ⟨k9, k10, k104, k105⟩, hl9, hRf, hRl⟩ := K
  have hx := jc.1
  have hb := jc.2.1
  have hok := jc.2.2.2.2.2.2
  obtain ⟨k, M1, bv, M2, e1, e2, h0, hv, hR2⟩ := r_difference hYH hR (lw_x xs i 1) (lw_x xs i 2)
  refine lv_aload_n hx hb dL_law_1137 rfl (lv_at hl 1 rfl) ?_
  refine lw_arg 1 K9 w hi (by decide) (by decide) (lv_at hl 0 rfl) (lv_at hl 5 rfl) dL_law_1138 dL_law_1139 dL_law_1141 dL_law_1142 dL_law_1143 ?_
  refine lw_arg 2 K9 w hi (by decide) (by decide) (lv_at hl 0 rfl) (lv_at hl 5 rfl) dL_law_1144 dL_law_1145 dL_law_1147 dL_law_1148 dL_law_1149 ?_
  refine lv_aload_n hx hb dL_law_1150 rfl (lv_at hl 3 rfl) ?_
  refine jw_call (r := k) (M' := M1) [.ref (ad 0), .int (lw_x xs i 1), .int (lw_x xs i 2), .ref (ad 174)] [] jc jx w hA (c_L_difference hl9 hok k9 k104 e1) sd_W_190 rfl hl.1 (lw_hR hRf hRl rfl rfl (by omega) (by omega)) (Nat.le_of_ble_eq_true rfl) dL_law_1151 (fun H1 L1 w1 => ?_)
  refine lv_istore (lv' := (6, .int k) :: lw_ls ad b i) hx hb dL_law_1154 hl (by decide) rfl (fun ls hl => ?_)
  refine lv_aload_n hx hb dL_law_1156 rfl (lv_at hl 3 rfl) ?_
  refine lw_arg 1 K9 w1 hi (by decide) (by decide) (lv_at hl 1 rfl) (lv_at hl 6 rfl) dL_law_1157 dL_law_1158 dL_law_1160 dL_law_1161 dL_law_1162 ?_
  refine lw_arg 2 K9 w1 hi (by decide) (by decide) (lv_at hl 1 rfl) (lv_at hl 6 rfl) dL_law_1163 dL_law_1164 dL_law_1166 dL_law_1167 dL_law_1168 ?_
  refine jc_vi (r := bv) (M' := M2) (o := 140) (ci := 10) [.int (lw_x xs i 1), .int (lw_x xs i 2)] [] jc w1 hA k10 (by decide) rfl (c_X10_difference hok k10 e2) sd_W_192 rfl hl.1 (lw_hR hRf hRl rfl rfl (by omega) (by omega)) (Nat.le_of_ble_eq_true rfl) dL_law_1169 (fun H2 L2 w2 => ?_)
  refine lv_istore (lv' := (7, .int bv) :: (6, .int k) :: lw_ls ad b i) hx hb dL_law_1172 hl (by decide) rfl (fun ls hl => ?_)
  exact lw_tail K9 w2 hR2 h0 hv hl (Nat.add_le_add_left (by decide) _) (Nat.add_le_add_left (by decide) _) (by omega) (by omega) dL_law_1174 dL_law_1175 dL_law_1178 dL_law_1180 dL_law_1185 dL_law_1187 dL_law_1190 dL_law_1191 dL_law_1192 dL_law_1193 dL_law_1195 dL_law_1196 dL_law_1197 dL_law_1202 (by decide) kk
theorem lw_c1205 (K : lw_C p l R s m args c D Y ty A L b xs) (w : JW D Y ty ad A s.heap M H locs) (hR : RLL M) (hi : 4 * i + 4 ≤ L) (hl : lv_has ls 9 (lw_ls ad b i)) (hcR : cells + 4 ≤ R.cells) (hsR : slots + 24 ≤ R.slots) (kk : lw_K p l e R s m args below meth c cells slots Q D Y ty ad A b i) : W p l e R s m args below meth c H locs cells slots Q (F0 m 1205 ls []) := by
  have K9 := K
  obtain ⟨jc, jx, hA, -, hYH, ⟨k9, k10, k104, k105⟩, hl9, hRf, hRl⟩ := K
  have hx := jc.1
  have hb := jc.2.1
  have hok := jc.2.2.2.2.2.2
  obtain ⟨k, M1, bv, M2, e1, e2, h0, hv, hR2⟩ := r_step hYH hR (lw_x xs i 1)
  refine lv_aload_n hx hb dL_law_1205 rfl (lv_at hl 1 rfl) ?_
  refine lw_arg 1 K9 w hi (by decide) (by decide) (lv_at hl 0 rfl) (lv_at hl 5 rfl) dL_law_1206 dL_law_1207 dL_law_1209 dL_law_1210 dL_law_1211 ?_
  refine lv_aload_n hx hb dL_law_1212 rfl (lv_at hl 3 rfl) ?_
  refine jw_call (r := k) (M' := M1) [.ref (ad 0), .int (lw_x xs i 1), .ref (ad 174)] [] jc jx w hA (c_L_step hl9 hok k9 k104 e1) sd_W_193 rfl hl.1 (lw_hR hRf hRl rfl rfl (by omega) (by omega)) (Nat.le_of_ble_eq_true rfl) dL_law_1213 (fun H1 L1 w1 => ?_)
  refine lv_istore (lv' := (6, .int k) :: lw_ls ad b i) hx hb dL_law_1216 hl (by decide) rfl (fun ls hl => ?_)
  refine lv_aload_n hx hb dL_law_1218 rfl (lv_at hl 3 rfl) ?_
  refine lw_arg 1 K9 w1 hi (by decide) (by decide) (lv_at hl 1 rfl) (lv_at hl 6 rfl) dL_law_1219 dL_law_1220 dL_law_1222 dL_law_1223 dL_law_1224 ?_
  refine jc_vi (r := bv) (M' := M2) (o := 140) (ci := 10) [.int (lw_x xs i 1)] [] jc w1 hA k10 (by decide) rfl (c_X10_step hok k10 e2) sd_W_195 rfl hl.1 (lw_hR hRf hRl rfl rfl (by omega) (by omega)) (Nat.le_of_ble_eq_true rfl) dL_law_1225 (fun H2 L2 w2 => ?_)
  refine lv_istore (lv' := (7, .int bv) :: (6, .int k) :: lw_ls ad b i) hx hb dL_law_1228 hl (by decide) rfl (fun ls hl => ?_)
  exact lw_tail K9 w2 hR2 h0 hv hl (Nat.add_le_add_left (by decide) _) (Nat.add_le_add_left (by decide) _) (by omega) (by omega) dL_law_1230 dL_law_1231 dL_law_1234 dL_law_1236 dL_law_1241 dL_law_1243 dL_law_1246 dL_law_1247 dL_law_1248 dL_law_1249 dL_law_1251 dL_law_1252 dL_law_1253 dL_law_1258 (by decide) kk
theorem lw_c1261 (K : lw_C p l R s m args c D Y ty A L b xs) (w : JW D Y ty ad A s.heap M H locs) (hR : RLL M) (hi : 4 * i + 4 ≤ L) (hl : lv_has ls 9 (lw_ls ad b i)) (hcR : cells + 4 ≤ R.cells) (hsR : slots + 24 ≤ R.slots) (kk : lw_K p l e R s m args below meth c cells slots Q D Y ty ad A b i) : W p l e R s m args below meth c H locs cells slots Q (F0 m 1261 ls []) := by
  have K9 := K
  obtain ⟨jc, jx, hA, -, hYH, ⟨k9, k10, k104, k105⟩, hl9, hRf, hRl⟩ := K
  have hx := jc.1
  have hb := jc.2.1
  have hok := jc.2.2.2.2.2.2
  obtain ⟨k, M1, bv, M2, e1, e2, h0, hv, hR2⟩ := r_similarity hYH hR
  refine lv_aload_n hx hb dL_law_1261 rfl (lv_at hl 1 rfl) ?_
  refine lv_aload hx hb dL_law_1262 (lv_at hl 4 rfl) ?_
  refine jw_call (r := k) (M' := M1) [.ref (ad 0), .ref (ad 175)] [] jc jx w hA (c_L_similarity hl9 hok k9 k105 e1) sd_W_196 rfl hl.1 (lw_hR hRf hRl rfl rfl (by omega) (by omega)) (Nat.le_of_ble_eq_true rfl) dL_law_1264 (fun H1 L1 w1 => ?_)
  refine lv_istore (lv' := (6, .int k) :: lw_ls ad b i) hx hb dL_law_1267 hl (by decide) rfl (fun ls hl => ?_)
  refine lv_aload_n hx hb dL_law_1269 rfl (lv_at hl 3 rfl) ?_
  refine jc_vd (r := bv) (M' := M2) (o := 140) (ci := 10) [] [] jc w1 hA k10 (by decide) rfl (c_X10_similarity hok k10 e2) sd_W_199 rfl hl.1 (lw_hR hRf hRl rfl rfl (by omega) (by omega)) (Nat.le_of_ble_eq_true rfl) dL_law_1270 (fun H2 L2 w2 => ?_)
  refine lv_dstore (lv' := (7, .double bv) :: (6, .int k) :: lw_ls ad b i) hx hb dL_law_1273 hl (by decide) rfl (fun ls hl => ?_)
  have hlb : lv_has ls 9 (lw_ls ad b i) := lv_sub hl [2, 3, 4, 5, 6, 7] rfl
  refine lv_aload_n hx hb dL_law_1275 rfl (lv_at hl 4 rfl) ?_
  refine jc_vi (o := 140) (ci := 10) [] [] jc w2 hA k10 (by decide) rfl (c_X10_thrown hok k10 rfl) sd_W_141 rfl hl.1 (lw_hR hRf hRl rfl rfl (by omega) (by omega)) (Nat.le_of_ble_eq_true rfl) dL_law_1276 (fun H3 L3 w3 => ?_)
  have fin : W p l e R s m args below meth c H3 L3 (cells + 2) (slots + 12) Q (F0 m 1323 ls []) := lv_goto (tgt := 2340) hx hb dL_law_1323 (by decide) (kk _ _ _ _ _ M2 w3 hR2 hlb (Nat.add_le_add_left (by decide) _) (Nat.add_le_add_left (by decide) _))
  refine lv_iload hx hb dL_law_1279 (lv_at hl 1 rfl) ?_
  refine lv_icmp_eq (tgt := 1286) hx hb dL_law_1281 (by decide) (fun _ => ?_) (fun c1 => absurd h0 c1)
  refine lv_iload hx hb dL_law_1286 (lv_at hl 1 rfl) ?_
  refine lv_if_ne (tgt := 1323) hx hb dL_law_1288 (by decide) (fun _ => fin) (fun c1 => ?_)
  have e9 : j_d (M2 175 (2 * (0 : Int32).toNatClampNeg)) (M2 175 (2 * (0 : Int32).toNatClampNeg + 1)) = bv := by
    show j_d (M2 175 0) (M2 175 1) = bv
    rw [(hv c1).1.1, (hv c1).1.2, j_d_of]
  refine lv_aload hx hb dL_law_1291 (lv_at hl 6 rfl) ?_
  refine lv_iconst (v := 0) hx hb dL_law_1293 (by decide) ?_
  refine jr_dald jc w3 k105 (j_g_in (h_outD hYH)) dL_law_1294 ?_
  rw [e9]
  refine lv_dload hx hb dL_law_1295 (lv_at hl 0 rfl) ?_
  refine lv_dcmp hx hb dL_law_1297 ?_
  refine lv_if_eq (tgt := 1323) hx hb dL_law_1298 (by decide) (fun _ => fin) (fun c2 => ?_)
  refine lv_aload hx hb dL_law_1301 (lv_at hl 6 rfl) ?_
  refine lv_iconst (v := 0) hx hb dL_law_1303 (by decide) ?_
  refine jr_dald jc w3 k105 (j_g_in (h_outD hYH)) dL_law_1304 ?_
  rw [e9]
  refine lv_aload hx hb dL_law_1305 (lv_at hl 6 rfl) ?_
  refine lv_iconst (v := 0) hx hb dL_law_1307 (by decide) ?_
  refine jr_dald jc w3 k105 (j_g_in (h_outD hYH)) dL_law_1308 ?_
  rw [e9]
  refine lv_dcmp hx hb dL_law_1309 ?_
  refine lv_if_eq (tgt := 1321) hx hb dL_law_1310 (by decide) (fun c3 => absurd c3 c2) (fun _ => ?_)
  refine lv_dload hx hb dL_law_1313 (lv_at hl 0 rfl) ?_
  refine lv_dload hx hb dL_law_1315 (lv_at hl 0 rfl) ?_
  refine lv_dcmp hx hb dL_law_1317 ?_
  exact lv_if_ne (tgt := 1323) hx hb dL_law_1318 (by decide) (fun _ => fin) (fun c3 => absurd c3 c2)
theorem lw_c1326 (K : lw_C p l R s m args c D Y ty A L b xs) (w : JW D Y ty ad A s.heap M H locs) (hR : RLL M) (hi : 4 * i + 4 ≤ L) (hl : lv_has ls 9 (lw_ls ad b i)) (hcR : cells + 4 ≤ R.cells) (hsR : slots + 24 ≤ R.slots) (kk : lw_K p l e R s m args below meth c cells slots Q D Y ty ad A b i) : W p l e R s m args below meth c H locs cells slots Q (F0 m 1326 ls []) := by
  have K9 := K
  obtain ⟨jc, jx, hA, -, hYH, ⟨k9, k10, k104, k105⟩, hl9, hRf, hRl⟩ := K
  have hx := jc.1
  have hb := jc.2.1
  have hok := jc.2.2.2.2.2.2
  obtain ⟨k, M1, bv, M2, e1, e2, h0, hv, hR2⟩ := r_findMoves hYH hR (lw_x xs i 1)
  refine lv_aload_n hx hb dL_law_1326 rfl (lv_at hl 1 rfl) ?_
  refine lw_arg 1 K9 w hi (by decide) (by decide) (lv_at hl 0 rfl) (lv_at hl 5 rfl) dL_law_1327 dL_law_1328 dL_law_1330 dL_law_1331 dL_law_1332 ?_
  refine lv_aload_n hx hb dL_law_1333 rfl (lv_at hl 3 rfl) ?_
  refine jw_call (r := k) (M' := M1) [.ref (ad 0), .int (lw_x xs i 1), .ref (ad 174)] [] jc jx w hA (c_L_findMoves hl9 hok k9 k104 e1) sd_W_200 rfl hl.1 (lw_hR hRf hRl rfl rfl (by omega) (by omega)) (Nat.le_of_ble_eq_true rfl) dL_law_1334 (fun H1 L1 w1 => ?_)
  refine lv_istore (lv' := (6, .int k) :: lw_ls ad b i) hx hb dL_law_1337 hl (by decide) rfl (fun ls hl => ?_)
  refine lv_aload_n hx hb dL_law_1339 rfl (lv_at hl 3 rfl) ?_
  refine lw_arg 1 K9 w1 hi (by decide) (by decide) (lv_at hl 1 rfl) (lv_at hl 6 rfl) dL_law_1340 dL_law_1341 dL_law_1343 dL_law_1344 dL_law_1345 ?_
  refine jc_vi (r := bv) (M' := M2) (o := 140) (ci := 10) [.int (lw_x xs i 1)] [] jc w1 hA k10 (by decide) rfl (c_X10_findMoves hok k10 e2) sd_W_202 rfl hl.1 (lw_hR hRf hRl rfl rfl (by omega) (by omega)) (Nat.le_of_ble_eq_true rfl) dL_law_1346 (fun H2 L2 w2 => ?_)
  refine lv_istore (lv' := (7, .int bv) :: (6, .int k) :: lw_ls ad b i) hx hb dL_law_1349 hl (by decide) rfl (fun ls hl => ?_)
  exact lw_tail K9 w2 hR2 h0 hv hl (Nat.add_le_add_left (by decide) _) (Nat.add_le_add_left (by decide) _) (by omega) (by omega) dL_law_1351 dL_law_1352 dL_law_1355 dL_law_1357 dL_law_1362 dL_law_1364 dL_law_1367 dL_law_1368 dL_law_1369 dL_law_1370 dL_law_1372 dL_law_1373 dL_law_1374 dL_law_1379 (by decide) kk
theorem lw_c1382 (K : lw_C p l R s m args c D Y ty A L b xs) (w : JW D Y ty ad A s.heap M H locs) (hR : RLL M) (hi : 4 * i + 4 ≤ L) (hl : lv_has ls 9 (lw_ls ad b i)) (hcR : cells + 4 ≤ R.cells) (hsR : slots + 24 ≤ R.slots) (kk : lw_K p l e R s m args below meth c cells slots Q D Y ty ad A b i) : W p l e R s m args below meth c H locs cells slots Q (F0 m 1382 ls []) := by
  have K9 := K
  obtain ⟨jc, jx, hA, -, hYH, ⟨k9, k10, k104, k105⟩, hl9, hRf, hRl⟩ := K
  have hx := jc.1
  have hb := jc.2.1
  have hok := jc.2.2.2.2.2.2
  obtain ⟨k, M1, bv, M2, e1, e2, h0, hv, hR2⟩ := r_move hYH hR (lw_x xs i 1) (lw_x xs i 2)
  refine lv_aload_n hx hb dL_law_1382 rfl (lv_at hl 1 rfl) ?_
  refine lw_arg 1 K9 w hi (by decide) (by decide) (lv_at hl 0 rfl) (lv_at hl 5 rfl) dL_law_1383 dL_law_1384 dL_law_1386 dL_law_1387 dL_law_1388 ?_
  refine lw_arg 2 K9 w hi (by decide) (by decide) (lv_at hl 0 rfl) (lv_at hl 5 rfl) dL_law_1389 dL_law_1390 dL_law_1392 dL_law_1393 dL_law_1394 ?_
  refine lv_aload_n hx hb dL_law_1395 rfl (lv_at hl 3 rfl) ?_
  refine jw_call (r := k) (M' := M1) [.ref (ad 0), .int (lw_x xs i 1), .int (lw_x xs i 2), .ref (ad 174)] [] jc jx w hA (c_L_move hl9 hok k9 k104 e1) sd_W_203 rfl hl.1 (lw_hR hRf hRl rfl rfl (by omega) (by omega)) (Nat.le_of_ble_eq_true rfl) dL_law_1396 (fun H1 L1 w1 => ?_)
  refine lv_istore (lv' := (6, .int k) :: lw_ls ad b i) hx hb dL_law_1399 hl (by decide) rfl (fun ls hl => ?_)
  refine lv_aload_n hx hb dL_law_1401 rfl (lv_at hl 3 rfl) ?_
  refine lw_arg 1 K9 w1 hi (by decide) (by decide) (lv_at hl 1 rfl) (lv_at hl 6 rfl) dL_law_1402 dL_law_1403 dL_law_1405 dL_law_1406 dL_law_1407 ?_
  refine lw_arg 2 K9 w1 hi (by decide) (by decide) (lv_at hl 1 rfl) (lv_at hl 6 rfl) dL_law_1408 dL_law_1409 dL_law_1411 dL_law_1412 dL_law_1413 ?_
  refine jc_vi (r := bv) (M' := M2) (o := 140) (ci := 10) [.int (lw_x xs i 1), .int (lw_x xs i 2)] [] jc w1 hA k10 (by decide) rfl (c_X10_move hok k10 e2) sd_W_205 rfl hl.1 (lw_hR hRf hRl rfl rfl (by omega) (by omega)) (Nat.le_of_ble_eq_true rfl) dL_law_1414 (fun H2 L2 w2 => ?_)
  refine lv_istore (lv' := (7, .int bv) :: (6, .int k) :: lw_ls ad b i) hx hb dL_law_1417 hl (by decide) rfl (fun ls hl => ?_)
  exact lw_tail K9 w2 hR2 h0 hv hl (Nat.add_le_add_left (by decide) _) (Nat.add_le_add_left (by decide) _) (by omega) (by omega) dL_law_1419 dL_law_1420 dL_law_1423 dL_law_1425 dL_law_1430 dL_law_1432 dL_law_1435 dL_law_1436 dL_law_1437 dL_law_1438 dL_law_1440 dL_law_1441 dL_law_1442 dL_law_1447 (by decide) kk
theorem lw_c1450 (K : lw_C p l R s m args c D Y ty A L b xs) (w : JW D Y ty ad A s.heap M H locs) (hR : RLL M) (hi : 4 * i + 4 ≤ L) (hl : lv_has ls 9 (lw_ls ad b i)) (hcR : cells + 4 ≤ R.cells) (hsR : slots + 24 ≤ R.slots) (kk : lw_K p l e R s m args below meth c cells slots Q D Y ty ad A b i) : W p l e R s m args below meth c H locs cells slots Q (F0 m 1450 ls []) := by
  have K9 := K
  obtain ⟨jc, jx, hA, -, hYH, ⟨k9, k10, k104, k105⟩, hl9, hRf, hRl⟩ := K
  have hx := jc.1
  have hb := jc.2.1
  have hok := jc.2.2.2.2.2.2
  obtain ⟨bv, M1, M2, e1, e2, hR2⟩ := r_setShrinking (Y := Y) hR (j_z01 (lw_x xs i 1))
  refine lv_aload_n hx hb dL_law_1450 rfl (lv_at hl 1 rfl) ?_
  refine lw_arg 1 K9 w hi (by decide) (by decide) (lv_at hl 0 rfl) (lv_at hl 5 rfl) dL_law_1451 dL_law_1452 dL_law_1454 dL_law_1455 dL_law_1456 ?_
  refine lw_tern hx hb dL_law_1457 dL_law_1460 dL_law_1461 dL_law_1464 ?_
  refine jc_vz (r := bv) (M' := M1) (o := 0) (ci := 9) [.int (j_z (lw_x xs i 1))] [] jc w hA k9 (by decide) rfl (c_X9_setShrinking hok k9 e1) sd_W_206 rfl hl.1 (lw_hR hRf hRl rfl rfl (by omega) (by omega)) (Nat.le_of_ble_eq_true rfl) dL_law_1465 (fun H1 L1 w1 hz1 => ?_)
  refine lv_aload_n hx hb dL_law_1468 rfl (lv_at hl 2 rfl) ?_
  refine lw_arg 1 K9 w1 hi (by decide) (by decide) (lv_at hl 0 rfl) (lv_at hl 5 rfl) dL_law_1469 dL_law_1470 dL_law_1472 dL_law_1473 dL_law_1474 ?_
  refine lw_tern hx hb dL_law_1475 dL_law_1478 dL_law_1479 dL_law_1482 ?_
  refine jc_vz (r := bv) (M' := M2) (o := 140) (ci := 10) [.int (j_z (lw_x xs i 1))] [.int bv] jc w1 hA k10 (by decide) rfl (c_X10_setShrinking hok k10 e2) sd_W_210 rfl hl.1 (lw_hR hRf hRl rfl rfl (by omega) (by omega)) (Nat.le_of_ble_eq_true rfl) dL_law_1483 (fun H2 L2 w2 hz2 => ?_)
  exact lv_icmp_eq (tgt := 2340) hx hb dL_law_1486 (by decide) (fun _ => kk _ _ _ _ _ M2 w2 hR2 hl (Nat.le_add_right _ _) (Nat.le_add_right _ _)) (fun c1 => absurd rfl c1)
theorem lw_c1491 (K : lw_C p l R s m args c D Y ty A L b xs) (w : JW D Y ty ad A s.heap M H locs) (hR : RLL M) (hi : 4 * i + 4 ≤ L) (hl : lv_has ls 9 (lw_ls ad b i)) (hcR : cells + 4 ≤ R.cells) (hsR : slots + 24 ≤ R.slots) (kk : lw_K p l e R s m args below meth c cells slots Q D Y ty ad A b i) : W p l e R s m args below meth c H locs cells slots Q (F0 m 1491 ls []) := by
  have K9 := K
  obtain ⟨jc, jx, hA, -, hYH, ⟨k9, k10, k104, k105⟩, hl9, hRf, hRl⟩ := K
  have hx := jc.1
  have hb := jc.2.1
  have hok := jc.2.2.2.2.2.2
  obtain ⟨k, M1, bv, M2, e1, e2, h0, hv, hR2⟩ := r_merge hYH hR (lw_x xs i 1) (lw_x xs i 2) (lw_x xs i 3)
  refine lv_aload_n hx hb dL_law_1491 rfl (lv_at hl 1 rfl) ?_
  refine lw_arg 1 K9 w hi (by decide) (by decide) (lv_at hl 0 rfl) (lv_at hl 5 rfl) dL_law_1492 dL_law_1493 dL_law_1495 dL_law_1496 dL_law_1497 ?_
  refine lw_arg 2 K9 w hi (by decide) (by decide) (lv_at hl 0 rfl) (lv_at hl 5 rfl) dL_law_1498 dL_law_1499 dL_law_1501 dL_law_1502 dL_law_1503 ?_
  refine lw_arg 3 K9 w hi (by decide) (by decide) (lv_at hl 0 rfl) (lv_at hl 5 rfl) dL_law_1504 dL_law_1505 dL_law_1507 dL_law_1508 dL_law_1509 ?_
  refine lv_aload_n hx hb dL_law_1510 rfl (lv_at hl 3 rfl) ?_
  refine jw_call (r := k) (M' := M1) [.ref (ad 0), .int (lw_x xs i 1), .int (lw_x xs i 2), .int (lw_x xs i 3), .ref (ad 174)] [] jc jx w hA (c_L_merge hl9 hok k9 k104 e1) sd_W_211 rfl hl.1 (lw_hR hRf hRl rfl rfl (by omega) (by omega)) (Nat.le_of_ble_eq_true rfl) dL_law_1511 (fun H1 L1 w1 => ?_)
  refine lv_istore (lv' := (6, .int k) :: lw_ls ad b i) hx hb dL_law_1514 hl (by decide) rfl (fun ls hl => ?_)
  refine lv_aload_n hx hb dL_law_1516 rfl (lv_at hl 3 rfl) ?_
  refine lw_arg 1 K9 w1 hi (by decide) (by decide) (lv_at hl 1 rfl) (lv_at hl 6 rfl) dL_law_1517 dL_law_1518 dL_law_1520 dL_law_1521 dL_law_1522 ?_
  refine lw_arg 2 K9 w1 hi (by decide) (by decide) (lv_at hl 1 rfl) (lv_at hl 6 rfl) dL_law_1523 dL_law_1524 dL_law_1526 dL_law_1527 dL_law_1528 ?_
  refine lw_arg 3 K9 w1 hi (by decide) (by decide) (lv_at hl 1 rfl) (lv_at hl 6 rfl) dL_law_1529 dL_law_1530 dL_law_1532 dL_law_1533 dL_law_1534 ?_
  refine jc_vi (r := bv) (M' := M2) (o := 140) (ci := 10) [.int (lw_x xs i 1), .int (lw_x xs i 2), .int (lw_x xs i 3)] [] jc w1 hA k10 (by decide) rfl (c_X10_merge hok k10 e2) sd_W_213 rfl hl.1 (lw_hR hRf hRl rfl rfl (by omega) (by omega)) (Nat.le_of_ble_eq_true rfl) dL_law_1535 (fun H2 L2 w2 => ?_)
  refine lv_istore (lv' := (7, .int bv) :: (6, .int k) :: lw_ls ad b i) hx hb dL_law_1538 hl (by decide) rfl (fun ls hl => ?_)
  exact lw_tail K9 w2 hR2 h0 hv hl (Nat.add_le_add_left (by decide) _) (Nat.add_le_add_left (by decide) _) (by omega) (by omega) dL_law_1540 dL_law_1541 dL_law_1544 dL_law_1546 dL_law_1551 dL_law_1553 dL_law_1556 dL_law_1557 dL_law_1558 dL_law_1559 dL_law_1561 dL_law_1562 dL_law_1563 dL_law_1568 (by decide) kk
theorem lw_c1571 (K : lw_C p l R s m args c D Y ty A L b xs) (w : JW D Y ty ad A s.heap M H locs) (hR : RLL M) (hi : 4 * i + 4 ≤ L) (hl : lv_has ls 9 (lw_ls ad b i)) (hcR : cells + 4 ≤ R.cells) (hsR : slots + 24 ≤ R.slots) (kk : lw_K p l e R s m args below meth c cells slots Q D Y ty ad A b i) : W p l e R s m args below meth c H locs cells slots Q (F0 m 1571 ls []) := by
  have K9 := K
  obtain ⟨jc, jx, hA, -, hYH, ⟨k9, k10, k104, k105⟩, hl9, hRf, hRl⟩ := K
  have hx := jc.1
  have hb := jc.2.1
  have hok := jc.2.2.2.2.2.2
  obtain ⟨k, M1, bv, M2, e1, e2, h0, hv, hR2⟩ := r_chunks hYH hR
  refine lv_aload_n hx hb dL_law_1571 rfl (lv_at hl 1 rfl) ?_
  refine lv_aload_n hx hb dL_law_1572 rfl (lv_at hl 3 rfl) ?_
  refine jw_call (r := k) (M' := M1) [.ref (ad 0), .ref (ad 174)] [] jc jx w hA (c_L_chunks hl9 hok k9 k104 e1) sd_W_214 rfl hl.1 (lw_hR hRf hRl rfl rfl (by omega) (by omega)) (Nat.le_of_ble_eq_true rfl) dL_law_1573 (fun H1 L1 w1 => ?_)
  refine lv_istore (lv' := (6, .int k) :: lw_ls ad b i) hx hb dL_law_1576 hl (by decide) rfl (fun ls hl => ?_)
  refine lv_aload_n hx hb dL_law_1578 rfl (lv_at hl 3 rfl) ?_
  refine jc_vi (r := bv) (M' := M2) (o := 140) (ci := 10) [] [] jc w1 hA k10 (by decide) rfl (c_X10_chunks hok k10 (Option.some.inj e2)) sd_W_216 rfl hl.1 (lw_hR hRf hRl rfl rfl (by omega) (by omega)) (Nat.le_of_ble_eq_true rfl) dL_law_1579 (fun H2 L2 w2 => ?_)
  refine lv_istore (lv' := (7, .int bv) :: (6, .int k) :: lw_ls ad b i) hx hb dL_law_1582 hl (by decide) rfl (fun ls hl => ?_)
  exact lw_tail K9 w2 hR2 h0 hv hl (Nat.add_le_add_left (by decide) _) (Nat.add_le_add_left (by decide) _) (by omega) (by omega) dL_law_1584 dL_law_1585 dL_law_1588 dL_law_1590 dL_law_1595 dL_law_1597 dL_law_1600 dL_law_1601 dL_law_1602 dL_law_1603 dL_law_1605 dL_law_1606 dL_law_1607 dL_law_1612 (by decide) kk
theorem lw_c1615 (K : lw_C p l R s m args c D Y ty A L b xs) (w : JW D Y ty ad A s.heap M H locs) (hR : RLL M) (hi : 4 * i + 4 ≤ L) (hl : lv_has ls 9 (lw_ls ad b i)) (hcR : cells + 4 ≤ R.cells) (hsR : slots + 24 ≤ R.slots) (kk : lw_K p l e R s m args below meth c cells slots Q D Y ty ad A b i) : W p l e R s m args below meth c H locs cells slots Q (F0 m 1615 ls []) := by
  have K9 := K
  obtain ⟨jc, jx, hA, -, hYH, ⟨k9, k10, k104, k105⟩, hl9, hRf, hRl⟩ := K
  have hx := jc.1
  have hb := jc.2.1
  have hok := jc.2.2.2.2.2.2
  obtain ⟨k, M1, bv, M2, e1, e2, h0, hv, hR2⟩ := r_chunk hYH hR (lw_x xs i 1) (lw_x xs i 2)
  refine lv_aload_n hx hb dL_law_1615 rfl (lv_at hl 1 rfl) ?_
  refine lw_arg 1 K9 w hi (by decide) (by decide) (lv_at hl 0 rfl) (lv_at hl 5 rfl) dL_law_1616 dL_law_1617 dL_law_1619 dL_law_1620 dL_law_1621 ?_
  refine lw_arg 2 K9 w hi (by decide) (by decide) (lv_at hl 0 rfl) (lv_at hl 5 rfl) dL_law_1622 dL_law_1623 dL_law_1625 dL_law_1626 dL_law_1627 ?_
  refine lv_aload_n hx hb dL_law_1628 rfl (lv_at hl 3 rfl) ?_
  refine jw_call (r := k) (M' := M1) [.ref (ad 0), .int (lw_x xs i 1), .int (lw_x xs i 2), .ref (ad 174)] [] jc jx w hA (c_L_chunk hl9 hok k9 k104 e1) sd_W_217 rfl hl.1 (lw_hR hRf hRl rfl rfl (by omega) (by omega)) (Nat.le_of_ble_eq_true rfl) dL_law_1629 (fun H1 L1 w1 => ?_)
  refine lv_istore (lv' := (6, .int k) :: lw_ls ad b i) hx hb dL_law_1632 hl (by decide) rfl (fun ls hl => ?_)
  refine lv_aload_n hx hb dL_law_1634 rfl (lv_at hl 3 rfl) ?_
  refine lw_arg 1 K9 w1 hi (by decide) (by decide) (lv_at hl 1 rfl) (lv_at hl 6 rfl) dL_law_1635 dL_law_1636 dL_law_1638 dL_law_1639 dL_law_1640 ?_
  refine lw_arg 2 K9 w1 hi (by decide) (by decide) (lv_at hl 1 rfl) (lv_at hl 6 rfl) dL_law_1641 dL_law_1642 dL_law_1644 dL_law_1645 dL_law_1646 ?_
  refine jc_vi (r := bv) (M' := M2) (o := 140) (ci := 10) [.int (lw_x xs i 1), .int (lw_x xs i 2)] [] jc w1 hA k10 (by decide) rfl (c_X10_chunk hok k10 e2) sd_W_219 rfl hl.1 (lw_hR hRf hRl rfl rfl (by omega) (by omega)) (Nat.le_of_ble_eq_true rfl) dL_law_1647 (fun H2 L2 w2 => ?_)
  refine lv_istore (lv' := (7, .int bv) :: (6, .int k) :: lw_ls ad b i) hx hb dL_law_1650 hl (by decide) rfl (fun ls hl => ?_)
  exact lw_tail K9 w2 hR2 h0 hv hl (Nat.add_le_add_left (by decide) _) (Nat.add_le_add_left (by decide) _) (by omega) (by omega) dL_law_1652 dL_law_1653 dL_law_1656 dL_law_1658 dL_law_1663 dL_law_1665 dL_law_1668 dL_law_1669 dL_law_1670 dL_law_1671 dL_law_1673 dL_law_1674 dL_law_1675 dL_law_1680 (by decide) kk
end LWX

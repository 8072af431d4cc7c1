def s_X6_exists (Y : JY) (M : JM) (o : Nat) : Int32 := (j_z (M o 8))
set_option maxRecDepth 100000 in
set_option maxHeartbeats 4000000 in
theorem c_X6_exists {D : va_G} {Y : JY} {ty : Nat → ClassId} {ad : Nat → Nat} {sz : Nat} {l : Launch} {M : JM} (hY : j_ok Y) {o : Nat} (ho : j_kd Y o = 6) {r : Int32} (hE : s_X6_exists Y M o = r) : JMz D Y ty ad sz l yX6_exists cX6_exists 1 0 0 [.ref (ad o)] M r M := by
  refine j_ofZ hY (by decide +kernel) (Nat.le_of_ble_eq_true rfl) (fun p e s m below meth c args R Q A hRf hRl hA jc jw kr ls hl => ?_)
  have hx := jc.1
  have hb := jc.2.1
  have hl : lv_has ls 1 [(0, .ref (ad o))] := hl
  unfold s_X6_exists at hE
  obtain ⟨G0, eG0, hE⟩ := j_F0 hE
  refine lv_aload_n hx hb dX6_exists_0 rfl (lv_at hl 0 rfl) ?_
  refine jg_6_8 jc jw ho wd_4_145 dX6_exists_1 ?_
  exact kr _ _ _ _ _ _ (j_ret eG0 hE) rfl (j_z01 _) jw dX6_exists_4
def s_X6_parts (Y : JY) (M : JM) (o : Nat) : Nat := (j_rf Y o 2)
set_option maxRecDepth 100000 in
set_option maxHeartbeats 4000000 in
theorem c_X6_parts {D : va_G} {Y : JY} {ty : Nat → ClassId} {ad : Nat → Nat} {sz : Nat} {l : Launch} {M : JM} (hY : j_ok Y) {o : Nat} (ho : j_kd Y o = 6) {r : Nat} (hE : s_X6_parts Y M o = r) : JMr D Y ty ad sz l yX6_parts cX6_parts 1 (some (.object "MergeWorkbench$Table")) 0 0 [.ref (ad o)] M r M 8 := by
  refine j_ofR hY (by decide +kernel) (Nat.le_of_ble_eq_true rfl) (fun p e s m below meth c args R Q A hRf hRl hA jc jw kr ls hl => ?_)
  have hx := jc.1
  have hb := jc.2.1
  have hl : lv_has ls 1 [(0, .ref (ad o))] := hl
  unfold s_X6_parts at hE
  obtain ⟨G0, eG0, hE⟩ := j_F0 hE
  refine lv_aload_n hx hb dX6_parts_0 rfl (lv_at hl 0 rfl) ?_
  refine jg_6_2 jc jw ho wd_4_139 dX6_parts_1 ?_
  have k1 := j_sub hY ho 2 (f := 8) rfl (by decide) (by decide) (by decide)
  exact kr _ _ _ _ _ _ (j_ret eG0 hE) rfl k1 jw dX6_parts_4
def s_X6_outcomes (Y : JY) (M : JM) (o : Nat) : Nat := (j_rf Y o 4)
set_option maxRecDepth 100000 in
set_option maxHeartbeats 4000000 in
theorem c_X6_outcomes {D : va_G} {Y : JY} {ty : Nat → ClassId} {ad : Nat → Nat} {sz : Nat} {l : Launch} {M : JM} (hY : j_ok Y) {o : Nat} (ho : j_kd Y o = 6) {r : Nat} (hE : s_X6_outcomes Y M o = r) : JMr D Y ty ad sz l yX6_outcomes cX6_outcomes 1 (some (.object "MergeWorkbench$Table")) 0 0 [.ref (ad o)] M r M 8 := by
  refine j_ofR hY (by decide +kernel) (Nat.le_of_ble_eq_true rfl) (fun p e s m below meth c args R Q A hRf hRl hA jc jw kr ls hl => ?_)
  have hx := jc.1
  have hb := jc.2.1
  have hl : lv_has ls 1 [(0, .ref (ad o))] := hl
  unfold s_X6_outcomes at hE
  obtain ⟨G0, eG0, hE⟩ := j_F0 hE
  refine lv_aload_n hx hb dX6_outcomes_0 rfl (lv_at hl 0 rfl) ?_
  refine jg_6_4 jc jw ho wd_4_141 dX6_outcomes_1 ?_
  have k1 := j_sub hY ho 4 (f := 8) rfl (by decide) (by decide) (by decide)
  exact kr _ _ _ _ _ _ (j_ret eG0 hE) rfl k1 jw dX6_outcomes_4
def s_X6_isLastOfHunk (Y : JY) (M : JM) (q1 : Nat) (p2 : Int32) (p3 : Int32) : Int32 := if (s_X8_hasRow Y M q1 (p2 + (1 : Int32))) = 0 ∨ ¬ (((s_X8_at Y M q1 (p2 + (1 : Int32)) (0 : Int32)) - (s_X8_at Y M q1 p2 (1 : Int32))) ≤ ((2 : Int32) * p3)) then ((1 : Int32)) else ((0 : Int32))
set_option maxRecDepth 100000 in
set_option maxHeartbeats 4000000 in
theorem c_X6_isLastOfHunk {D : va_G} {Y : JY} {ty : Nat → ClassId} {ad : Nat → Nat} {sz : Nat} {l : Launch} {M : JM} (hY : j_ok Y) {q1 : Nat} {p2 : Int32} {p3 : Int32} (hq1 : j_kd Y q1 = 8) {r : Int32} (hE : s_X6_isLastOfHunk Y M q1 p2 p3 = r) : JMz D Y ty ad sz l yX6_isLastOfHunk cX6_isLastOfHunk 3 1 24 [.ref (ad q1), .int p2, .int p3] M r M := by
  refine j_ofZ hY (by decide +kernel) (Nat.le_of_ble_eq_true rfl) (fun p e s m below meth c args R Q A hRf hRl hA jc jw kr ls hl => ?_)
  have hx := jc.1
  have hb := jc.2.1
  have hl : lv_has ls 3 [(0, .ref (ad q1)), (1, .int p2), (2, .int p3)] := hl
  unfold s_X6_isLastOfHunk at hE
  obtain ⟨G0, eG0, hE⟩ := j_F0 hE
  refine lv_aload_n hx hb dX6_isLastOfHunk_0 rfl (lv_at hl 0 rfl) ?_
  refine lv_iload_n hx hb dX6_isLastOfHunk_1 rfl (lv_at hl 1 rfl) ?_
  refine lv_iconst (v := 1) hx hb dX6_isLastOfHunk_2 (by decide) ?_
  refine lv_iadd hx hb dX6_isLastOfHunk_3 ?_
  refine jc_vz [.int (p2 + (1 : Int32))] [] jc jw hA hq1 (by decide) rfl (c_X8_hasRow hY hq1 (M := M) rfl) sd_X6_75 rfl hl.1 (j_hR hRf hRl rfl rfl) (Nat.le_of_ble_eq_true rfl) dX6_isLastOfHunk_4 (fun H locs jw hz => ?_)
  have z_1 := hz
  have B4 : ∀ (H : Heap) (locs : List Loc), JW D Y ty ad A s.heap M H locs → ((s_X8_hasRow Y M q1 (p2 + (1 : Int32))) = 0 ∨ ¬ (((s_X8_at Y M q1 (p2 + (1 : Int32)) (0 : Int32)) - (s_X8_at Y M q1 p2 (1 : Int32))) ≤ ((2 : Int32) * p3))) → W p l e R s m args below meth c H locs 0 0 Q (F0 m 31 ls []) := by
    intro H locs jw hcc
    rw [if_pos hcc] at hE
    refine lv_iconst (v := 1) hx hb dX6_isLastOfHunk_31 (by decide) ?_
    refine lv_goto (tgt := 36) hx hb dX6_isLastOfHunk_32 (by decide) ?_
    exact kr _ _ _ _ _ _ (j_ret eG0 hE) rfl (by decide) jw dX6_isLastOfHunk_36
  refine lv_if_eq (tgt := 31) hx hb dX6_isLastOfHunk_7 (by decide) (fun c2 => B4 _ _ jw (Or.inl c2)) (fun c2 => ?_)
  refine lv_aload_n hx hb dX6_isLastOfHunk_10 rfl (lv_at hl 0 rfl) ?_
  refine lv_iload_n hx hb dX6_isLastOfHunk_11 rfl (lv_at hl 1 rfl) ?_
  refine lv_iconst (v := 1) hx hb dX6_isLastOfHunk_12 (by decide) ?_
  refine lv_iadd hx hb dX6_isLastOfHunk_13 ?_
  refine lv_iconst (v := 0) hx hb dX6_isLastOfHunk_14 (by decide) ?_
  refine jc_vi [.int (p2 + (1 : Int32)), .int (0 : Int32)] [] jc jw hA hq1 (by decide) rfl (c_X8_at hY hq1 (M := M) rfl) sd_X6_79 rfl hl.1 (j_hR hRf hRl rfl rfl) (Nat.le_of_ble_eq_true rfl) dX6_isLastOfHunk_15 (fun H locs jw => ?_)
  refine lv_aload_n hx hb dX6_isLastOfHunk_18 rfl (lv_at hl 0 rfl) ?_
  refine lv_iload_n hx hb dX6_isLastOfHunk_19 rfl (lv_at hl 1 rfl) ?_
  refine lv_iconst (v := 1) hx hb dX6_isLastOfHunk_20 (by decide) ?_
  refine jc_vi [.int p2, .int (1 : Int32)] [.int (s_X8_at Y M q1 (p2 + (1 : Int32)) (0 : Int32))] jc jw hA hq1 (by decide) rfl (c_X8_at hY hq1 (M := M) rfl) sd_X6_79 rfl hl.1 (j_hR hRf hRl rfl rfl) (Nat.le_of_ble_eq_true rfl) dX6_isLastOfHunk_21 (fun H locs jw => ?_)
  refine lv_isub hx hb dX6_isLastOfHunk_24 ?_
  refine lv_iconst (v := 2) hx hb dX6_isLastOfHunk_25 (by decide) ?_
  refine lv_iload_n hx hb dX6_isLastOfHunk_26 rfl (lv_at hl 2 rfl) ?_
  refine lv_imul hx hb dX6_isLastOfHunk_27 ?_
  refine lv_icmp_le (tgt := 35) hx hb dX6_isLastOfHunk_28 (by decide) (fun c3 => ?_) (fun c3 => B4 _ _ jw (Or.inr c3))
  rw [if_neg (fun hq => hq.elim (fun hq => (j_abs c2 hq)) (fun hq => (j_absn c3 hq)))] at hE
  refine lv_iconst (v := 0) hx hb dX6_isLastOfHunk_35 (by decide) ?_
  exact kr _ _ _ _ _ _ (j_ret eG0 hE) rfl (by decide) jw dX6_isLastOfHunk_36
def s_X6_addHunk (Y : JY) (M : JM) (o : Nat) (q1 : Nat) (p2 : Int32) (p3 : Int32) (p4 : Int32) : Option (JM) := lt_ (s_X8_at Y M q1 p2 (0 : Int32)) fun vv1 => lt_ (s_X8_at Y M q1 p3 (1 : Int32)) fun vv2 => lt_ (s_X8_at Y M q1 p2 (2 : Int32)) fun vv3 => lt_ (s_X8_at Y M q1 p3 (3 : Int32)) fun vv4 => lt_ (if vv1 < p4 then vv1 else p4) fun vv5 => lt_ (if ((s_X4_size Y M (j_rf Y o 0)) - vv2) < p4 then ((s_X4_size Y M (j_rf Y o 0)) - vv2) else p4) fun vv7 => (s_X8_addRow Y M (j_rf Y o 2)).bind fun xx9 => lt_ xx9.1 fun vv10 => lt_ (s_X8_put Y xx9.2 (j_rf Y o 2) vv10 (0 : Int32) (vv1 - vv5)) fun xx11 => lt_ (s_X8_put Y xx11 (j_rf Y o 2) vv10 (1 : Int32) (((vv5 + vv2) - vv1) + vv7)) fun xx12 => lt_ (s_X8_put Y xx12 (j_rf Y o 2) vv10 (2 : Int32) (vv3 - vv5)) fun xx13 => lt_ (s_X8_put Y xx13 (j_rf Y o 2) vv10 (3 : Int32) (((vv5 + vv4) - vv3) + vv7)) fun xx14 => lt_ (s_X8_put Y xx14 (j_rf Y o 2) vv10 (4 : Int32) vv5) fun xx15 => lt_ (s_X8_put Y xx15 (j_rf Y o 2) vv10 (5 : Int32) vv7) fun xx16 => some xx16
set_option maxRecDepth 100000 in
set_option maxHeartbeats 4000000 in
theorem c_X6_addHunk {D : va_G} {Y : JY} {ty : Nat → ClassId} {ad : Nat → Nat} {sz : Nat} {l : Launch} {M : JM} (hY : j_ok Y) {o : Nat} {q1 : Nat} {p2 : Int32} {p3 : Int32} {p4 : Int32} (ho : j_kd Y o = 6) (hq1 : j_kd Y q1 = 8) {r : JM} (hE : s_X6_addHunk Y M o q1 p2 p3 p4 = some r) : JMv D Y ty ad sz l yX6_addHunk cX6_addHunk 12 2 47 [.ref (ad o), .ref (ad q1), .int p2, .int p3, .int p4] M r := by
  refine j_ofV hY (by decide +kernel) (Nat.le_of_ble_eq_true rfl) (fun p e s m below meth c args R Q A hRf hRl hA jc jw kr ls hl => ?_)
  have hx := jc.1
  have hb := jc.2.1
  have hl : lv_has ls 12 [(0, .ref (ad o)), (1, .ref (ad q1)), (2, .int p2), (3, .int p3), (4, .int p4)] := hl
  unfold s_X6_addHunk at hE
  obtain ⟨G0, eG0, hG0, hE⟩ := j_F0o hE
  refine lv_aload_n hx hb dX6_addHunk_0 rfl (lv_at hl 1 rfl) ?_
  refine lv_iload_n hx hb dX6_addHunk_1 rfl (lv_at hl 2 rfl) ?_
  refine lv_iconst (v := 0) hx hb dX6_addHunk_2 (by decide) ?_
  refine jc_vi [.int p2, .int (0 : Int32)] [] jc jw hA hq1 (by decide) rfl (c_X8_at hY hq1 (M := M) rfl) sd_X6_79 rfl hl.1 (j_hR hRf hRl rfl rfl) (Nat.le_of_ble_eq_true rfl) dX6_addHunk_3 (fun H locs jw => ?_)
  refine lv_topi (fun vv1 evv1 => ?_)
  replace hE := j_lu hE evv1
  try dsimp only at hE
  refine lv_istore (lv' := [(5, .int vv1), (0, .ref (ad o)), (1, .ref (ad q1)), (2, .int p2), (3, .int p3), (4, .int p4)]) hx hb dX6_addHunk_6 hl (by decide) rfl (fun ls hl => ?_)
  refine lv_aload_n hx hb dX6_addHunk_8 rfl (lv_at hl 2 rfl) ?_
  refine lv_iload_n hx hb dX6_addHunk_9 rfl (lv_at hl 4 rfl) ?_
  refine lv_iconst (v := 1) hx hb dX6_addHunk_10 (by decide) ?_
  refine jc_vi [.int p3, .int (1 : Int32)] [] jc jw hA hq1 (by decide) rfl (c_X8_at hY hq1 (M := M) rfl) sd_X6_79 rfl hl.1 (j_hR hRf hRl rfl rfl) (Nat.le_of_ble_eq_true rfl) dX6_addHunk_11 (fun H locs jw => ?_)
  refine lv_topi (fun vv2 evv2 => ?_)
  replace hE := j_lu hE evv2
  try dsimp only at hE
  refine lv_istore (lv' := [(6, .int vv2), (5, .int vv1), (0, .ref (ad o)), (1, .ref (ad q1)), (2, .int p2), (3, .int p3), (4, .int p4)]) hx hb dX6_addHunk_14 hl (by decide) rfl (fun ls hl => ?_)
  refine lv_aload_n hx hb dX6_addHunk_16 rfl (lv_at hl 3 rfl) ?_
  refine lv_iload_n hx hb dX6_addHunk_17 rfl (lv_at hl 4 rfl) ?_
  refine lv_iconst (v := 2) hx hb dX6_addHunk_18 (by decide) ?_
  refine jc_vi [.int p2, .int (2 : Int32)] [] jc jw hA hq1 (by decide) rfl (c_X8_at hY hq1 (M := M) rfl) sd_X6_79 rfl hl.1 (j_hR hRf hRl rfl rfl) (Nat.le_of_ble_eq_true rfl) dX6_addHunk_19 (fun H locs jw => ?_)
  refine lv_topi (fun vv3 evv3 => ?_)
  replace hE := j_lu hE evv3
  try dsimp only at hE
  refine lv_istore (lv' := [(7, .int vv3), (6, .int vv2), (5, .int vv1), (0, .ref (ad o)), (1, .ref (ad q1)), (2, .int p2), (3, .int p3), (4, .int p4)]) hx hb dX6_addHunk_22 hl (by decide) rfl (fun ls hl => ?_)
  refine lv_aload_n hx hb dX6_addHunk_24 rfl (lv_at hl 4 rfl) ?_
  refine lv_iload_n hx hb dX6_addHunk_25 rfl (lv_at hl 6 rfl) ?_
  refine lv_iconst (v := 3) hx hb dX6_addHunk_26 (by decide) ?_
  refine jc_vi [.int p3, .int (3 : Int32)] [] jc jw hA hq1 (by decide) rfl (c_X8_at hY hq1 (M := M) rfl) sd_X6_79 rfl hl.1 (j_hR hRf hRl rfl rfl) (Nat.le_of_ble_eq_true rfl) dX6_addHunk_27 (fun H locs jw => ?_)
  refine lv_topi (fun vv4 evv4 => ?_)
  replace hE := j_lu hE evv4
  try dsimp only at hE
  refine lv_istore (lv' := [(8, .int vv4), (7, .int vv3), (6, .int vv2), (5, .int vv1), (0, .ref (ad o)), (1, .ref (ad q1)), (2, .int p2), (3, .int p3), (4, .int p4)]) hx hb dX6_addHunk_30 hl (by decide) rfl (fun ls hl => ?_)
  refine lv_iload hx hb dX6_addHunk_32 (lv_at hl 8 rfl) ?_
  refine lv_iload hx hb dX6_addHunk_34 (lv_at hl 3 rfl) ?_
  refine va_mmin hx hb (jc.2.2.1.trans hl.1.symm) jc.2.2.2.1 (jc.2.2.2.2.1 _ wd_3_81) (jc.2.2.2.2.1 _ wd_3_3) (jc.2.2.2.2.1 _ wd_1_17) (jc.2.2.2.2.1 _ wd_3_4) (j_fr1 hRf rfl) (j_lo1 hRl rfl rfl) (Nat.zero_le _) (Nat.zero_le _) dX6_addHunk_36 ?_
  refine lv_topi (fun vv5 evv5 => ?_)
  replace hE := j_lu hE evv5
  try dsimp only at hE
  refine lv_istore (lv' := [(9, .int vv5), (8, .int vv4), (7, .int vv3), (6, .int vv2), (5, .int vv1), (0, .ref (ad o)), (1, .ref (ad q1)), (2, .int p2), (3, .int p3), (4, .int p4)]) hx hb dX6_addHunk_39 hl (by decide) rfl (fun ls hl => ?_)
  refine lv_iload hx hb dX6_addHunk_41 (lv_at hl 9 rfl) ?_
  refine lv_aload_n hx hb dX6_addHunk_43 rfl (lv_at hl 5 rfl) ?_
  refine jg_6_0 jc jw ho wd_4_137 dX6_addHunk_44 ?_
  have k6 := j_sub hY ho 0 (f := 4) rfl (by decide) (by decide) (by decide)
  refine jc_vi [] [.int p4] jc jw hA k6 (by decide) rfl (c_X4_size hY k6 (M := M) rfl) sd_X6_88 rfl hl.1 (j_hR hRf hRl rfl rfl) (Nat.le_of_ble_eq_true rfl) dX6_addHunk_47 (fun H locs jw => ?_)
  refine lv_iload hx hb dX6_addHunk_50 (lv_at hl 3 rfl) ?_
  refine lv_isub hx hb dX6_addHunk_52 ?_
  refine va_mmin hx hb (jc.2.2.1.trans hl.1.symm) jc.2.2.2.1 (jc.2.2.2.2.1 _ wd_3_81) (jc.2.2.2.2.1 _ wd_3_3) (jc.2.2.2.2.1 _ wd_1_17) (jc.2.2.2.2.1 _ wd_3_4) (j_fr1 hRf rfl) (j_lo1 hRl rfl rfl) (Nat.zero_le _) (Nat.zero_le _) dX6_addHunk_53 ?_
  refine lv_topi (fun vv7 evv7 => ?_)
  replace hE := j_lu hE evv7
  try dsimp only at hE
  refine lv_istore (lv' := [(10, .int vv7), (9, .int vv5), (8, .int vv4), (7, .int vv3), (6, .int vv2), (5, .int vv1), (0, .ref (ad o)), (1, .ref (ad q1)), (2, .int p2), (3, .int p3), (4, .int p4)]) hx hb dX6_addHunk_56 hl (by decide) rfl (fun ls hl => ?_)
  refine lv_aload_n hx hb dX6_addHunk_58 rfl (lv_at hl 6 rfl) ?_
  refine jg_6_2 jc jw ho wd_4_139 dX6_addHunk_59 ?_
  have k8 := j_sub hY ho 2 (f := 8) rfl (by decide) (by decide) (by decide)
  obtain ⟨xx9, exx9, hE⟩ := j_bd hG0 hE
  try dsimp only at hE
  refine jc_vi [] [] jc jw hA k8 (by decide) rfl (c_X8_addRow hY k8 (M := M) exx9) sd_X6_91 rfl hl.1 (j_hR hRf hRl rfl rfl) (Nat.le_of_ble_eq_true rfl) dX6_addHunk_62 (fun H locs jw => ?_)
  refine lv_topi (fun vv10 evv10 => ?_)
  replace hE := j_lu hE evv10
  try dsimp only at hE
  refine lv_istore (lv' := [(11, .int vv10), (10, .int vv7), (9, .int vv5), (8, .int vv4), (7, .int vv3), (6, .int vv2), (5, .int vv1), (0, .ref (ad o)), (1, .ref (ad q1)), (2, .int p2), (3, .int p3), (4, .int p4)]) hx hb dX6_addHunk_65 hl (by decide) rfl (fun ls hl => ?_)
  refine lv_aload_n hx hb dX6_addHunk_67 rfl (lv_at hl 7 rfl) ?_
  refine jg_6_2 jc jw ho wd_4_139 dX6_addHunk_68 ?_
  refine lv_iload hx hb dX6_addHunk_71 (lv_at hl 0 rfl) ?_
  refine lv_iconst (v := 0) hx hb dX6_addHunk_73 (by decide) ?_
  refine lv_iload hx hb dX6_addHunk_74 (lv_at hl 6 rfl) ?_
  refine lv_iload hx hb dX6_addHunk_76 (lv_at hl 2 rfl) ?_
  refine lv_isub hx hb dX6_addHunk_78 ?_
  obtain ⟨xx11, exx11, hE⟩ := j_lv hE
  try dsimp only at hE
  refine jc_vv [.int vv10, .int (0 : Int32), .int (vv1 - vv5)] [] jc jw hA k8 (by decide) rfl (c_X8_put hY k8 (M := xx9.2) exx11.symm) sd_X6_94 rfl hl.1 (j_hR hRf hRl rfl rfl) (Nat.le_of_ble_eq_true rfl) dX6_addHunk_79 (fun H locs jw => ?_)
  refine lv_aload_n hx hb dX6_addHunk_82 rfl (lv_at hl 7 rfl) ?_
  refine jg_6_2 jc jw ho wd_4_139 dX6_addHunk_83 ?_
  refine lv_iload hx hb dX6_addHunk_86 (lv_at hl 0 rfl) ?_
  refine lv_iconst (v := 1) hx hb dX6_addHunk_88 (by decide) ?_
  refine lv_iload hx hb dX6_addHunk_89 (lv_at hl 2 rfl) ?_
  refine lv_iload hx hb dX6_addHunk_91 (lv_at hl 5 rfl) ?_
  refine lv_iadd hx hb dX6_addHunk_93 ?_
  refine lv_iload hx hb dX6_addHunk_94 (lv_at hl 6 rfl) ?_
  refine lv_isub hx hb dX6_addHunk_96 ?_
  refine lv_iload hx hb dX6_addHunk_97 (lv_at hl 1 rfl) ?_
  refine lv_iadd hx hb dX6_addHunk_99 ?_
  obtain ⟨xx12, exx12, hE⟩ := j_lv hE
  try dsimp only at hE
  refine jc_vv [.int vv10, .int (1 : Int32), .int (((vv5 + vv2) - vv1) + vv7)] [] jc jw hA k8 (by decide) rfl (c_X8_put hY k8 (M := xx11) exx12.symm) sd_X6_94 rfl hl.1 (j_hR hRf hRl rfl rfl) (Nat.le_of_ble_eq_true rfl) dX6_addHunk_100 (fun H locs jw => ?_)
  refine lv_aload_n hx hb dX6_addHunk_103 rfl (lv_at hl 7 rfl) ?_
  refine jg_6_2 jc jw ho wd_4_139 dX6_addHunk_104 ?_
  refine lv_iload hx hb dX6_addHunk_107 (lv_at hl 0 rfl) ?_
  refine lv_iconst (v := 2) hx hb dX6_addHunk_109 (by decide) ?_
  refine lv_iload hx hb dX6_addHunk_110 (lv_at hl 4 rfl) ?_
  refine lv_iload hx hb dX6_addHunk_112 (lv_at hl 2 rfl) ?_
  refine lv_isub hx hb dX6_addHunk_114 ?_
  obtain ⟨xx13, exx13, hE⟩ := j_lv hE
  try dsimp only at hE
  refine jc_vv [.int vv10, .int (2 : Int32), .int (vv3 - vv5)] [] jc jw hA k8 (by decide) rfl (c_X8_put hY k8 (M := xx12) exx13.symm) sd_X6_94 rfl hl.1 (j_hR hRf hRl rfl rfl) (Nat.le_of_ble_eq_true rfl) dX6_addHunk_115 (fun H locs jw => ?_)
  refine lv_aload_n hx hb dX6_addHunk_118 rfl (lv_at hl 7 rfl) ?_
  refine jg_6_2 jc jw ho wd_4_139 dX6_addHunk_119 ?_
  refine lv_iload hx hb dX6_addHunk_122 (lv_at hl 0 rfl) ?_
  refine lv_iconst (v := 3) hx hb dX6_addHunk_124 (by decide) ?_
  refine lv_iload hx hb dX6_addHunk_125 (lv_at hl 2 rfl) ?_
  refine lv_iload hx hb dX6_addHunk_127 (lv_at hl 3 rfl) ?_
  refine lv_iadd hx hb dX6_addHunk_129 ?_
  refine lv_iload hx hb dX6_addHunk_130 (lv_at hl 4 rfl) ?_
  refine lv_isub hx hb dX6_addHunk_132 ?_
  refine lv_iload hx hb dX6_addHunk_133 (lv_at hl 1 rfl) ?_
  refine lv_iadd hx hb dX6_addHunk_135 ?_
  obtain ⟨xx14, exx14, hE⟩ := j_lv hE
  try dsimp only at hE
  refine jc_vv [.int vv10, .int (3 : Int32), .int (((vv5 + vv4) - vv3) + vv7)] [] jc jw hA k8 (by decide) rfl (c_X8_put hY k8 (M := xx13) exx14.symm) sd_X6_94 rfl hl.1 (j_hR hRf hRl rfl rfl) (Nat.le_of_ble_eq_true rfl) dX6_addHunk_136 (fun H locs jw => ?_)
  refine lv_aload_n hx hb dX6_addHunk_139 rfl (lv_at hl 7 rfl) ?_
  refine jg_6_2 jc jw ho wd_4_139 dX6_addHunk_140 ?_
  refine lv_iload hx hb dX6_addHunk_143 (lv_at hl 0 rfl) ?_
  refine lv_iconst (v := 4) hx hb dX6_addHunk_145 (by decide) ?_
  refine lv_iload hx hb dX6_addHunk_146 (lv_at hl 2 rfl) ?_
  obtain ⟨xx15, exx15, hE⟩ := j_lv hE
  try dsimp only at hE
  refine jc_vv [.int vv10, .int (4 : Int32), .int vv5] [] jc jw hA k8 (by decide) rfl (c_X8_put hY k8 (M := xx14) exx15.symm) sd_X6_94 rfl hl.1 (j_hR hRf hRl rfl rfl) (Nat.le_of_ble_eq_true rfl) dX6_addHunk_148 (fun H locs jw => ?_)
  refine lv_aload_n hx hb dX6_addHunk_151 rfl (lv_at hl 7 rfl) ?_
  refine jg_6_2 jc jw ho wd_4_139 dX6_addHunk_152 ?_
  refine lv_iload hx hb dX6_addHunk_155 (lv_at hl 0 rfl) ?_
  refine lv_iconst (v := 5) hx hb dX6_addHunk_157 (by decide) ?_
  refine lv_iload hx hb dX6_addHunk_158 (lv_at hl 1 rfl) ?_
  obtain ⟨xx16, exx16, hE⟩ := j_lv hE
  try dsimp only at hE
  refine jc_vv [.int vv10, .int (5 : Int32), .int vv7] [] jc jw hA k8 (by decide) rfl (c_X8_put hY k8 (M := xx15) exx16.symm) sd_X6_94 rfl hl.1 (j_hR hRf hRl rfl rfl) (Nat.le_of_ble_eq_true rfl) dX6_addHunk_160 (fun H locs jw => ?_)
  exact kr _ _ _ _ _ (Option.some.inj (j_ret eG0 hE)) jw dX6_addHunk_163
def lp_X6_make_1 (Y : JY) (mm11 : JM) (q1 : Nat) (p2 : Int32) (o : Nat) (n : Nat) (vv14 : Int32) (vv15 : Int32) (mm16 : JM) : Option (JM) := match n with
  | 0 => none
  | n + 1 => if (s_X8_rows Y mm16 (s_X1_parts Y mm11 q1)) ≤ vv15 then (some mm16) else ((if (s_X6_isLastOfHunk Y mm16 (s_X1_parts Y mm11 q1) vv15 p2) = 0 then (some (vv14, mm16)) else ((s_X6_addHunk Y mm16 o (s_X1_parts Y mm11 q1) vv14 vv15 p2).bind fun xx21 => lt_ (vv15 + (1 : Int32)) fun vv22 => some (vv22, xx21))).bind fun xx26 => lt_ (vv15 + (1 : Int32)) fun vv25 => lp_X6_make_1 Y mm11 q1 p2 o n xx26.1 vv25 xx26.2)
def s_X6_make (Y : JY) (M : JM) (o : Nat) (q1 : Nat) (p2 : Int32) : Option (Int32 × JM) := (s_X4_become Y M (j_rf Y o 0) (s_X1_first Y M q1)).bind fun xx3 => (s_X4_become Y xx3 (j_rf Y o 1) (s_X1_second Y xx3 q1)).bind fun xx6 => lt_ (s_X8_clear Y xx6 (j_rf Y o 2)) fun xx8 => lt_ (s_X8_clear Y xx8 (j_rf Y o 4)) fun xx10 => lt_ (j_up xx10 o 8 (1 : Int32)) fun mm11 => (lp_X6_make_1 Y mm11 q1 p2 o j_fuel (0 : Int32) (0 : Int32) mm11).bind fun xx28 => some ((s_X8_rows Y xx28 (j_rf Y o 2)), xx28)
set_option maxRecDepth 100000 in
set_option maxHeartbeats 4000000 in
theorem c_X6_make {D : va_G} {Y : JY} {ty : Nat → ClassId} {ad : Nat → Nat} {sz : Nat} {l : Launch} {M : JM} (hY : j_ok Y) {o : Nat} {q1 : Nat} {p2 : Int32} (ho : j_kd Y o = 6) (hq1 : j_kd Y q1 = 1) {r : Int32 × JM} (hE : s_X6_make Y M o q1 p2 = some r) : JMi D Y ty ad sz l yX6_make cX6_make 6 (some .int) 3 78 [.ref (ad o), .ref (ad q1), .int p2] M r.1 r.2 := by
  refine j_ofI hY (by decide +kernel) (Nat.le_of_ble_eq_true rfl) (fun p e s m below meth c args R Q A hRf hRl hA jc jw kr ls hl => ?_)
  have hx := jc.1
  have hb := jc.2.1
  have hl : lv_has ls 6 [(0, .ref (ad o)), (1, .ref (ad q1)), (2, .int p2)] := hl
  unfold s_X6_make at hE
  obtain ⟨G0, eG0, hG0, hE⟩ := j_F0o hE
  refine lv_aload_n hx hb dX6_make_0 rfl (lv_at hl 0 rfl) ?_
  refine jg_6_0 jc jw ho wd_4_137 dX6_make_1 ?_
  have k1 := j_sub hY ho 0 (f := 4) rfl (by decide) (by decide) (by decide)
  refine lv_aload_n hx hb dX6_make_4 rfl (lv_at hl 1 rfl) ?_
  refine jc_vr [] [.ref (ad (j_rf Y o 0))] jc jw hA hq1 (by decide) rfl (c_X1_first hY hq1 (M := M) rfl) sd_X6_45 rfl hl.1 (j_hR hRf hRl rfl rfl) (Nat.le_of_ble_eq_true rfl) dX6_make_5 (fun H locs jw hk => ?_)
  have k2 := hk
  obtain ⟨xx3, exx3, hE⟩ := j_bd hG0 hE
  try dsimp only at hE
  refine jc_vv [.ref (ad (s_X1_first Y M q1))] [] jc jw hA k1 (by decide) rfl (c_X4_become hY k1 k2 (M := M) exx3) sd_X6_50 rfl hl.1 (j_hR hRf hRl rfl rfl) (Nat.le_of_ble_eq_true rfl) dX6_make_8 (fun H locs jw => ?_)
  refine lv_aload_n hx hb dX6_make_11 rfl (lv_at hl 0 rfl) ?_
  refine jg_6_1 jc jw ho wd_4_138 dX6_make_12 ?_
  have k4 := j_sub hY ho 1 (f := 4) rfl (by decide) (by decide) (by decide)
  refine lv_aload_n hx hb dX6_make_15 rfl (lv_at hl 1 rfl) ?_
  refine jc_vr [] [.ref (ad (j_rf Y o 1))] jc jw hA hq1 (by decide) rfl (c_X1_second hY hq1 (M := xx3) rfl) sd_X6_54 rfl hl.1 (j_hR hRf hRl rfl rfl) (Nat.le_of_ble_eq_true rfl) dX6_make_16 (fun H locs jw hk => ?_)
  have k5 := hk
  obtain ⟨xx6, exx6, hE⟩ := j_bd hG0 hE
  try dsimp only at hE
  refine jc_vv [.ref (ad (s_X1_second Y xx3 q1))] [] jc jw hA k4 (by decide) rfl (c_X4_become hY k4 k5 (M := xx3) exx6) sd_X6_50 rfl hl.1 (j_hR hRf hRl rfl rfl) (Nat.le_of_ble_eq_true rfl) dX6_make_19 (fun H locs jw => ?_)
  refine lv_aload_n hx hb dX6_make_22 rfl (lv_at hl 0 rfl) ?_
  refine jg_6_2 jc jw ho wd_4_139 dX6_make_23 ?_
  have k7 := j_sub hY ho 2 (f := 8) rfl (by decide) (by decide) (by decide)
  obtain ⟨xx8, exx8, hE⟩ := j_lv hE
  try dsimp only at hE
  refine jc_vv [] [] jc jw hA k7 (by decide) rfl (c_X8_clear hY k7 (M := xx6) exx8.symm) sd_X6_56 rfl hl.1 (j_hR hRf hRl rfl rfl) (Nat.le_of_ble_eq_true rfl) dX6_make_26 (fun H locs jw => ?_)
  refine lv_aload_n hx hb dX6_make_29 rfl (lv_at hl 0 rfl) ?_
  refine jg_6_4 jc jw ho wd_4_141 dX6_make_30 ?_
  have k9 := j_sub hY ho 4 (f := 8) rfl (by decide) (by decide) (by decide)
  obtain ⟨xx10, exx10, hE⟩ := j_lv hE
  try dsimp only at hE
  refine jc_vv [] [] jc jw hA k9 (by decide) rfl (c_X8_clear hY k9 (M := xx8) exx10.symm) sd_X6_56 rfl hl.1 (j_hR hRf hRl rfl rfl) (Nat.le_of_ble_eq_true rfl) dX6_make_33 (fun H locs jw => ?_)
  refine lv_aload_n hx hb dX6_make_36 rfl (lv_at hl 0 rfl) ?_
  refine lv_iconst (v := 1) hx hb dX6_make_37 (by decide) ?_
  refine js_6_8 jc jw ho wd_4_145 (by decide) dX6_make_38 (fun H locs jw => ?_)
  obtain ⟨mm11, emm11, hE⟩ := j_lv hE
  rw [← emm11] at jw
  try dsimp only at hE
  refine lv_aload_n hx hb dX6_make_41 rfl (lv_at hl 1 rfl) ?_
  refine jc_vr [] [] jc jw hA hq1 (by decide) rfl (c_X1_parts hY hq1 (M := mm11) rfl) sd_X6_59 rfl hl.1 (j_hR hRf hRl rfl rfl) (Nat.le_of_ble_eq_true rfl) dX6_make_42 (fun H locs jw hk => ?_)
  have k12 := hk
  refine lv_astore_n (lv' := [(3, .ref (ad (s_X1_parts Y mm11 q1))), (0, .ref (ad o)), (1, .ref (ad q1)), (2, .int p2)]) hx hb dX6_make_45 rfl hl (by decide) rfl (fun ls hl => ?_)
  refine lv_iconst (v := 0) hx hb dX6_make_46 (by decide) ?_
  refine lv_istore (lv' := [(4, .int (0 : Int32)), (3, .ref (ad (s_X1_parts Y mm11 q1))), (0, .ref (ad o)), (1, .ref (ad q1)), (2, .int p2)]) hx hb dX6_make_47 hl (by decide) rfl (fun ls hl => ?_)
  refine lv_iconst (v := 0) hx hb dX6_make_49 (by decide) ?_
  refine lv_istore (lv' := [(5, .int (0 : Int32)), (4, .int (0 : Int32)), (3, .ref (ad (s_X1_parts Y mm11 q1))), (0, .ref (ad o)), (1, .ref (ad q1)), (2, .int p2)]) hx hb dX6_make_50 hl (by decide) rfl (fun ls hl => ?_)
  obtain ⟨G13, eG13, hG13, hE⟩ := j_ctxB hG0 hE
  have E13_93 : ∀ (mm27 : JM)  (H : Heap) (locs : List Loc) (ls : Array Slot), G13 (some mm27) = some r → JW D Y ty ad A s.heap mm27 H locs → lv_has ls 6 [(0, .ref (ad o))] → W p l e R s m args below meth c H locs 0 0 Q (F0 m 93 ls []) := by
    intro mm27  H locs ls hE jw hl
    replace hE := j_popB eG13 hE
    try dsimp only at hE
    refine lv_aload_n hx hb dX6_make_93 rfl (lv_at hl 0 rfl) ?_
    refine jg_6_2 jc jw ho wd_4_139 dX6_make_94 ?_
    refine jc_vi [] [] jc jw hA k7 (by decide) rfl (c_X8_rows hY k7 (M := mm27) rfl) sd_X6_63 rfl hl.1 (j_hR hRf hRl rfl rfl) (Nat.le_of_ble_eq_true rfl) dX6_make_97 (fun H locs jw => ?_)
    exact kr _ _ _ _ _ _ (j_fst (Option.some.inj (j_ret eG0 hE))) (j_snd (Option.some.inj (j_ret eG0 hE))) jw dX6_make_100
  have LP13 : ∀ (n : Nat) (vv14 : Int32) (vv15 : Int32) (mm16 : JM) (H : Heap) (locs : List Loc) (ls : Array Slot), G13 (lp_X6_make_1 Y mm11 q1 p2 o n vv14 vv15 mm16) = some r → JW D Y ty ad A s.heap mm16 H locs → lv_has ls 6 [(5, .int vv15), (4, .int vv14), (3, .ref (ad (s_X1_parts Y mm11 q1))), (0, .ref (ad o)), (2, .int p2)] → W p l e R s m args below meth c H locs 0 0 Q (F0 m 52 ls []) := by
    intro n
    induction n with
    | zero => intro vv14 vv15 mm16 H locs ls hE jw hl; exact absurd hE (hG13 _)
    | succ n ih =>
      intro vv14 vv15 mm16 H locs ls hE jw hl
      rw [lp_X6_make_1] at hE
      refine lv_iload hx hb dX6_make_52 (lv_at hl 0 rfl) ?_
      refine lv_aload_n hx hb dX6_make_54 rfl (lv_at hl 2 rfl) ?_
      refine jc_vi [] [.int vv15] jc jw hA k12 (by decide) rfl (c_X8_rows hY k12 (M := mm16) rfl) sd_X6_63 rfl hl.1 (j_hR hRf hRl rfl rfl) (Nat.le_of_ble_eq_true rfl) dX6_make_55 (fun H locs jw => ?_)
      refine lv_icmp_ge (tgt := 93) hx hb dX6_make_58 (by decide) (fun c17 => ?_) (fun c17 => ?_)
      · rw [if_pos c17] at hE
        exact E13_93 mm16  H locs ls hE jw (lv_sub hl [3] rfl)
      · rw [if_neg c17] at hE
        refine lv_aload_n hx hb dX6_make_61 rfl (lv_at hl 2 rfl) ?_
        refine lv_iload hx hb dX6_make_62 (lv_at hl 0 rfl) ?_
        refine lv_iload_n hx hb dX6_make_64 rfl (lv_at hl 4 rfl) ?_
        refine jc_sz [.ref (ad (s_X1_parts Y mm11 q1)), .int vv15, .int p2] [] jc jw hA (c_X6_isLastOfHunk hY k12 (M := mm16) rfl) sd_X6_67 rfl hl.1 (j_hR hRf hRl rfl rfl) (Nat.le_of_ble_eq_true rfl) dX6_make_65 (fun H locs jw hz => ?_)
        have z_18 := hz
        obtain ⟨G20, eG20, hG20, hE⟩ := j_ctxB hG13 hE
        have J20 : ∀ (vv23 : Int32) (mm24 : JM)  (H : Heap) (locs : List Loc) (ls : Array Slot), G20 (some (vv23, mm24)) = some r → JW D Y ty ad A s.heap mm24 H locs → lv_has ls 6 [(5, .int vv15), (4, .int vv23), (3, .ref (ad (s_X1_parts Y mm11 q1))), (0, .ref (ad o)), (2, .int p2)] → W p l e R s m args below meth c H locs 0 0 Q (F0 m 87 ls []) := by
          intro vv23 mm24  H locs ls hE jw hl
          replace hE := j_popB eG20 hE
          try dsimp only at hE
          obtain ⟨vv25, evv25, hE⟩ := j_lv hE
          try dsimp only at hE
          refine lv_iinc (v := vv25) (lv' := [(5, .int vv25), (4, .int vv23), (3, .ref (ad (s_X1_parts Y mm11 q1))), (0, .ref (ad o)), (2, .int p2)]) hx hb dX6_make_87 hl (k := 0) rfl (by rw [evv25]; rfl) (by decide) rfl (fun ls hl => ?_)
          refine lv_goto (tgt := 52) hx hb dX6_make_90 (by decide) ?_
          exact ih vv23 vv25 mm24 H locs ls hE jw (lv_sub hl [0, 1, 2, 3, 4] rfl)
        refine lv_if_eq (tgt := 87) hx hb dX6_make_68 (by decide) (fun c19 => ?_) (fun c19 => ?_)
        · rw [if_pos c19] at hE
          exact J20 vv14 mm16  H locs ls hE jw (lv_sub hl [0, 1, 2, 3, 4] rfl)
        · rw [if_neg c19] at hE
          refine lv_aload_n hx hb dX6_make_71 rfl (lv_at hl 3 rfl) ?_
          refine lv_aload_n hx hb dX6_make_72 rfl (lv_at hl 2 rfl) ?_
          refine lv_iload hx hb dX6_make_73 (lv_at hl 1 rfl) ?_
          refine lv_iload hx hb dX6_make_75 (lv_at hl 0 rfl) ?_
          refine lv_iload_n hx hb dX6_make_77 rfl (lv_at hl 4 rfl) ?_
          obtain ⟨xx21, exx21, hE⟩ := j_bd hG20 hE
          try dsimp only at hE
          refine jc_vv [.ref (ad (s_X1_parts Y mm11 q1)), .int vv14, .int vv15, .int p2] [] jc jw hA ho (by decide) rfl (c_X6_addHunk hY ho k12 (M := mm16) exx21) sd_X6_71 rfl hl.1 (j_hR hRf hRl rfl rfl) (Nat.le_of_ble_eq_true rfl) dX6_make_78 (fun H locs jw => ?_)
          refine lv_iload hx hb dX6_make_81 (lv_at hl 0 rfl) ?_
          refine lv_iconst (v := 1) hx hb dX6_make_83 (by decide) ?_
          refine lv_iadd hx hb dX6_make_84 ?_
          refine lv_topi (fun vv22 evv22 => ?_)
          replace hE := j_lu hE evv22
          try dsimp only at hE
          refine lv_istore (lv' := [(4, .int vv22), (5, .int vv15), (3, .ref (ad (s_X1_parts Y mm11 q1))), (0, .ref (ad o)), (2, .int p2)]) hx hb dX6_make_85 hl (by decide) rfl (fun ls hl => ?_)
          exact J20 vv22 xx21  H locs ls hE jw (lv_sub hl [1, 0, 2, 3, 4] rfl)
  exact LP13 j_fuel (0 : Int32) (0 : Int32) mm11 H locs ls hE jw (lv_sub hl [0, 1, 2, 3, 5] rfl)
def s_X6_partBegin (Y : JY) (M : JM) (o : Nat) (p1 : Int32) (p2 : Int32) (p3 : Int32) : Int32 := ((s_X8_at Y M (j_rf Y o 2) p1 p2) + (if (s_X8_at Y M (j_rf Y o 2) p1 (4 : Int32)) < p3 then (s_X8_at Y M (j_rf Y o 2) p1 (4 : Int32)) else p3))
set_option maxRecDepth 100000 in
set_option maxHeartbeats 4000000 in
theorem c_X6_partBegin {D : va_G} {Y : JY} {ty : Nat → ClassId} {ad : Nat → Nat} {sz : Nat} {l : Launch} {M : JM} (hY : j_ok Y) {o : Nat} {p1 : Int32} {p2 : Int32} {p3 : Int32} (ho : j_kd Y o = 6) {r : Int32} (hE : s_X6_partBegin Y M o p1 p2 p3 = r) : JMi D Y ty ad sz l yX6_partBegin cX6_partBegin 4 (some .int) 1 29 [.ref (ad o), .int p1, .int p2, .int p3] M r M := by
  refine j_ofI hY (by decide +kernel) (Nat.le_of_ble_eq_true rfl) (fun p e s m below meth c args R Q A hRf hRl hA jc jw kr ls hl => ?_)
  have hx := jc.1
  have hb := jc.2.1
  have hl : lv_has ls 4 [(0, .ref (ad o)), (1, .int p1), (2, .int p2), (3, .int p3)] := hl
  unfold s_X6_partBegin at hE
  obtain ⟨G0, eG0, hE⟩ := j_F0 hE
  refine lv_aload_n hx hb dX6_partBegin_0 rfl (lv_at hl 0 rfl) ?_
  refine jg_6_2 jc jw ho wd_4_139 dX6_partBegin_1 ?_
  have k1 := j_sub hY ho 2 (f := 8) rfl (by decide) (by decide) (by decide)
  refine lv_iload_n hx hb dX6_partBegin_4 rfl (lv_at hl 1 rfl) ?_
  refine lv_iload_n hx hb dX6_partBegin_5 rfl (lv_at hl 2 rfl) ?_
  refine jc_vi [.int p1, .int p2] [] jc jw hA k1 (by decide) rfl (c_X8_at hY k1 (M := M) rfl) sd_X6_79 rfl hl.1 (j_hR hRf hRl rfl rfl) (Nat.le_of_ble_eq_true rfl) dX6_partBegin_6 (fun H locs jw => ?_)
  refine lv_iload_n hx hb dX6_partBegin_9 rfl (lv_at hl 3 rfl) ?_
  refine lv_aload_n hx hb dX6_partBegin_10 rfl (lv_at hl 0 rfl) ?_
  refine jg_6_2 jc jw ho wd_4_139 dX6_partBegin_11 ?_
  refine lv_iload_n hx hb dX6_partBegin_14 rfl (lv_at hl 1 rfl) ?_
  refine lv_iconst (v := 4) hx hb dX6_partBegin_15 (by decide) ?_
  refine jc_vi [.int p1, .int (4 : Int32)] [.int p3, .int (s_X8_at Y M (j_rf Y o 2) p1 p2)] jc jw hA k1 (by decide) rfl (c_X8_at hY k1 (M := M) rfl) sd_X6_79 rfl hl.1 (j_hR hRf hRl rfl rfl) (Nat.le_of_ble_eq_true rfl) dX6_partBegin_16 (fun H locs jw => ?_)
  refine va_mmin hx hb (jc.2.2.1.trans hl.1.symm) jc.2.2.2.1 (jc.2.2.2.2.1 _ wd_3_81) (jc.2.2.2.2.1 _ wd_3_3) (jc.2.2.2.2.1 _ wd_1_17) (jc.2.2.2.2.1 _ wd_3_4) (j_fr1 hRf rfl) (j_lo1 hRl rfl rfl) (Nat.zero_le _) (Nat.zero_le _) dX6_partBegin_19 ?_
  refine lv_iadd hx hb dX6_partBegin_22 ?_
  exact kr _ _ _ _ _ _ (j_ret eG0 hE) rfl jw dX6_partBegin_23
def s_X6_partEnd (Y : JY) (M : JM) (o : Nat) (p1 : Int32) (p2 : Int32) (p3 : Int32) : Int32 := lt_ ((s_X8_at Y M (j_rf Y o 2) p1 p2) + (s_X8_at Y M (j_rf Y o 2) p1 (p2 + (1 : Int32)))) fun vv2 => (vv2 - (if (s_X8_at Y M (j_rf Y o 2) p1 (5 : Int32)) < p3 then (s_X8_at Y M (j_rf Y o 2) p1 (5 : Int32)) else p3))
set_option maxRecDepth 100000 in
set_option maxHeartbeats 4000000 in
theorem c_X6_partEnd {D : va_G} {Y : JY} {ty : Nat → ClassId} {ad : Nat → Nat} {sz : Nat} {l : Launch} {M : JM} (hY : j_ok Y) {o : Nat} {p1 : Int32} {p2 : Int32} {p3 : Int32} (ho : j_kd Y o = 6) {r : Int32} (hE : s_X6_partEnd Y M o p1 p2 p3 = r) : JMi D Y ty ad sz l yX6_partEnd cX6_partEnd 5 (some .int) 1 29 [.ref (ad o), .int p1, .int p2, .int p3] M r M := by
  refine j_ofI hY (by decide +kernel) (Nat.le_of_ble_eq_true rfl) (fun p e s m below meth c args R Q A hRf hRl hA jc jw kr ls hl => ?_)
  have hx := jc.1
  have hb := jc.2.1
  have hl : lv_has ls 5 [(0, .ref (ad o)), (1, .int p1), (2, .int p2), (3, .int p3)] := hl
  unfold s_X6_partEnd at hE
  obtain ⟨G0, eG0, hE⟩ := j_F0 hE
  refine lv_aload_n hx hb dX6_partEnd_0 rfl (lv_at hl 0 rfl) ?_
  refine jg_6_2 jc jw ho wd_4_139 dX6_partEnd_1 ?_
  have k1 := j_sub hY ho 2 (f := 8) rfl (by decide) (by decide) (by decide)
  refine lv_iload_n hx hb dX6_partEnd_4 rfl (lv_at hl 1 rfl) ?_
  refine lv_iload_n hx hb dX6_partEnd_5 rfl (lv_at hl 2 rfl) ?_
  refine jc_vi [.int p1, .int p2] [] jc jw hA k1 (by decide) rfl (c_X8_at hY k1 (M := M) rfl) sd_X6_79 rfl hl.1 (j_hR hRf hRl rfl rfl) (Nat.le_of_ble_eq_true rfl) dX6_partEnd_6 (fun H locs jw => ?_)
  refine lv_aload_n hx hb dX6_partEnd_9 rfl (lv_at hl 0 rfl) ?_
  refine jg_6_2 jc jw ho wd_4_139 dX6_partEnd_10 ?_
  refine lv_iload_n hx hb dX6_partEnd_13 rfl (lv_at hl 1 rfl) ?_
  refine lv_iload_n hx hb dX6_partEnd_14 rfl (lv_at hl 2 rfl) ?_
  refine lv_iconst (v := 1) hx hb dX6_partEnd_15 (by decide) ?_
  refine lv_iadd hx hb dX6_partEnd_16 ?_
  refine jc_vi [.int p1, .int (p2 + (1 : Int32))] [.int (s_X8_at Y M (j_rf Y o 2) p1 p2)] jc jw hA k1 (by decide) rfl (c_X8_at hY k1 (M := M) rfl) sd_X6_79 rfl hl.1 (j_hR hRf hRl rfl rfl) (Nat.le_of_ble_eq_true rfl) dX6_partEnd_17 (fun H locs jw => ?_)
  refine lv_iadd hx hb dX6_partEnd_20 ?_
  refine lv_topi (fun vv2 evv2 => ?_)
  replace hE := j_lu hE evv2
  try dsimp only at hE
  refine lv_istore (lv' := [(4, .int vv2), (0, .ref (ad o)), (1, .int p1), (2, .int p2), (3, .int p3)]) hx hb dX6_partEnd_21 hl (by decide) rfl (fun ls hl => ?_)
  refine lv_iload hx hb dX6_partEnd_23 (lv_at hl 0 rfl) ?_
  refine lv_iload_n hx hb dX6_partEnd_25 rfl (lv_at hl 4 rfl) ?_
  refine lv_aload_n hx hb dX6_partEnd_26 rfl (lv_at hl 1 rfl) ?_
  refine jg_6_2 jc jw ho wd_4_139 dX6_partEnd_27 ?_
  refine lv_iload_n hx hb dX6_partEnd_30 rfl (lv_at hl 2 rfl) ?_
  refine lv_iconst (v := 5) hx hb dX6_partEnd_31 (by decide) ?_
  refine jc_vi [.int p1, .int (5 : Int32)] [.int p3, .int vv2] jc jw hA k1 (by decide) rfl (c_X8_at hY k1 (M := M) rfl) sd_X6_79 rfl hl.1 (j_hR hRf hRl rfl rfl) (Nat.le_of_ble_eq_true rfl) dX6_partEnd_32 (fun H locs jw => ?_)
  refine va_mmin hx hb (jc.2.2.1.trans hl.1.symm) jc.2.2.2.1 (jc.2.2.2.2.1 _ wd_3_81) (jc.2.2.2.2.1 _ wd_3_3) (jc.2.2.2.2.1 _ wd_1_17) (jc.2.2.2.2.1 _ wd_3_4) (j_fr1 hRf rfl) (j_lo1 hRl rfl rfl) (Nat.zero_le _) (Nat.zero_le _) dX6_partEnd_35 ?_
  refine lv_isub hx hb dX6_partEnd_38 ?_
  exact kr _ _ _ _ _ _ (j_ret eG0 hE) rfl jw dX6_partEnd_39
def s_X6_fits (Y : JY) (M : JM) (o : Nat) (q1 : Nat) (p2 : Int32) (q3 : Nat) (p4 : Int32) (p5 : Int32) : Option (Int32) := lt_ ((p2 + p5) - p4) fun vv1 => if p2 < (M o 7) ∨ (s_X4_size Y M q1) < vv1 then (some (0 : Int32)) else ((s_X4_samePart Y M q1 p2 vv1 q3 p4 p5).bind fun xx4 => if xx4 = 0 then (some (0 : Int32)) else (some (1 : Int32)))
set_option maxRecDepth 100000 in
set_option maxHeartbeats 4000000 in
theorem c_X6_fits {D : va_G} {Y : JY} {ty : Nat → ClassId} {ad : Nat → Nat} {sz : Nat} {l : Launch} {M : JM} (hY : j_ok Y) {o : Nat} {q1 : Nat} {p2 : Int32} {q3 : Nat} {p4 : Int32} {p5 : Int32} (ho : j_kd Y o = 6) (hq1 : j_kd Y q1 = 4) (hq3 : j_kd Y q3 = 4) {r : Int32} (hE : s_X6_fits Y M o q1 p2 q3 p4 p5 = some r) : JMz D Y ty ad sz l yX6_fits cX6_fits 7 2 47 [.ref (ad o), .ref (ad q1), .int p2, .ref (ad q3), .int p4, .int p5] M r M := by
  refine j_ofZ hY (by decide +kernel) (Nat.le_of_ble_eq_true rfl) (fun p e s m below meth c args R Q A hRf hRl hA jc jw kr ls hl => ?_)
  have hx := jc.1
  have hb := jc.2.1
  have hl : lv_has ls 7 [(0, .ref (ad o)), (1, .ref (ad q1)), (2, .int p2), (3, .ref (ad q3)), (4, .int p4), (5, .int p5)] := hl
  unfold s_X6_fits at hE
  obtain ⟨G0, eG0, hG0, hE⟩ := j_F0o hE
  refine lv_iload_n hx hb dX6_fits_0 rfl (lv_at hl 2 rfl) ?_
  refine lv_iload hx hb dX6_fits_1 (lv_at hl 5 rfl) ?_
  refine lv_iadd hx hb dX6_fits_3 ?_
  refine lv_iload hx hb dX6_fits_4 (lv_at hl 4 rfl) ?_
  refine lv_isub hx hb dX6_fits_6 ?_
  refine lv_topi (fun vv1 evv1 => ?_)
  replace hE := j_lu hE evv1
  try dsimp only at hE
  refine lv_istore (lv' := [(6, .int vv1), (0, .ref (ad o)), (1, .ref (ad q1)), (2, .int p2), (3, .ref (ad q3)), (4, .int p4), (5, .int p5)]) hx hb dX6_fits_7 hl (by decide) rfl (fun ls hl => ?_)
  refine lv_iload_n hx hb dX6_fits_9 rfl (lv_at hl 3 rfl) ?_
  refine lv_aload_n hx hb dX6_fits_10 rfl (lv_at hl 1 rfl) ?_
  refine jg_6_7 jc jw ho wd_4_144 dX6_fits_11 ?_
  have B7 : ∀ (H : Heap) (locs : List Loc), JW D Y ty ad A s.heap M H locs → (p2 < (M o 7) ∨ (s_X4_size Y M q1) < vv1) → W p l e R s m args below meth c H locs 0 0 Q (F0 m 45 ls []) := by
    intro H locs jw hcc
    rw [if_pos hcc] at hE
    refine lv_iconst (v := 0) hx hb dX6_fits_45 (by decide) ?_
    exact kr _ _ _ _ _ _ (Option.some.inj (j_ret eG0 hE)) rfl (by decide) jw dX6_fits_46
  refine lv_icmp_lt (tgt := 45) hx hb dX6_fits_14 (by decide) (fun c2 => B7 _ _ jw (Or.inl c2)) (fun c2 => ?_)
  refine lv_iload hx hb dX6_fits_17 (lv_at hl 0 rfl) ?_
  refine lv_aload_n hx hb dX6_fits_19 rfl (lv_at hl 2 rfl) ?_
  refine jc_vi [] [.int vv1] jc jw hA hq1 (by decide) rfl (c_X4_size hY hq1 (M := M) rfl) sd_X6_88 rfl hl.1 (j_hR hRf hRl rfl rfl) (Nat.le_of_ble_eq_true rfl) dX6_fits_20 (fun H locs jw => ?_)
  refine lv_icmp_gt (tgt := 45) hx hb dX6_fits_23 (by decide) (fun c3 => B7 _ _ jw (Or.inr c3)) (fun c3 => ?_)
  rw [if_neg (fun hq => hq.elim (fun hq => (j_abs c2 hq)) (fun hq => (j_abs c3 hq)))] at hE
  refine lv_aload_n hx hb dX6_fits_26 rfl (lv_at hl 2 rfl) ?_
  refine lv_iload_n hx hb dX6_fits_27 rfl (lv_at hl 3 rfl) ?_
  refine lv_iload hx hb dX6_fits_28 (lv_at hl 0 rfl) ?_
  refine lv_aload_n hx hb dX6_fits_30 rfl (lv_at hl 4 rfl) ?_
  refine lv_iload hx hb dX6_fits_31 (lv_at hl 5 rfl) ?_
  refine lv_iload hx hb dX6_fits_33 (lv_at hl 6 rfl) ?_
  obtain ⟨xx4, exx4, hE⟩ := j_bd hG0 hE
  try dsimp only at hE
  refine jc_vz [.int p2, .int vv1, .ref (ad q3), .int p4, .int p5] [] jc jw hA hq1 (by decide) rfl (c_X4_samePart hY hq1 hq3 (M := M) exx4) sd_X6_136 rfl hl.1 (j_hR hRf hRl rfl rfl) (Nat.le_of_ble_eq_true rfl) dX6_fits_35 (fun H locs jw hz => ?_)
  have z_5 := hz
  refine lv_if_eq (tgt := 45) hx hb dX6_fits_38 (by decide) (fun c6 => ?_) (fun c6 => ?_)
  · rw [if_pos c6] at hE
    refine lv_iconst (v := 0) hx hb dX6_fits_45 (by decide) ?_
    exact kr _ _ _ _ _ _ (Option.some.inj (j_ret eG0 hE)) rfl (by decide) jw dX6_fits_46
  · rw [if_neg c6] at hE
    refine lv_iconst (v := 1) hx hb dX6_fits_41 (by decide) ?_
    refine lv_goto (tgt := 46) hx hb dX6_fits_42 (by decide) ?_
    exact kr _ _ _ _ _ _ (Option.some.inj (j_ret eG0 hE)) rfl (by decide) jw dX6_fits_46
def lp_X6_findFit_1 (Y : JY) (M : JM) (o : Nat) (q1 : Nat) (vv1 : Int32) (q2 : Nat) (p3 : Int32) (p4 : Int32) (n : Nat) (vv3 : Int32) : Option ((Int32) ⊕ ((Int32) ⊕ (Int32))) := match n with
  | 0 => none
  | n + 1 => if (10 : Int32) < vv3 then (some (Sum.inr (Sum.inr (-1 : Int32)))) else ((s_X6_fits Y M o q1 (vv1 + vv3) q2 p3 p4).bind fun xx5 => if xx5 = 0 then ((s_X6_fits Y M o q1 (vv1 - vv3) q2 p3 p4).bind fun xx8 => if xx8 = 0 then (lt_ (vv3 + (1 : Int32)) fun vv11 => lp_X6_findFit_1 Y M o q1 vv1 q2 p3 p4 n vv11) else (some (Sum.inr (Sum.inl vv3)))) else (some (Sum.inl vv3)))
def s_X6_findFit (Y : JY) (M : JM) (o : Nat) (q1 : Nat) (q2 : Nat) (p3 : Int32) (p4 : Int32) : Option (Int32) := lt_ (p3 + (M o 6)) fun vv1 => (lp_X6_findFit_1 Y M o q1 vv1 q2 p3 p4 j_fuel (0 : Int32)).bind fun xx14 => match xx14 with | Sum.inl xx14a => (some (vv1 + xx14a)) | Sum.inr xx14a => (match xx14a with | Sum.inl xx14aa => (some (vv1 - xx14aa)) | Sum.inr xx14aa => (some xx14aa))
set_option maxRecDepth 100000 in
set_option maxHeartbeats 4000000 in
theorem c_X6_findFit {D : va_G} {Y : JY} {ty : Nat → ClassId} {ad : Nat → Nat} {sz : Nat} {l : Launch} {M : JM} (hY : j_ok Y) {o : Nat} {q1 : Nat} {q2 : Nat} {p3 : Int32} {p4 : Int32} (ho : j_kd Y o = 6) (hq1 : j_kd Y q1 = 4) (hq2 : j_kd Y q2 = 4) {r : Int32} (hE : s_X6_findFit Y M o q1 q2 p3 p4 = some r) : JMi D Y ty ad sz l yX6_findFit cX6_findFit 7 (some .int) 3 73 [.ref (ad o), .ref (ad q1), .ref (ad q2), .int p3, .int p4] M r M := by
  refine j_ofI hY (by decide +kernel) (Nat.le_of_ble_eq_true rfl) (fun p e s m below meth c args R Q A hRf hRl hA jc jw kr ls hl => ?_)
  have hx := jc.1
  have hb := jc.2.1
  have hl : lv_has ls 7 [(0, .ref (ad o)), (1, .ref (ad q1)), (2, .ref (ad q2)), (3, .int p3), (4, .int p4)] := hl
  unfold s_X6_findFit at hE
  obtain ⟨G0, eG0, hG0, hE⟩ := j_F0o hE
  refine lv_iload_n hx hb dX6_findFit_0 rfl (lv_at hl 3 rfl) ?_
  refine lv_aload_n hx hb dX6_findFit_1 rfl (lv_at hl 0 rfl) ?_
  refine jg_6_6 jc jw ho wd_4_143 dX6_findFit_2 ?_
  refine lv_iadd hx hb dX6_findFit_5 ?_
  refine lv_topi (fun vv1 evv1 => ?_)
  replace hE := j_lu hE evv1
  try dsimp only at hE
  refine lv_istore (lv' := [(5, .int vv1), (0, .ref (ad o)), (1, .ref (ad q1)), (2, .ref (ad q2)), (3, .int p3), (4, .int p4)]) hx hb dX6_findFit_6 hl (by decide) rfl (fun ls hl => ?_)
  refine lv_iconst (v := 0) hx hb dX6_findFit_8 (by decide) ?_
  refine lv_istore (lv' := [(6, .int (0 : Int32)), (5, .int vv1), (0, .ref (ad o)), (1, .ref (ad q1)), (2, .ref (ad q2)), (3, .int p3), (4, .int p4)]) hx hb dX6_findFit_9 hl (by decide) rfl (fun ls hl => ?_)
  obtain ⟨G2, eG2, hG2, hE⟩ := j_ctxB hG0 hE
  have E2_35 : ∀ (vv12 : Int32)  (H : Heap) (locs : List Loc) (ls : Array Slot), G2 (some (Sum.inl vv12)) = some r → JW D Y ty ad A s.heap M H locs → lv_has ls 7 [(6, .int vv12), (5, .int vv1)] → W p l e R s m args below meth c H locs 0 0 Q (F0 m 35 ls []) := by
    intro vv12  H locs ls hE jw hl
    replace hE := j_popB eG2 hE
    try dsimp only at hE
    refine lv_iload hx hb dX6_findFit_35 (lv_at hl 1 rfl) ?_
    refine lv_iload hx hb dX6_findFit_37 (lv_at hl 0 rfl) ?_
    refine lv_iadd hx hb dX6_findFit_39 ?_
    exact kr _ _ _ _ _ _ (Option.some.inj (j_ret eG0 hE)) rfl jw dX6_findFit_40
  have E2_58 : ∀ (vv13 : Int32)  (H : Heap) (locs : List Loc) (ls : Array Slot), G2 (some (Sum.inr (Sum.inl vv13))) = some r → JW D Y ty ad A s.heap M H locs → lv_has ls 7 [(6, .int vv13), (5, .int vv1)] → W p l e R s m args below meth c H locs 0 0 Q (F0 m 58 ls []) := by
    intro vv13  H locs ls hE jw hl
    replace hE := j_popB eG2 hE
    try dsimp only at hE
    refine lv_iload hx hb dX6_findFit_58 (lv_at hl 1 rfl) ?_
    refine lv_iload hx hb dX6_findFit_60 (lv_at hl 0 rfl) ?_
    refine lv_isub hx hb dX6_findFit_62 ?_
    exact kr _ _ _ _ _ _ (Option.some.inj (j_ret eG0 hE)) rfl jw dX6_findFit_63
  have LP2 : ∀ (n : Nat) (vv3 : Int32) (H : Heap) (locs : List Loc) (ls : Array Slot), G2 (lp_X6_findFit_1 Y M o q1 vv1 q2 p3 p4 n vv3) = some r → JW D Y ty ad A s.heap M H locs → lv_has ls 7 [(6, .int vv3), (5, .int vv1), (0, .ref (ad o)), (1, .ref (ad q1)), (2, .ref (ad q2)), (3, .int p3), (4, .int p4)] → W p l e R s m args below meth c H locs 0 0 Q (F0 m 11 ls []) := by
    intro n
    induction n with
    | zero => intro vv3 H locs ls hE jw hl; exact absurd hE (hG2 _)
    | succ n ih =>
      intro vv3 H locs ls hE jw hl
      rw [lp_X6_findFit_1] at hE
      refine lv_iload hx hb dX6_findFit_11 (lv_at hl 0 rfl) ?_
      refine lv_bipush (v := 10) hx hb dX6_findFit_13 (by decide) ?_
      refine lv_icmp_gt (tgt := 70) hx hb dX6_findFit_15 (by decide) (fun c4 => ?_) (fun c4 => ?_)
      · rw [if_pos c4] at hE
        refine lv_iconst (v := -1) hx hb dX6_findFit_70 (by decide) ?_
        replace hE := j_popB eG2 hE
        try dsimp only at hE
        exact kr _ _ _ _ _ _ (Option.some.inj (j_ret eG0 hE)) rfl jw dX6_findFit_71
      · rw [if_neg c4] at hE
        refine lv_aload_n hx hb dX6_findFit_18 rfl (lv_at hl 2 rfl) ?_
        refine lv_aload_n hx hb dX6_findFit_19 rfl (lv_at hl 3 rfl) ?_
        refine lv_iload hx hb dX6_findFit_20 (lv_at hl 1 rfl) ?_
        refine lv_iload hx hb dX6_findFit_22 (lv_at hl 0 rfl) ?_
        refine lv_iadd hx hb dX6_findFit_24 ?_
        refine lv_aload_n hx hb dX6_findFit_25 rfl (lv_at hl 4 rfl) ?_
        refine lv_iload_n hx hb dX6_findFit_26 rfl (lv_at hl 5 rfl) ?_
        refine lv_iload hx hb dX6_findFit_27 (lv_at hl 6 rfl) ?_
        obtain ⟨xx5, exx5, hE⟩ := j_bd hG2 hE
        try dsimp only at hE
        refine jc_vz [.ref (ad q1), .int (vv1 + vv3), .ref (ad q2), .int p3, .int p4] [] jc jw hA ho (by decide) rfl (c_X6_fits hY ho hq1 hq2 (M := M) exx5) sd_X6_132 rfl hl.1 (j_hR hRf hRl rfl rfl) (Nat.le_of_ble_eq_true rfl) dX6_findFit_29 (fun H locs jw hz => ?_)
        have z_6 := hz
        refine lv_if_eq (tgt := 41) hx hb dX6_findFit_32 (by decide) (fun c7 => ?_) (fun c7 => ?_)
        · rw [if_pos c7] at hE
          refine lv_aload_n hx hb dX6_findFit_41 rfl (lv_at hl 2 rfl) ?_
          refine lv_aload_n hx hb dX6_findFit_42 rfl (lv_at hl 3 rfl) ?_
          refine lv_iload hx hb dX6_findFit_43 (lv_at hl 1 rfl) ?_
          refine lv_iload hx hb dX6_findFit_45 (lv_at hl 0 rfl) ?_
          refine lv_isub hx hb dX6_findFit_47 ?_
          refine lv_aload_n hx hb dX6_findFit_48 rfl (lv_at hl 4 rfl) ?_
          refine lv_iload_n hx hb dX6_findFit_49 rfl (lv_at hl 5 rfl) ?_
          refine lv_iload hx hb dX6_findFit_50 (lv_at hl 6 rfl) ?_
          obtain ⟨xx8, exx8, hE⟩ := j_bd hG2 hE
          try dsimp only at hE
          refine jc_vz [.ref (ad q1), .int (vv1 - vv3), .ref (ad q2), .int p3, .int p4] [] jc jw hA ho (by decide) rfl (c_X6_fits hY ho hq1 hq2 (M := M) exx8) sd_X6_132 rfl hl.1 (j_hR hRf hRl rfl rfl) (Nat.le_of_ble_eq_true rfl) dX6_findFit_52 (fun H locs jw hz => ?_)
          have z_9 := hz
          refine lv_if_eq (tgt := 64) hx hb dX6_findFit_55 (by decide) (fun c10 => ?_) (fun c10 => ?_)
          · rw [if_pos c10] at hE
            obtain ⟨vv11, evv11, hE⟩ := j_lv hE
            try dsimp only at hE
            refine lv_iinc (v := vv11) (lv' := [(6, .int vv11), (5, .int vv1), (0, .ref (ad o)), (1, .ref (ad q1)), (2, .ref (ad q2)), (3, .int p3), (4, .int p4)]) hx hb dX6_findFit_64 hl (k := 0) rfl (by rw [evv11]; rfl) (by decide) rfl (fun ls hl => ?_)
            refine lv_goto (tgt := 11) hx hb dX6_findFit_67 (by decide) ?_
            exact ih vv11 H locs ls hE jw (lv_sub hl [0, 1, 2, 3, 4, 5, 6] rfl)
          · rw [if_neg c10] at hE
            exact E2_58 vv3  H locs ls hE jw (lv_sub hl [0, 1] rfl)
        · rw [if_neg c7] at hE
          exact E2_35 vv3  H locs ls hE jw (lv_sub hl [0, 1] rfl)
  exact LP2 j_fuel (0 : Int32) s.heap [] ls hE jw (lv_sub hl [0, 1, 2, 3, 4, 5, 6] rfl)
def s_X6_pushNewPart (Y : JY) (M : JM) (o : Nat) (p1 : Int32) (p2 : Int32) (p3 : Int32) : Option (JM) := lt_ (if p3 = 0 then ((j_rf Y o 1)) else ((j_rf Y o 0))) fun xx13 => lt_ (if p3 = 0 then ((2 : Int32)) else ((0 : Int32))) fun xx12 => (s_X4_pushPart Y M (j_rf Y o 5) xx13 (s_X6_partBegin Y M o p1 xx12 p2) (s_X6_partEnd Y M o p1 xx12 p2)).bind fun xx11 => some xx11
set_option maxRecDepth 100000 in
set_option maxHeartbeats 4000000 in
theorem c_X6_pushNewPart {D : va_G} {Y : JY} {ty : Nat → ClassId} {ad : Nat → Nat} {sz : Nat} {l : Launch} {M : JM} (hY : j_ok Y) {o : Nat} {p1 : Int32} {p2 : Int32} {p3 : Int32} (ho : j_kd Y o = 6) {r : JM} (hE : s_X6_pushNewPart Y M o p1 p2 p3 = some r) : JMv D Y ty ad sz l yX6_pushNewPart cX6_pushNewPart 6 2 53 [.ref (ad o), .int p1, .int p2, .int p3] M r := by
  refine j_ofV hY (by decide +kernel) (Nat.le_of_ble_eq_true rfl) (fun p e s m below meth c args R Q A hRf hRl hA jc jw kr ls hl => ?_)
  have hx := jc.1
  have hb := jc.2.1
  have hl : lv_has ls 6 [(0, .ref (ad o)), (1, .int p1), (2, .int p2), (3, .int p3)] := hl
  unfold s_X6_pushNewPart at hE
  obtain ⟨G0, eG0, hG0, hE⟩ := j_F0o hE
  refine lv_iload_n hx hb dX6_pushNewPart_0 rfl (lv_at hl 3 rfl) ?_
  obtain ⟨G2, eG2, hE⟩ := j_ctxL hE
  have J2 : ∀ (oo5 : Nat) (k6 : j_kd Y oo5 = 4) (H : Heap) (locs : List Loc) (ls : Array Slot), G2 (oo5) = some r → JW D Y ty ad A s.heap M H locs → lv_has ls 6 [(0, .ref (ad o)), (1, .int p1), (2, .int p2), (3, .int p3)] → W p l e R s m args below meth c H locs 0 0 Q (F0 m 15 ls [.ref (ad oo5)]) := by
    intro oo5 k6 H locs ls hE jw hl
    replace hE := j_popL eG2 hE
    try dsimp only at hE
    refine lv_astore (lv' := [(4, .ref (ad oo5)), (0, .ref (ad o)), (1, .int p1), (2, .int p2), (3, .int p3)]) hx hb dX6_pushNewPart_15 hl (by decide) rfl (fun ls hl => ?_)
    refine lv_iload_n hx hb dX6_pushNewPart_17 rfl (lv_at hl 4 rfl) ?_
    obtain ⟨G8, eG8, hE⟩ := j_ctxL hE
    have J8 : ∀ (vv9 : Int32)  (H : Heap) (locs : List Loc) (ls : Array Slot), G8 (vv9) = some r → JW D Y ty ad A s.heap M H locs → lv_has ls 6 [(4, .ref (ad oo5)), (0, .ref (ad o)), (1, .int p1), (2, .int p2)] → W p l e R s m args below meth c H locs 0 0 Q (F0 m 26 ls [.int vv9]) := by
      intro vv9  H locs ls hE jw hl
      replace hE := j_popL eG8 hE
      try dsimp only at hE
      refine lv_istore (lv' := [(5, .int vv9), (4, .ref (ad oo5)), (0, .ref (ad o)), (1, .int p1), (2, .int p2)]) hx hb dX6_pushNewPart_26 hl (by decide) rfl (fun ls hl => ?_)
      refine lv_aload_n hx hb dX6_pushNewPart_28 rfl (lv_at hl 2 rfl) ?_
      refine jg_6_5 jc jw ho wd_4_142 dX6_pushNewPart_29 ?_
      have k10 := j_sub hY ho 5 (f := 4) rfl (by decide) (by decide) (by decide)
      refine lv_aload hx hb dX6_pushNewPart_32 (lv_at hl 1 rfl) ?_
      refine lv_aload_n hx hb dX6_pushNewPart_34 rfl (lv_at hl 2 rfl) ?_
      refine lv_iload_n hx hb dX6_pushNewPart_35 rfl (lv_at hl 3 rfl) ?_
      refine lv_iload hx hb dX6_pushNewPart_36 (lv_at hl 0 rfl) ?_
      refine lv_iload_n hx hb dX6_pushNewPart_38 rfl (lv_at hl 4 rfl) ?_
      refine jc_vi [.int p1, .int vv9, .int p2] [.ref (ad oo5), .ref (ad (j_rf Y o 5))] jc jw hA ho (by decide) rfl (c_X6_partBegin hY ho (M := M) rfl) sd_X6_114 rfl hl.1 (j_hR hRf hRl rfl rfl) (Nat.le_of_ble_eq_true rfl) dX6_pushNewPart_39 (fun H locs jw => ?_)
      refine lv_aload_n hx hb dX6_pushNewPart_42 rfl (lv_at hl 2 rfl) ?_
      refine lv_iload_n hx hb dX6_pushNewPart_43 rfl (lv_at hl 3 rfl) ?_
      refine lv_iload hx hb dX6_pushNewPart_44 (lv_at hl 0 rfl) ?_
      refine lv_iload_n hx hb dX6_pushNewPart_46 rfl (lv_at hl 4 rfl) ?_
      refine jc_vi [.int p1, .int vv9, .int p2] [.int (s_X6_partBegin Y M o p1 vv9 p2), .ref (ad oo5), .ref (ad (j_rf Y o 5))] jc jw hA ho (by decide) rfl (c_X6_partEnd hY ho (M := M) rfl) sd_X6_118 rfl hl.1 (j_hR hRf hRl rfl rfl) (Nat.le_of_ble_eq_true rfl) dX6_pushNewPart_47 (fun H locs jw => ?_)
      obtain ⟨xx11, exx11, hE⟩ := j_bd hG0 hE
      try dsimp only at hE
      refine jc_vv [.ref (ad oo5), .int (s_X6_partBegin Y M o p1 vv9 p2), .int (s_X6_partEnd Y M o p1 vv9 p2)] [] jc jw hA k10 (by decide) rfl (c_X4_pushPart hY k10 k6 (M := M) exx11) sd_X6_110 rfl hl.1 (j_hR hRf hRl rfl rfl) (Nat.le_of_ble_eq_true rfl) dX6_pushNewPart_50 (fun H locs jw => ?_)
      exact kr _ _ _ _ _ (Option.some.inj (j_ret eG0 hE)) jw dX6_pushNewPart_53
    refine lv_if_eq (tgt := 25) hx hb dX6_pushNewPart_18 (by decide) (fun c7 => ?_) (fun c7 => ?_)
    · rw [if_pos c7] at hE
      refine lv_iconst (v := 2) hx hb dX6_pushNewPart_25 (by decide) ?_
      exact J8 (2 : Int32)  H locs ls hE jw (lv_sub hl [0, 1, 2, 3] rfl)
    · rw [if_neg c7] at hE
      refine lv_iconst (v := 0) hx hb dX6_pushNewPart_21 (by decide) ?_
      refine lv_goto (tgt := 26) hx hb dX6_pushNewPart_22 (by decide) ?_
      exact J8 (0 : Int32)  H locs ls hE jw (lv_sub hl [0, 1, 2, 3] rfl)
  refine lv_if_eq (tgt := 11) hx hb dX6_pushNewPart_1 (by decide) (fun c1 => ?_) (fun c1 => ?_)
  · rw [if_pos c1] at hE
    refine lv_aload_n hx hb dX6_pushNewPart_11 rfl (lv_at hl 0 rfl) ?_
    refine jg_6_1 jc jw ho wd_4_138 dX6_pushNewPart_12 ?_
    have k3 := j_sub hY ho 1 (f := 4) rfl (by decide) (by decide) (by decide)
    exact J2 (j_rf Y o 1) k3 s.heap [] ls hE jw (lv_sub hl [0, 1, 2, 3] rfl)
  · rw [if_neg c1] at hE
    refine lv_aload_n hx hb dX6_pushNewPart_4 rfl (lv_at hl 0 rfl) ?_
    refine jg_6_0 jc jw ho wd_4_137 dX6_pushNewPart_5 ?_
    have k4 := j_sub hY ho 0 (f := 4) rfl (by decide) (by decide) (by decide)
    refine lv_goto (tgt := 15) hx hb dX6_pushNewPart_8 (by decide) ?_
    exact J2 (j_rf Y o 0) k4 s.heap [] ls hE jw (lv_sub hl [0, 1, 2, 3] rfl)
def lp_X6_attemptHunk_1 (Y : JY) (p3 : Int32) (M : JM) (o : Nat) (p2 : Int32) (vv9 : Int32) (q1 : Nat) (oo5 : Nat) (n : Nat) (vv11 : Int32) : Option ((Unit) ⊕ (Int32 × Int32 × Int32 × Int32)) := match n with
  | 0 => none
  | n + 1 => if p3 < vv11 then (some (Sum.inl ())) else (lt_ (s_X6_partBegin Y M o p2 vv9 vv11) fun vv13 => lt_ (s_X6_partEnd Y M o p2 vv9 vv11) fun vv14 => (s_X6_findFit Y M o q1 oo5 vv13 vv14).bind fun xx15 => if xx15 = (-1 : Int32) then (lt_ (vv11 + (1 : Int32)) fun vv17 => lp_X6_attemptHunk_1 Y p3 M o p2 vv9 q1 oo5 n vv17) else (some (Sum.inr (vv11, vv13, vv14, xx15))))
def s_X6_attemptHunk (Y : JY) (M : JM) (o : Nat) (q1 : Nat) (p2 : Int32) (p3 : Int32) (p4 : Int32) : Option (JM) := lt_ (if p4 = 0 then ((j_rf Y o 0)) else ((j_rf Y o 1))) fun xx33 => lt_ (if p4 = 0 then ((0 : Int32)) else ((2 : Int32))) fun xx32 => (lp_X6_attemptHunk_1 Y p3 M o p2 xx32 q1 xx33 j_fuel (0 : Int32)).bind fun xx31 => match xx31 with | Sum.inl xx31a => ((s_X8_addPair Y M (j_rf Y o 3) (-1 : Int32) (-1 : Int32)).bind fun xx23 => some xx23) | Sum.inr xx31a => ((s_X4_pushPart Y M (j_rf Y o 5) q1 (M o 7) xx31a.2.2.2).bind fun xx25 => (s_X6_pushNewPart Y xx25 o p2 xx31a.1 p4).bind fun xx26 => lt_ (j_up xx26 o 6 (xx31a.2.2.2 - xx31a.2.1)) fun mm27 => lt_ (j_up mm27 o 7 ((xx31a.2.2.2 + xx31a.2.2.1) - xx31a.2.1)) fun mm28 => (s_X8_addPair Y mm28 (j_rf Y o 3) xx31a.2.2.2 xx31a.1).bind fun xx30 => some xx30)
set_option maxRecDepth 100000 in
set_option maxHeartbeats 4000000 in
theorem c_X6_attemptHunk {D : va_G} {Y : JY} {ty : Nat → ClassId} {ad : Nat → Nat} {sz : Nat} {l : Launch} {M : JM} (hY : j_ok Y) {o : Nat} {q1 : Nat} {p2 : Int32} {p3 : Int32} {p4 : Int32} (ho : j_kd Y o = 6) (hq1 : j_kd Y q1 = 4) {r : JM} (hE : s_X6_attemptHunk Y M o q1 p2 p3 p4 = some r) : JMv D Y ty ad sz l yX6_attemptHunk cX6_attemptHunk 11 4 99 [.ref (ad o), .ref (ad q1), .int p2, .int p3, .int p4] M r := by
  refine j_ofV hY (by decide +kernel) (Nat.le_of_ble_eq_true rfl) (fun p e s m below meth c args R Q A hRf hRl hA jc jw kr ls hl => ?_)
  have hx := jc.1
  have hb := jc.2.1
  have hl : lv_has ls 11 [(0, .ref (ad o)), (1, .ref (ad q1)), (2, .int p2), (3, .int p3), (4, .int p4)] := hl
  unfold s_X6_attemptHunk at hE
  obtain ⟨G0, eG0, hG0, hE⟩ := j_F0o hE
  refine lv_iload hx hb dX6_attemptHunk_0 (lv_at hl 4 rfl) ?_
  obtain ⟨G2, eG2, hE⟩ := j_ctxL hE
  have J2 : ∀ (oo5 : Nat) (k6 : j_kd Y oo5 = 4) (H : Heap) (locs : List Loc) (ls : Array Slot), G2 (oo5) = some r → JW D Y ty ad A s.heap M H locs → lv_has ls 11 [(0, .ref (ad o)), (1, .ref (ad q1)), (2, .int p2), (3, .int p3), (4, .int p4)] → W p l e R s m args below meth c H locs 0 0 Q (F0 m 16 ls [.ref (ad oo5)]) := by
    intro oo5 k6 H locs ls hE jw hl
    replace hE := j_popL eG2 hE
    try dsimp only at hE
    refine lv_astore (lv' := [(5, .ref (ad oo5)), (0, .ref (ad o)), (1, .ref (ad q1)), (2, .int p2), (3, .int p3), (4, .int p4)]) hx hb dX6_attemptHunk_16 hl (by decide) rfl (fun ls hl => ?_)
    refine lv_iload hx hb dX6_attemptHunk_18 (lv_at hl 5 rfl) ?_
    obtain ⟨G8, eG8, hE⟩ := j_ctxL hE
    have J8 : ∀ (vv9 : Int32)  (H : Heap) (locs : List Loc) (ls : Array Slot), G8 (vv9) = some r → JW D Y ty ad A s.heap M H locs → lv_has ls 11 [(5, .ref (ad oo5)), (0, .ref (ad o)), (1, .ref (ad q1)), (2, .int p2), (3, .int p3), (4, .int p4)] → W p l e R s m args below meth c H locs 0 0 Q (F0 m 28 ls [.int vv9]) := by
      intro vv9  H locs ls hE jw hl
      replace hE := j_popL eG8 hE
      try dsimp only at hE
      refine lv_istore (lv' := [(6, .int vv9), (5, .ref (ad oo5)), (0, .ref (ad o)), (1, .ref (ad q1)), (2, .int p2), (3, .int p3), (4, .int p4)]) hx hb dX6_attemptHunk_28 hl (by decide) rfl (fun ls hl => ?_)
      refine lv_iconst (v := 0) hx hb dX6_attemptHunk_30 (by decide) ?_
      refine lv_istore (lv' := [(7, .int (0 : Int32)), (6, .int vv9), (5, .ref (ad oo5)), (0, .ref (ad o)), (1, .ref (ad q1)), (2, .int p2), (3, .int p3), (4, .int p4)]) hx hb dX6_attemptHunk_31 hl (by decide) rfl (fun ls hl => ?_)
      obtain ⟨G10, eG10, hG10, hE⟩ := j_ctxB hG0 hE
      have E10_142 : ∀   (H : Heap) (locs : List Loc) (ls : Array Slot), G10 (some (Sum.inl ())) = some r → JW D Y ty ad A s.heap M H locs → lv_has ls 11 [(0, .ref (ad o))] → W p l e R s m args below meth c H locs 0 0 Q (F0 m 142 ls []) := by
        intro   H locs ls hE jw hl
        replace hE := j_popB eG10 hE
        try dsimp only at hE
        refine lv_aload_n hx hb dX6_attemptHunk_142 rfl (lv_at hl 0 rfl) ?_
        refine jg_6_3 jc jw ho wd_4_140 dX6_attemptHunk_143 ?_
        have k22 := j_sub hY ho 3 (f := 8) rfl (by decide) (by decide) (by decide)
        refine lv_iconst (v := -1) hx hb dX6_attemptHunk_146 (by decide) ?_
        refine lv_iconst (v := -1) hx hb dX6_attemptHunk_147 (by decide) ?_
        obtain ⟨xx23, exx23, hE⟩ := j_bd hG0 hE
        try dsimp only at hE
        refine jc_vv [.int (-1 : Int32), .int (-1 : Int32)] [] jc jw hA k22 (by decide) rfl (c_X8_addPair hY k22 (M := M) exx23) sd_X6_129 rfl hl.1 (j_hR hRf hRl rfl rfl) (Nat.le_of_ble_eq_true rfl) dX6_attemptHunk_148 (fun H locs jw => ?_)
        exact kr _ _ _ _ _ (Option.some.inj (j_ret eG0 hE)) jw dX6_attemptHunk_151
      have E10_80 : ∀ (vv18 : Int32) (vv19 : Int32) (vv20 : Int32) (vv21 : Int32)  (H : Heap) (locs : List Loc) (ls : Array Slot), G10 (some (Sum.inr (vv18, vv19, vv20, vv21))) = some r → JW D Y ty ad A s.heap M H locs → lv_has ls 11 [(7, .int vv18), (0, .ref (ad o)), (1, .ref (ad q1)), (2, .int p2), (4, .int p4), (8, .int vv19), (9, .int vv20), (10, .int vv21)] → W p l e R s m args below meth c H locs 0 0 Q (F0 m 80 ls []) := by
        intro vv18 vv19 vv20 vv21  H locs ls hE jw hl
        replace hE := j_popB eG10 hE
        try dsimp only at hE
        refine lv_aload_n hx hb dX6_attemptHunk_80 rfl (lv_at hl 1 rfl) ?_
        refine jg_6_5 jc jw ho wd_4_142 dX6_attemptHunk_81 ?_
        have k24 := j_sub hY ho 5 (f := 4) rfl (by decide) (by decide) (by decide)
        refine lv_aload_n hx hb dX6_attemptHunk_84 rfl (lv_at hl 2 rfl) ?_
        refine lv_aload_n hx hb dX6_attemptHunk_85 rfl (lv_at hl 1 rfl) ?_
        refine jg_6_7 jc jw ho wd_4_144 dX6_attemptHunk_86 ?_
        refine lv_iload hx hb dX6_attemptHunk_89 (lv_at hl 7 rfl) ?_
        obtain ⟨xx25, exx25, hE⟩ := j_bd hG0 hE
        try dsimp only at hE
        refine jc_vv [.ref (ad q1), .int (M o 7), .int vv21] [] jc jw hA k24 (by decide) rfl (c_X4_pushPart hY k24 hq1 (M := M) exx25) sd_X6_110 rfl hl.1 (j_hR hRf hRl rfl rfl) (Nat.le_of_ble_eq_true rfl) dX6_attemptHunk_91 (fun H locs jw => ?_)
        refine lv_aload_n hx hb dX6_attemptHunk_94 rfl (lv_at hl 1 rfl) ?_
        refine lv_iload_n hx hb dX6_attemptHunk_95 rfl (lv_at hl 3 rfl) ?_
        refine lv_iload hx hb dX6_attemptHunk_96 (lv_at hl 0 rfl) ?_
        refine lv_iload hx hb dX6_attemptHunk_98 (lv_at hl 4 rfl) ?_
        obtain ⟨xx26, exx26, hE⟩ := j_bd hG0 hE
        try dsimp only at hE
        refine jc_vv [.int p2, .int vv18, .int p4] [] jc jw hA ho (by decide) rfl (c_X6_pushNewPart hY ho (M := xx25) exx26) sd_X6_125 rfl hl.1 (j_hR hRf hRl rfl rfl) (Nat.le_of_ble_eq_true rfl) dX6_attemptHunk_100 (fun H locs jw => ?_)
        refine lv_aload_n hx hb dX6_attemptHunk_103 rfl (lv_at hl 1 rfl) ?_
        refine lv_iload hx hb dX6_attemptHunk_104 (lv_at hl 7 rfl) ?_
        refine lv_iload hx hb dX6_attemptHunk_106 (lv_at hl 5 rfl) ?_
        refine lv_isub hx hb dX6_attemptHunk_108 ?_
        refine js_6_6 jc jw ho wd_4_143 dX6_attemptHunk_109 (fun H locs jw => ?_)
        obtain ⟨mm27, emm27, hE⟩ := j_lv hE
        rw [← emm27] at jw
        try dsimp only at hE
        refine lv_aload_n hx hb dX6_attemptHunk_112 rfl (lv_at hl 1 rfl) ?_
        refine lv_iload hx hb dX6_attemptHunk_113 (lv_at hl 7 rfl) ?_
        refine lv_iload hx hb dX6_attemptHunk_115 (lv_at hl 6 rfl) ?_
        refine lv_iadd hx hb dX6_attemptHunk_117 ?_
        refine lv_iload hx hb dX6_attemptHunk_118 (lv_at hl 5 rfl) ?_
        refine lv_isub hx hb dX6_attemptHunk_120 ?_
        refine js_6_7 jc jw ho wd_4_144 dX6_attemptHunk_121 (fun H locs jw => ?_)
        obtain ⟨mm28, emm28, hE⟩ := j_lv hE
        rw [← emm28] at jw
        try dsimp only at hE
        refine lv_aload_n hx hb dX6_attemptHunk_124 rfl (lv_at hl 1 rfl) ?_
        refine jg_6_3 jc jw ho wd_4_140 dX6_attemptHunk_125 ?_
        have k29 := j_sub hY ho 3 (f := 8) rfl (by decide) (by decide) (by decide)
        refine lv_iload hx hb dX6_attemptHunk_128 (lv_at hl 7 rfl) ?_
        refine lv_iload hx hb dX6_attemptHunk_130 (lv_at hl 0 rfl) ?_
        obtain ⟨xx30, exx30, hE⟩ := j_bd hG0 hE
        try dsimp only at hE
        refine jc_vv [.int vv21, .int vv18] [] jc jw hA k29 (by decide) rfl (c_X8_addPair hY k29 (M := mm28) exx30) sd_X6_129 rfl hl.1 (j_hR hRf hRl rfl rfl) (Nat.le_of_ble_eq_true rfl) dX6_attemptHunk_132 (fun H locs jw => ?_)
        exact kr _ _ _ _ _ (Option.some.inj (j_ret eG0 hE)) jw dX6_attemptHunk_135
      have LP10 : ∀ (n : Nat) (vv11 : Int32) (H : Heap) (locs : List Loc) (ls : Array Slot), G10 (lp_X6_attemptHunk_1 Y p3 M o p2 vv9 q1 oo5 n vv11) = some r → JW D Y ty ad A s.heap M H locs → lv_has ls 11 [(7, .int vv11), (6, .int vv9), (5, .ref (ad oo5)), (0, .ref (ad o)), (1, .ref (ad q1)), (2, .int p2), (3, .int p3), (4, .int p4)] → W p l e R s m args below meth c H locs 0 0 Q (F0 m 33 ls []) := by
        intro n
        induction n with
        | zero => intro vv11 H locs ls hE jw hl; exact absurd hE (hG10 _)
        | succ n ih =>
          intro vv11 H locs ls hE jw hl
          rw [lp_X6_attemptHunk_1] at hE
          refine lv_iload hx hb dX6_attemptHunk_33 (lv_at hl 0 rfl) ?_
          refine lv_iload_n hx hb dX6_attemptHunk_35 rfl (lv_at hl 6 rfl) ?_
          refine lv_icmp_gt (tgt := 142) hx hb dX6_attemptHunk_36 (by decide) (fun c12 => ?_) (fun c12 => ?_)
          · rw [if_pos c12] at hE
            exact E10_142   H locs ls hE jw (lv_sub hl [3] rfl)
          · rw [if_neg c12] at hE
            refine lv_aload_n hx hb dX6_attemptHunk_39 rfl (lv_at hl 3 rfl) ?_
            refine lv_iload_n hx hb dX6_attemptHunk_40 rfl (lv_at hl 5 rfl) ?_
            refine lv_iload hx hb dX6_attemptHunk_41 (lv_at hl 1 rfl) ?_
            refine lv_iload hx hb dX6_attemptHunk_43 (lv_at hl 0 rfl) ?_
            refine jc_vi [.int p2, .int vv9, .int vv11] [] jc jw hA ho (by decide) rfl (c_X6_partBegin hY ho (M := M) rfl) sd_X6_114 rfl hl.1 (j_hR hRf hRl rfl rfl) (Nat.le_of_ble_eq_true rfl) dX6_attemptHunk_45 (fun H locs jw => ?_)
            refine lv_topi (fun vv13 evv13 => ?_)
            replace hE := j_lu hE evv13
            try dsimp only at hE
            refine lv_istore (lv' := [(8, .int vv13), (7, .int vv11), (6, .int vv9), (5, .ref (ad oo5)), (0, .ref (ad o)), (1, .ref (ad q1)), (2, .int p2), (3, .int p3), (4, .int p4)]) hx hb dX6_attemptHunk_48 hl (by decide) rfl (fun ls hl => ?_)
            refine lv_aload_n hx hb dX6_attemptHunk_50 rfl (lv_at hl 4 rfl) ?_
            refine lv_iload_n hx hb dX6_attemptHunk_51 rfl (lv_at hl 6 rfl) ?_
            refine lv_iload hx hb dX6_attemptHunk_52 (lv_at hl 2 rfl) ?_
            refine lv_iload hx hb dX6_attemptHunk_54 (lv_at hl 1 rfl) ?_
            refine jc_vi [.int p2, .int vv9, .int vv11] [] jc jw hA ho (by decide) rfl (c_X6_partEnd hY ho (M := M) rfl) sd_X6_118 rfl hl.1 (j_hR hRf hRl rfl rfl) (Nat.le_of_ble_eq_true rfl) dX6_attemptHunk_56 (fun H locs jw => ?_)
            refine lv_topi (fun vv14 evv14 => ?_)
            replace hE := j_lu hE evv14
            try dsimp only at hE
            refine lv_istore (lv' := [(9, .int vv14), (8, .int vv13), (7, .int vv11), (6, .int vv9), (5, .ref (ad oo5)), (0, .ref (ad o)), (1, .ref (ad q1)), (2, .int p2), (3, .int p3), (4, .int p4)]) hx hb dX6_attemptHunk_59 hl (by decide) rfl (fun ls hl => ?_)
            refine lv_aload_n hx hb dX6_attemptHunk_61 rfl (lv_at hl 5 rfl) ?_
            refine lv_aload_n hx hb dX6_attemptHunk_62 rfl (lv_at hl 6 rfl) ?_
            refine lv_aload hx hb dX6_attemptHunk_63 (lv_at hl 4 rfl) ?_
            refine lv_iload hx hb dX6_attemptHunk_65 (lv_at hl 1 rfl) ?_
            refine lv_iload hx hb dX6_attemptHunk_67 (lv_at hl 0 rfl) ?_
            obtain ⟨xx15, exx15, hE⟩ := j_bd hG10 hE
            try dsimp only at hE
            refine jc_vi [.ref (ad q1), .ref (ad oo5), .int vv13, .int vv14] [] jc jw hA ho (by decide) rfl (c_X6_findFit hY ho hq1 k6 (M := M) exx15) sd_X6_121 rfl hl.1 (j_hR hRf hRl rfl rfl) (Nat.le_of_ble_eq_true rfl) dX6_attemptHunk_69 (fun H locs jw => ?_)
            refine lv_istore (lv' := [(10, .int xx15), (9, .int vv14), (8, .int vv13), (7, .int vv11), (6, .int vv9), (5, .ref (ad oo5)), (0, .ref (ad o)), (1, .ref (ad q1)), (2, .int p2), (3, .int p3), (4, .int p4)]) hx hb dX6_attemptHunk_72 hl (by decide) rfl (fun ls hl => ?_)
            refine lv_iload hx hb dX6_attemptHunk_74 (lv_at hl 0 rfl) ?_
            refine lv_iconst (v := -1) hx hb dX6_attemptHunk_76 (by decide) ?_
            refine lv_icmp_eq (tgt := 136) hx hb dX6_attemptHunk_77 (by decide) (fun c16 => ?_) (fun c16 => ?_)
            · rw [if_pos c16] at hE
              obtain ⟨vv17, evv17, hE⟩ := j_lv hE
              try dsimp only at hE
              refine lv_iinc (v := vv17) (lv' := [(7, .int vv17), (10, .int xx15), (9, .int vv14), (8, .int vv13), (6, .int vv9), (5, .ref (ad oo5)), (0, .ref (ad o)), (1, .ref (ad q1)), (2, .int p2), (3, .int p3), (4, .int p4)]) hx hb dX6_attemptHunk_136 hl (k := 3) rfl (by rw [evv17]; rfl) (by decide) rfl (fun ls hl => ?_)
              refine lv_goto (tgt := 33) hx hb dX6_attemptHunk_139 (by decide) ?_
              exact ih vv17 H locs ls hE jw (lv_sub hl [0, 4, 5, 6, 7, 8, 9, 10] rfl)
            · rw [if_neg c16] at hE
              exact E10_80 vv11 vv13 vv14 xx15  H locs ls hE jw (lv_sub hl [3, 6, 7, 8, 10, 2, 1, 0] rfl)
      exact LP10 j_fuel (0 : Int32) H locs ls hE jw (lv_sub hl [0, 1, 2, 3, 4, 5, 6, 7] rfl)
    refine lv_if_eq (tgt := 27) hx hb dX6_attemptHunk_20 (by decide) (fun c7 => ?_) (fun c7 => ?_)
    · rw [if_pos c7] at hE
      refine lv_iconst (v := 0) hx hb dX6_attemptHunk_27 (by decide) ?_
      exact J8 (0 : Int32)  H locs ls hE jw (lv_sub hl [0, 1, 2, 3, 4, 5] rfl)
    · rw [if_neg c7] at hE
      refine lv_iconst (v := 2) hx hb dX6_attemptHunk_23 (by decide) ?_
      refine lv_goto (tgt := 28) hx hb dX6_attemptHunk_24 (by decide) ?_
      exact J8 (2 : Int32)  H locs ls hE jw (lv_sub hl [0, 1, 2, 3, 4, 5] rfl)
  refine lv_if_eq (tgt := 12) hx hb dX6_attemptHunk_2 (by decide) (fun c1 => ?_) (fun c1 => ?_)
  · rw [if_pos c1] at hE
    refine lv_aload_n hx hb dX6_attemptHunk_12 rfl (lv_at hl 0 rfl) ?_
    refine jg_6_0 jc jw ho wd_4_137 dX6_attemptHunk_13 ?_
    have k3 := j_sub hY ho 0 (f := 4) rfl (by decide) (by decide) (by decide)
    exact J2 (j_rf Y o 0) k3 s.heap [] ls hE jw (lv_sub hl [0, 1, 2, 3, 4] rfl)
  · rw [if_neg c1] at hE
    refine lv_aload_n hx hb dX6_attemptHunk_5 rfl (lv_at hl 0 rfl) ?_
    refine jg_6_1 jc jw ho wd_4_138 dX6_attemptHunk_6 ?_
    have k4 := j_sub hY ho 1 (f := 4) rfl (by decide) (by decide) (by decide)
    refine lv_goto (tgt := 16) hx hb dX6_attemptHunk_9 (by decide) ?_
    exact J2 (j_rf Y o 1) k4 s.heap [] ls hE jw (lv_sub hl [0, 1, 2, 3, 4] rfl)
def lp_X6_attempt_1 (Y : JY) (o : Nat) (q1 : Nat) (p2 : Int32) (p3 : Int32) (n : Nat) (vv8 : Int32) (mm9 : JM) : Option (JM) := match n with
  | 0 => none
  | n + 1 => if (s_X8_rows Y mm9 (j_rf Y o 2)) ≤ vv8 then (some mm9) else ((s_X6_attemptHunk Y mm9 o q1 vv8 p2 p3).bind fun xx12 => lt_ (vv8 + (1 : Int32)) fun vv13 => lp_X6_attempt_1 Y o q1 p2 p3 n vv13 xx12)
def s_X6_attempt (Y : JY) (M : JM) (o : Nat) (q1 : Nat) (p2 : Int32) (p3 : Int32) : Option (Nat × JM) := lt_ (j_up M o 6 (0 : Int32)) fun mm1 => lt_ (j_up mm1 o 7 (0 : Int32)) fun mm2 => lt_ (s_X8_clear Y mm2 (j_rf Y o 3)) fun xx4 => lt_ (s_X4_clear Y xx4 (j_rf Y o 5)) fun xx6 => (lp_X6_attempt_1 Y o q1 p2 p3 j_fuel (0 : Int32) xx6).bind fun xx16 => (s_X4_pushPart Y xx16 (j_rf Y o 5) q1 (xx16 o 7) (s_X4_size Y xx16 q1)).bind fun xx15 => some ((j_rf Y o 5), xx15)
set_option maxRecDepth 100000 in
set_option maxHeartbeats 4000000 in
theorem c_X6_attempt {D : va_G} {Y : JY} {ty : Nat → ClassId} {ad : Nat → Nat} {sz : Nat} {l : Launch} {M : JM} (hY : j_ok Y) {o : Nat} {q1 : Nat} {p2 : Int32} {p3 : Int32} (ho : j_kd Y o = 6) (hq1 : j_kd Y q1 = 4) {r : Nat × JM} (hE : s_X6_attempt Y M o q1 p2 p3 = some r) : JMr D Y ty ad sz l yX6_attempt cX6_attempt 5 (some (.object "MergeWorkbench$Lines")) 5 129 [.ref (ad o), .ref (ad q1), .int p2, .int p3] M r.1 r.2 4 := by
  refine j_ofR hY (by decide +kernel) (Nat.le_of_ble_eq_true rfl) (fun p e s m below meth c args R Q A hRf hRl hA jc jw kr ls hl => ?_)
  have hx := jc.1
  have hb := jc.2.1
  have hl : lv_has ls 5 [(0, .ref (ad o)), (1, .ref (ad q1)), (2, .int p2), (3, .int p3)] := hl
  unfold s_X6_attempt at hE
  obtain ⟨G0, eG0, hG0, hE⟩ := j_F0o hE
  refine lv_aload_n hx hb dX6_attempt_0 rfl (lv_at hl 0 rfl) ?_
  refine lv_iconst (v := 0) hx hb dX6_attempt_1 (by decide) ?_
  refine js_6_6 jc jw ho wd_4_143 dX6_attempt_2 (fun H locs jw => ?_)
  obtain ⟨mm1, emm1, hE⟩ := j_lv hE
  rw [← emm1] at jw
  try dsimp only at hE
  refine lv_aload_n hx hb dX6_attempt_5 rfl (lv_at hl 0 rfl) ?_
  refine lv_iconst (v := 0) hx hb dX6_attempt_6 (by decide) ?_
  refine js_6_7 jc jw ho wd_4_144 dX6_attempt_7 (fun H locs jw => ?_)
  obtain ⟨mm2, emm2, hE⟩ := j_lv hE
  rw [← emm2] at jw
  try dsimp only at hE
  refine lv_aload_n hx hb dX6_attempt_10 rfl (lv_at hl 0 rfl) ?_
  refine jg_6_3 jc jw ho wd_4_140 dX6_attempt_11 ?_
  have k3 := j_sub hY ho 3 (f := 8) rfl (by decide) (by decide) (by decide)
  obtain ⟨xx4, exx4, hE⟩ := j_lv hE
  try dsimp only at hE
  refine jc_vv [] [] jc jw hA k3 (by decide) rfl (c_X8_clear hY k3 (M := mm2) exx4.symm) sd_X6_56 rfl hl.1 (j_hR hRf hRl rfl rfl) (Nat.le_of_ble_eq_true rfl) dX6_attempt_14 (fun H locs jw => ?_)
  refine lv_aload_n hx hb dX6_attempt_17 rfl (lv_at hl 0 rfl) ?_
  refine jg_6_5 jc jw ho wd_4_142 dX6_attempt_18 ?_
  have k5 := j_sub hY ho 5 (f := 4) rfl (by decide) (by decide) (by decide)
  obtain ⟨xx6, exx6, hE⟩ := j_lv hE
  try dsimp only at hE
  refine jc_vv [] [] jc jw hA k5 (by decide) rfl (c_X4_clear hY k5 (M := xx4) exx6.symm) sd_X6_105 rfl hl.1 (j_hR hRf hRl rfl rfl) (Nat.le_of_ble_eq_true rfl) dX6_attempt_21 (fun H locs jw => ?_)
  refine lv_iconst (v := 0) hx hb dX6_attempt_24 (by decide) ?_
  refine lv_istore (lv' := [(4, .int (0 : Int32)), (0, .ref (ad o)), (1, .ref (ad q1)), (2, .int p2), (3, .int p3)]) hx hb dX6_attempt_25 hl (by decide) rfl (fun ls hl => ?_)
  obtain ⟨G7, eG7, hG7, hE⟩ := j_ctxB hG0 hE
  have E7_54 : ∀ (mm14 : JM)  (H : Heap) (locs : List Loc) (ls : Array Slot), G7 (some mm14) = some r → JW D Y ty ad A s.heap mm14 H locs → lv_has ls 5 [(0, .ref (ad o)), (1, .ref (ad q1))] → W p l e R s m args below meth c H locs 0 0 Q (F0 m 54 ls []) := by
    intro mm14  H locs ls hE jw hl
    replace hE := j_popB eG7 hE
    try dsimp only at hE
    refine lv_aload_n hx hb dX6_attempt_54 rfl (lv_at hl 0 rfl) ?_
    refine jg_6_5 jc jw ho wd_4_142 dX6_attempt_55 ?_
    refine lv_aload_n hx hb dX6_attempt_58 rfl (lv_at hl 1 rfl) ?_
    refine lv_aload_n hx hb dX6_attempt_59 rfl (lv_at hl 0 rfl) ?_
    refine jg_6_7 jc jw ho wd_4_144 dX6_attempt_60 ?_
    refine lv_aload_n hx hb dX6_attempt_63 rfl (lv_at hl 1 rfl) ?_
    refine jc_vi [] [.int (mm14 o 7), .ref (ad q1), .ref (ad (j_rf Y o 5))] jc jw hA hq1 (by decide) rfl (c_X4_size hY hq1 (M := mm14) rfl) sd_X6_88 rfl hl.1 (j_hR hRf hRl rfl rfl) (Nat.le_of_ble_eq_true rfl) dX6_attempt_64 (fun H locs jw => ?_)
    obtain ⟨xx15, exx15, hE⟩ := j_bd hG0 hE
    try dsimp only at hE
    refine jc_vv [.ref (ad q1), .int (mm14 o 7), .int (s_X4_size Y mm14 q1)] [] jc jw hA k5 (by decide) rfl (c_X4_pushPart hY k5 hq1 (M := mm14) exx15) sd_X6_110 rfl hl.1 (j_hR hRf hRl rfl rfl) (Nat.le_of_ble_eq_true rfl) dX6_attempt_67 (fun H locs jw => ?_)
    refine lv_aload_n hx hb dX6_attempt_70 rfl (lv_at hl 0 rfl) ?_
    refine jg_6_5 jc jw ho wd_4_142 dX6_attempt_71 ?_
    exact kr _ _ _ _ _ _ (j_fst (Option.some.inj (j_ret eG0 hE))) (j_snd (Option.some.inj (j_ret eG0 hE))) k5 jw dX6_attempt_74
  have LP7 : ∀ (n : Nat) (vv8 : Int32) (mm9 : JM) (H : Heap) (locs : List Loc) (ls : Array Slot), G7 (lp_X6_attempt_1 Y o q1 p2 p3 n vv8 mm9) = some r → JW D Y ty ad A s.heap mm9 H locs → lv_has ls 5 [(4, .int vv8), (0, .ref (ad o)), (1, .ref (ad q1)), (2, .int p2), (3, .int p3)] → W p l e R s m args below meth c H locs 0 0 Q (F0 m 27 ls []) := by
    intro n
    induction n with
    | zero => intro vv8 mm9 H locs ls hE jw hl; exact absurd hE (hG7 _)
    | succ n ih =>
      intro vv8 mm9 H locs ls hE jw hl
      rw [lp_X6_attempt_1] at hE
      refine lv_iload hx hb dX6_attempt_27 (lv_at hl 0 rfl) ?_
      refine lv_aload_n hx hb dX6_attempt_29 rfl (lv_at hl 1 rfl) ?_
      refine jg_6_2 jc jw ho wd_4_139 dX6_attempt_30 ?_
      have k10 := j_sub hY ho 2 (f := 8) rfl (by decide) (by decide) (by decide)
      refine jc_vi [] [.int vv8] jc jw hA k10 (by decide) rfl (c_X8_rows hY k10 (M := mm9) rfl) sd_X6_63 rfl hl.1 (j_hR hRf hRl rfl rfl) (Nat.le_of_ble_eq_true rfl) dX6_attempt_33 (fun H locs jw => ?_)
      refine lv_icmp_ge (tgt := 54) hx hb dX6_attempt_36 (by decide) (fun c11 => ?_) (fun c11 => ?_)
      · rw [if_pos c11] at hE
        exact E7_54 mm9  H locs ls hE jw (lv_sub hl [1, 2] rfl)
      · rw [if_neg c11] at hE
        refine lv_aload_n hx hb dX6_attempt_39 rfl (lv_at hl 1 rfl) ?_
        refine lv_aload_n hx hb dX6_attempt_40 rfl (lv_at hl 2 rfl) ?_
        refine lv_iload hx hb dX6_attempt_41 (lv_at hl 0 rfl) ?_
        refine lv_iload_n hx hb dX6_attempt_43 rfl (lv_at hl 3 rfl) ?_
        refine lv_iload_n hx hb dX6_attempt_44 rfl (lv_at hl 4 rfl) ?_
        obtain ⟨xx12, exx12, hE⟩ := j_bd hG7 hE
        try dsimp only at hE
        refine jc_vv [.ref (ad q1), .int vv8, .int p2, .int p3] [] jc jw hA ho (by decide) rfl (c_X6_attemptHunk hY ho hq1 (M := mm9) exx12) sd_X6_106 rfl hl.1 (j_hR hRf hRl rfl rfl) (Nat.le_of_ble_eq_true rfl) dX6_attempt_45 (fun H locs jw => ?_)
        obtain ⟨vv13, evv13, hE⟩ := j_lv hE
        try dsimp only at hE
        refine lv_iinc (v := vv13) (lv' := [(4, .int vv13), (0, .ref (ad o)), (1, .ref (ad q1)), (2, .int p2), (3, .int p3)]) hx hb dX6_attempt_48 hl (k := 0) rfl (by rw [evv13]; rfl) (by decide) rfl (fun ls hl => ?_)
        refine lv_goto (tgt := 27) hx hb dX6_attempt_51 (by decide) ?_
        exact ih vv13 xx12 H locs ls hE jw (lv_sub hl [0, 1, 2, 3, 4] rfl)
  exact LP7 j_fuel (0 : Int32) xx6 H locs ls hE jw (lv_sub hl [0, 1, 2, 3, 4] rfl)
def lp_X6_keepOutcomes_1 (Y : JY) (o : Nat) (n : Nat) (vv4 : Int32) (vv5 : Int32) (mm6 : JM) : Option (Int32 × JM) := match n with
  | 0 => none
  | n + 1 => if (s_X8_rows Y mm6 (j_rf Y o 3)) ≤ vv5 then (some (vv4, mm6)) else ((s_X8_addPair Y mm6 (j_rf Y o 4) (s_X8_at Y mm6 (j_rf Y o 3) vv5 (0 : Int32)) (s_X8_at Y mm6 (j_rf Y o 3) vv5 (1 : Int32))).bind fun xx9 => lt_ (if (s_X8_at Y xx9 (j_rf Y o 3) vv5 (0 : Int32)) = (-1 : Int32) then (vv4) else (lt_ (vv4 + (1 : Int32)) fun vv12 => vv12)) fun xx15 => lt_ (vv5 + (1 : Int32)) fun vv14 => lp_X6_keepOutcomes_1 Y o n xx15 vv14 xx9)
def s_X6_keepOutcomes (Y : JY) (M : JM) (o : Nat) : Option (Int32 × JM) := lt_ (s_X8_clear Y M (j_rf Y o 4)) fun xx2 => (lp_X6_keepOutcomes_1 Y o j_fuel (0 : Int32) (0 : Int32) xx2).bind fun xx16 => some (xx16.1, xx16.2)
set_option maxRecDepth 100000 in
set_option maxHeartbeats 4000000 in
theorem c_X6_keepOutcomes {D : va_G} {Y : JY} {ty : Nat → ClassId} {ad : Nat → Nat} {sz : Nat} {l : Launch} {M : JM} (hY : j_ok Y) {o : Nat} (ho : j_kd Y o = 6) {r : Int32 × JM} (hE : s_X6_keepOutcomes Y M o = some r) : JMi D Y ty ad sz l yX6_keepOutcomes cX6_keepOutcomes 3 (some .int) 3 70 [.ref (ad o)] M r.1 r.2 := by
  refine j_ofI hY (by decide +kernel) (Nat.le_of_ble_eq_true rfl) (fun p e s m below meth c args R Q A hRf hRl hA jc jw kr ls hl => ?_)
  have hx := jc.1
  have hb := jc.2.1
  have hl : lv_has ls 3 [(0, .ref (ad o))] := hl
  unfold s_X6_keepOutcomes at hE
  obtain ⟨G0, eG0, hG0, hE⟩ := j_F0o hE
  refine lv_aload_n hx hb dX6_keepOutcomes_0 rfl (lv_at hl 0 rfl) ?_
  refine jg_6_4 jc jw ho wd_4_141 dX6_keepOutcomes_1 ?_
  have k1 := j_sub hY ho 4 (f := 8) rfl (by decide) (by decide) (by decide)
  obtain ⟨xx2, exx2, hE⟩ := j_lv hE
  try dsimp only at hE
  refine jc_vv [] [] jc jw hA k1 (by decide) rfl (c_X8_clear hY k1 (M := M) exx2.symm) sd_X6_56 rfl hl.1 (j_hR hRf hRl rfl rfl) (Nat.le_of_ble_eq_true rfl) dX6_keepOutcomes_4 (fun H locs jw => ?_)
  refine lv_iconst (v := 0) hx hb dX6_keepOutcomes_7 (by decide) ?_
  refine lv_istore_n (lv' := [(1, .int (0 : Int32)), (0, .ref (ad o))]) hx hb dX6_keepOutcomes_8 rfl hl (by decide) rfl (fun ls hl => ?_)
  refine lv_iconst (v := 0) hx hb dX6_keepOutcomes_9 (by decide) ?_
  refine lv_istore_n (lv' := [(2, .int (0 : Int32)), (1, .int (0 : Int32)), (0, .ref (ad o))]) hx hb dX6_keepOutcomes_10 rfl hl (by decide) rfl (fun ls hl => ?_)
  obtain ⟨G3, eG3, hG3, hE⟩ := j_ctxB hG0 hE
  have LP3 : ∀ (n : Nat) (vv4 : Int32) (vv5 : Int32) (mm6 : JM) (H : Heap) (locs : List Loc) (ls : Array Slot), G3 (lp_X6_keepOutcomes_1 Y o n vv4 vv5 mm6) = some r → JW D Y ty ad A s.heap mm6 H locs → lv_has ls 3 [(2, .int vv5), (1, .int vv4), (0, .ref (ad o))] → W p l e R s m args below meth c H locs 0 0 Q (F0 m 11 ls []) := by
    intro n
    induction n with
    | zero => intro vv4 vv5 mm6 H locs ls hE jw hl; exact absurd hE (hG3 _)
    | succ n ih =>
      intro vv4 vv5 mm6 H locs ls hE jw hl
      rw [lp_X6_keepOutcomes_1] at hE
      refine lv_iload_n hx hb dX6_keepOutcomes_11 rfl (lv_at hl 0 rfl) ?_
      refine lv_aload_n hx hb dX6_keepOutcomes_12 rfl (lv_at hl 2 rfl) ?_
      refine jg_6_3 jc jw ho wd_4_140 dX6_keepOutcomes_13 ?_
      have k7 := j_sub hY ho 3 (f := 8) rfl (by decide) (by decide) (by decide)
      refine jc_vi [] [.int vv5] jc jw hA k7 (by decide) rfl (c_X8_rows hY k7 (M := mm6) rfl) sd_X6_63 rfl hl.1 (j_hR hRf hRl rfl rfl) (Nat.le_of_ble_eq_true rfl) dX6_keepOutcomes_16 (fun H locs jw => ?_)
      refine lv_icmp_ge (tgt := 69) hx hb dX6_keepOutcomes_19 (by decide) (fun c8 => ?_) (fun c8 => ?_)
      · rw [if_pos c8] at hE
        refine lv_iload_n hx hb dX6_keepOutcomes_69 rfl (lv_at hl 1 rfl) ?_
        replace hE := j_popB eG3 hE
        try dsimp only at hE
        exact kr _ _ _ _ _ _ (j_fst (Option.some.inj (j_ret eG0 hE))) (j_snd (Option.some.inj (j_ret eG0 hE))) jw dX6_keepOutcomes_70
      · rw [if_neg c8] at hE
        refine lv_aload_n hx hb dX6_keepOutcomes_22 rfl (lv_at hl 2 rfl) ?_
        refine jg_6_4 jc jw ho wd_4_141 dX6_keepOutcomes_23 ?_
        refine lv_aload_n hx hb dX6_keepOutcomes_26 rfl (lv_at hl 2 rfl) ?_
        refine jg_6_3 jc jw ho wd_4_140 dX6_keepOutcomes_27 ?_
        refine lv_iload_n hx hb dX6_keepOutcomes_30 rfl (lv_at hl 0 rfl) ?_
        refine lv_iconst (v := 0) hx hb dX6_keepOutcomes_31 (by decide) ?_
        refine jc_vi [.int vv5, .int (0 : Int32)] [.ref (ad (j_rf Y o 4))] jc jw hA k7 (by decide) rfl (c_X8_at hY k7 (M := mm6) rfl) sd_X6_79 rfl hl.1 (j_hR hRf hRl rfl rfl) (Nat.le_of_ble_eq_true rfl) dX6_keepOutcomes_32 (fun H locs jw => ?_)
        refine lv_aload_n hx hb dX6_keepOutcomes_35 rfl (lv_at hl 2 rfl) ?_
        refine jg_6_3 jc jw ho wd_4_140 dX6_keepOutcomes_36 ?_
        refine lv_iload_n hx hb dX6_keepOutcomes_39 rfl (lv_at hl 0 rfl) ?_
        refine lv_iconst (v := 1) hx hb dX6_keepOutcomes_40 (by decide) ?_
        refine jc_vi [.int vv5, .int (1 : Int32)] [.int (s_X8_at Y mm6 (j_rf Y o 3) vv5 (0 : Int32)), .ref (ad (j_rf Y o 4))] jc jw hA k7 (by decide) rfl (c_X8_at hY k7 (M := mm6) rfl) sd_X6_79 rfl hl.1 (j_hR hRf hRl rfl rfl) (Nat.le_of_ble_eq_true rfl) dX6_keepOutcomes_41 (fun H locs jw => ?_)
        obtain ⟨xx9, exx9, hE⟩ := j_bd hG3 hE
        try dsimp only at hE
        refine jc_vv [.int (s_X8_at Y mm6 (j_rf Y o 3) vv5 (0 : Int32)), .int (s_X8_at Y mm6 (j_rf Y o 3) vv5 (1 : Int32))] [] jc jw hA k1 (by decide) rfl (c_X8_addPair hY k1 (M := mm6) exx9) sd_X6_129 rfl hl.1 (j_hR hRf hRl rfl rfl) (Nat.le_of_ble_eq_true rfl) dX6_keepOutcomes_44 (fun H locs jw => ?_)
        refine lv_aload_n hx hb dX6_keepOutcomes_47 rfl (lv_at hl 2 rfl) ?_
        refine jg_6_3 jc jw ho wd_4_140 dX6_keepOutcomes_48 ?_
        refine lv_iload_n hx hb dX6_keepOutcomes_51 rfl (lv_at hl 0 rfl) ?_
        refine lv_iconst (v := 0) hx hb dX6_keepOutcomes_52 (by decide) ?_
        refine jc_vi [.int vv5, .int (0 : Int32)] [] jc jw hA k7 (by decide) rfl (c_X8_at hY k7 (M := xx9) rfl) sd_X6_79 rfl hl.1 (j_hR hRf hRl rfl rfl) (Nat.le_of_ble_eq_true rfl) dX6_keepOutcomes_53 (fun H locs jw => ?_)
        refine lv_iconst (v := -1) hx hb dX6_keepOutcomes_56 (by decide) ?_
        obtain ⟨G11, eG11, hE⟩ := j_ctxL hE
        have J11 : ∀ (vv13 : Int32)  (H : Heap) (locs : List Loc) (ls : Array Slot), G11 (vv13) = some r → JW D Y ty ad A s.heap xx9 H locs → lv_has ls 3 [(2, .int vv5), (1, .int vv13), (0, .ref (ad o))] → W p l e R s m args below meth c H locs 0 0 Q (F0 m 63 ls []) := by
          intro vv13  H locs ls hE jw hl
          replace hE := j_popL eG11 hE
          try dsimp only at hE
          obtain ⟨vv14, evv14, hE⟩ := j_lv hE
          try dsimp only at hE
          refine lv_iinc (v := vv14) (lv' := [(2, .int vv14), (1, .int vv13), (0, .ref (ad o))]) hx hb dX6_keepOutcomes_63 hl (k := 0) rfl (by rw [evv14]; rfl) (by decide) rfl (fun ls hl => ?_)
          refine lv_goto (tgt := 11) hx hb dX6_keepOutcomes_66 (by decide) ?_
          exact ih vv13 vv14 xx9 H locs ls hE jw (lv_sub hl [0, 1, 2] rfl)
        refine lv_icmp_eq (tgt := 63) hx hb dX6_keepOutcomes_57 (by decide) (fun c10 => ?_) (fun c10 => ?_)
        · rw [if_pos c10] at hE
          exact J11 vv4  H locs ls hE jw (lv_sub hl [0, 1, 2] rfl)
        · rw [if_neg c10] at hE
          obtain ⟨vv12, evv12, hE⟩ := j_lv hE
          try dsimp only at hE
          refine lv_iinc (v := vv12) (lv' := [(1, .int vv12), (2, .int vv5), (0, .ref (ad o))]) hx hb dX6_keepOutcomes_60 hl (k := 1) rfl (by rw [evv12]; rfl) (by decide) rfl (fun ls hl => ?_)
          exact J11 vv12  H locs ls hE jw (lv_sub hl [1, 0, 2] rfl)
  exact LP3 j_fuel (0 : Int32) (0 : Int32) xx2 H locs ls hE jw (lv_sub hl [0, 1, 2] rfl)

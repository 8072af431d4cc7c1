def s_X5_exists (Y : JY) (M : JM) (o : Nat) : Int32 := (j_z (M o 8))
set_option maxRecDepth 100000 in
set_option maxHeartbeats 4000000 in
theorem c_X5_exists {D : va_G} {Y : JY} {ty : Nat → ClassId} {ad : Nat → Nat} {sz : Nat} {l : Launch} {M : JM} (hY : j_ok Y) {o : Nat} (ho : j_kd Y o = 5) {r : Int32} (hE : s_X5_exists Y M o = r) : JMz D Y ty ad sz l yX5_exists cX5_exists 1 0 0 [.ref (ad o)] M r M := by
  refine j_ofZ hY (by decide +kernel) (Nat.le_of_ble_eq_true rfl) (fun p e s m below meth c args R Q A hRf hRl hA jc jw kr ls hl => ?_)
  have hx := jc.1
  have hb := jc.2.1
  have hl : lv_has ls 1 [(0, .ref (ad o))] := hl
  unfold s_X5_exists at hE
  obtain ⟨G0, eG0, hE⟩ := j_F0 hE
  refine lv_aload_n hx hb dX5_exists_0 rfl (lv_at hl 0 rfl) ?_
  refine jg_5_8 jc jw ho wd_4_108 dX5_exists_1 ?_
  exact kr _ _ _ _ _ _ (j_ret eG0 hE) rfl (j_z01 _) jw dX5_exists_4
def s_X5_outcomeLines (Y : JY) (M : JM) (o : Nat) : Nat := (j_rf Y o 7)
set_option maxRecDepth 100000 in
set_option maxHeartbeats 4000000 in
theorem c_X5_outcomeLines {D : va_G} {Y : JY} {ty : Nat → ClassId} {ad : Nat → Nat} {sz : Nat} {l : Launch} {M : JM} (hY : j_ok Y) {o : Nat} (ho : j_kd Y o = 5) {r : Nat} (hE : s_X5_outcomeLines Y M o = r) : JMr D Y ty ad sz l yX5_outcomeLines cX5_outcomeLines 1 (some (.object "MergeWorkbench$Lines")) 0 0 [.ref (ad o)] M r M 4 := by
  refine j_ofR hY (by decide +kernel) (Nat.le_of_ble_eq_true rfl) (fun p e s m below meth c args R Q A hRf hRl hA jc jw kr ls hl => ?_)
  have hx := jc.1
  have hb := jc.2.1
  have hl : lv_has ls 1 [(0, .ref (ad o))] := hl
  unfold s_X5_outcomeLines at hE
  obtain ⟨G0, eG0, hE⟩ := j_F0 hE
  refine lv_aload_n hx hb dX5_outcomeLines_0 rfl (lv_at hl 0 rfl) ?_
  refine jg_5_7 jc jw ho wd_4_107 dX5_outcomeLines_1 ?_
  have k1 := j_sub hY ho 7 (f := 4) rfl (by decide) (by decide) (by decide)
  exact kr _ _ _ _ _ _ (j_ret eG0 hE) rfl k1 jw dX5_outcomeLines_4
def s_X5_hold (Y : JY) (M : JM) (o : Nat) (q1 : Nat) (q2 : Nat) (q3 : Nat) : Option (JM) := (s_X4_become Y M (j_rf Y o 0) q1).bind fun xx2 => (s_X4_become Y xx2 (j_rf Y o 1) q2).bind fun xx4 => (s_X4_become Y xx4 (j_rf Y o 2) q3).bind fun xx6 => some xx6
set_option maxRecDepth 100000 in
set_option maxHeartbeats 4000000 in
theorem c_X5_hold {D : va_G} {Y : JY} {ty : Nat → ClassId} {ad : Nat → Nat} {sz : Nat} {l : Launch} {M : JM} (hY : j_ok Y) {o : Nat} {q1 : Nat} {q2 : Nat} {q3 : Nat} (ho : j_kd Y o = 5) (hq1 : j_kd Y q1 = 4) (hq2 : j_kd Y q2 = 4) (hq3 : j_kd Y q3 = 4) {r : JM} (hE : s_X5_hold Y M o q1 q2 q3 = some r) : JMv D Y ty ad sz l yX5_hold cX5_hold 4 3 66 [.ref (ad o), .ref (ad q1), .ref (ad q2), .ref (ad q3)] M r := by
  refine j_ofV hY (by decide +kernel) (Nat.le_of_ble_eq_true rfl) (fun p e s m below meth c args R Q A hRf hRl hA jc jw kr ls hl => ?_)
  have hx := jc.1
  have hb := jc.2.1
  have hl : lv_has ls 4 [(0, .ref (ad o)), (1, .ref (ad q1)), (2, .ref (ad q2)), (3, .ref (ad q3))] := hl
  unfold s_X5_hold at hE
  obtain ⟨G0, eG0, hG0, hE⟩ := j_F0o hE
  refine lv_aload_n hx hb dX5_hold_0 rfl (lv_at hl 0 rfl) ?_
  refine jg_5_0 jc jw ho wd_4_100 dX5_hold_1 ?_
  have k1 := j_sub hY ho 0 (f := 4) rfl (by decide) (by decide) (by decide)
  refine lv_aload_n hx hb dX5_hold_4 rfl (lv_at hl 1 rfl) ?_
  obtain ⟨xx2, exx2, hE⟩ := j_bd hG0 hE
  try dsimp only at hE
  refine jc_vv [.ref (ad q1)] [] jc jw hA k1 (by decide) rfl (c_X4_become hY k1 hq1 (M := M) exx2) sd_X5_59 rfl hl.1 (j_hR hRf hRl rfl rfl) (Nat.le_of_ble_eq_true rfl) dX5_hold_5 (fun H locs jw => ?_)
  refine lv_aload_n hx hb dX5_hold_8 rfl (lv_at hl 0 rfl) ?_
  refine jg_5_1 jc jw ho wd_4_101 dX5_hold_9 ?_
  have k3 := j_sub hY ho 1 (f := 4) rfl (by decide) (by decide) (by decide)
  refine lv_aload_n hx hb dX5_hold_12 rfl (lv_at hl 2 rfl) ?_
  obtain ⟨xx4, exx4, hE⟩ := j_bd hG0 hE
  try dsimp only at hE
  refine jc_vv [.ref (ad q2)] [] jc jw hA k3 (by decide) rfl (c_X4_become hY k3 hq2 (M := xx2) exx4) sd_X5_59 rfl hl.1 (j_hR hRf hRl rfl rfl) (Nat.le_of_ble_eq_true rfl) dX5_hold_13 (fun H locs jw => ?_)
  refine lv_aload_n hx hb dX5_hold_16 rfl (lv_at hl 0 rfl) ?_
  refine jg_5_2 jc jw ho wd_4_102 dX5_hold_17 ?_
  have k5 := j_sub hY ho 2 (f := 4) rfl (by decide) (by decide) (by decide)
  refine lv_aload_n hx hb dX5_hold_20 rfl (lv_at hl 3 rfl) ?_
  obtain ⟨xx6, exx6, hE⟩ := j_bd hG0 hE
  try dsimp only at hE
  refine jc_vv [.ref (ad q3)] [] jc jw hA k5 (by decide) rfl (c_X4_become hY k5 hq3 (M := xx4) exx6) sd_X5_59 rfl hl.1 (j_hR hRf hRl rfl rfl) (Nat.le_of_ble_eq_true rfl) dX5_hold_21 (fun H locs jw => ?_)
  exact kr _ _ _ _ _ (Option.some.inj (j_ret eG0 hE)) jw dX5_hold_24
def s_X5_addPart (Y : JY) (M : JM) (o : Nat) (p1 : Int32) (p2 : Int32) (p3 : Int32) (p4 : Int32) (p5 : Int32) (p6 : Int32) : Option (Int32 × JM) := if ¬ (p1 = p2) ∨ ¬ (p3 = p4) ∨ ¬ (p5 = p6) then ((s_X8_addRow Y M (j_rf Y o 5)).bind fun xx5 => lt_ xx5.1 fun vv6 => lt_ (s_X8_put Y xx5.2 (j_rf Y o 5) vv6 (1 : Int32) p1) fun xx7 => lt_ (s_X8_put Y xx7 (j_rf Y o 5) vv6 (2 : Int32) p2) fun xx8 => lt_ (s_X8_put Y xx8 (j_rf Y o 5) vv6 (3 : Int32) p3) fun xx9 => lt_ (s_X8_put Y xx9 (j_rf Y o 5) vv6 (4 : Int32) p4) fun xx10 => lt_ (s_X8_put Y xx10 (j_rf Y o 5) vv6 (5 : Int32) p5) fun xx11 => lt_ (s_X8_put Y xx11 (j_rf Y o 5) vv6 (6 : Int32) p6) fun xx12 => some (vv6, xx12)) else (some ((-1 : Int32), M))
set_option maxRecDepth 100000 in
set_option maxHeartbeats 4000000 in
theorem c_X5_addPart {D : va_G} {Y : JY} {ty : Nat → ClassId} {ad : Nat → Nat} {sz : Nat} {l : Launch} {M : JM} (hY : j_ok Y) {o : Nat} {p1 : Int32} {p2 : Int32} {p3 : Int32} {p4 : Int32} {p5 : Int32} {p6 : Int32} (ho : j_kd Y o = 5) {r : Int32 × JM} (hE : s_X5_addPart Y M o p1 p2 p3 p4 p5 p6 = some r) : JMi D Y ty ad sz l yX5_addPart cX5_addPart 8 (some .int) 2 47 [.ref (ad o), .int p1, .int p2, .int p3, .int p4, .int p5, .int p6] M r.1 r.2 := by
  refine j_ofI hY (by decide +kernel) (Nat.le_of_ble_eq_true rfl) (fun p e s m below meth c args R Q A hRf hRl hA jc jw kr ls hl => ?_)
  have hx := jc.1
  have hb := jc.2.1
  have hl : lv_has ls 8 [(0, .ref (ad o)), (1, .int p1), (2, .int p2), (3, .int p3), (4, .int p4), (5, .int p5), (6, .int p6)] := hl
  unfold s_X5_addPart at hE
  obtain ⟨G0, eG0, hG0, hE⟩ := j_F0o hE
  refine lv_iload_n hx hb dX5_addPart_0 rfl (lv_at hl 1 rfl) ?_
  refine lv_iload_n hx hb dX5_addPart_1 rfl (lv_at hl 2 rfl) ?_
  have B13 : ∀ (H : Heap) (locs : List Loc), JW D Y ty ad A s.heap M H locs → (¬ (p1 = p2) ∨ ¬ (p3 = p4) ∨ ¬ (p5 = p6)) → W p l e R s m args below meth c H locs 0 0 Q (F0 m 20 ls []) := by
    intro H locs jw hcc
    rw [if_pos hcc] at hE
    refine lv_aload_n hx hb dX5_addPart_20 rfl (lv_at hl 0 rfl) ?_
    refine jg_5_5 jc jw ho wd_4_105 dX5_addPart_21 ?_
    have k4 := j_sub hY ho 5 (f := 8) rfl (by decide) (by decide) (by decide)
    obtain ⟨xx5, exx5, hE⟩ := j_bd hG0 hE
    try dsimp only at hE
    refine jc_vi [] [] jc jw hA k4 (by decide) rfl (c_X8_addRow hY k4 (M := M) exx5) sd_X5_97 rfl hl.1 (j_hR hRf hRl rfl rfl) (Nat.le_of_ble_eq_true rfl) dX5_addPart_24 (fun H locs jw => ?_)
    refine lv_topi (fun vv6 evv6 => ?_)
    replace hE := j_lu hE evv6
    try dsimp only at hE
    refine lv_istore (lv' := [(7, .int vv6), (0, .ref (ad o)), (1, .int p1), (2, .int p2), (3, .int p3), (4, .int p4), (5, .int p5), (6, .int p6)]) hx hb dX5_addPart_27 hl (by decide) rfl (fun ls hl => ?_)
    refine lv_aload_n hx hb dX5_addPart_29 rfl (lv_at hl 1 rfl) ?_
    refine jg_5_5 jc jw ho wd_4_105 dX5_addPart_30 ?_
    refine lv_iload hx hb dX5_addPart_33 (lv_at hl 0 rfl) ?_
    refine lv_iconst (v := 1) hx hb dX5_addPart_35 (by decide) ?_
    refine lv_iload_n hx hb dX5_addPart_36 rfl (lv_at hl 2 rfl) ?_
    obtain ⟨xx7, exx7, hE⟩ := j_lv hE
    try dsimp only at hE
    refine jc_vv [.int vv6, .int (1 : Int32), .int p1] [] jc jw hA k4 (by decide) rfl (c_X8_put hY k4 (M := xx5.2) exx7.symm) sd_X5_100 rfl hl.1 (j_hR hRf hRl rfl rfl) (Nat.le_of_ble_eq_true rfl) dX5_addPart_37 (fun H locs jw => ?_)
    refine lv_aload_n hx hb dX5_addPart_40 rfl (lv_at hl 1 rfl) ?_
    refine jg_5_5 jc jw ho wd_4_105 dX5_addPart_41 ?_
    refine lv_iload hx hb dX5_addPart_44 (lv_at hl 0 rfl) ?_
    refine lv_iconst (v := 2) hx hb dX5_addPart_46 (by decide) ?_
    refine lv_iload_n hx hb dX5_addPart_47 rfl (lv_at hl 3 rfl) ?_
    obtain ⟨xx8, exx8, hE⟩ := j_lv hE
    try dsimp only at hE
    refine jc_vv [.int vv6, .int (2 : Int32), .int p2] [] jc jw hA k4 (by decide) rfl (c_X8_put hY k4 (M := xx7) exx8.symm) sd_X5_100 rfl hl.1 (j_hR hRf hRl rfl rfl) (Nat.le_of_ble_eq_true rfl) dX5_addPart_48 (fun H locs jw => ?_)
    refine lv_aload_n hx hb dX5_addPart_51 rfl (lv_at hl 1 rfl) ?_
    refine jg_5_5 jc jw ho wd_4_105 dX5_addPart_52 ?_
    refine lv_iload hx hb dX5_addPart_55 (lv_at hl 0 rfl) ?_
    refine lv_iconst (v := 3) hx hb dX5_addPart_57 (by decide) ?_
    refine lv_iload_n hx hb dX5_addPart_58 rfl (lv_at hl 4 rfl) ?_
    obtain ⟨xx9, exx9, hE⟩ := j_lv hE
    try dsimp only at hE
    refine jc_vv [.int vv6, .int (3 : Int32), .int p3] [] jc jw hA k4 (by decide) rfl (c_X8_put hY k4 (M := xx8) exx9.symm) sd_X5_100 rfl hl.1 (j_hR hRf hRl rfl rfl) (Nat.le_of_ble_eq_true rfl) dX5_addPart_59 (fun H locs jw => ?_)
    refine lv_aload_n hx hb dX5_addPart_62 rfl (lv_at hl 1 rfl) ?_
    refine jg_5_5 jc jw ho wd_4_105 dX5_addPart_63 ?_
    refine lv_iload hx hb dX5_addPart_66 (lv_at hl 0 rfl) ?_
    refine lv_iconst (v := 4) hx hb dX5_addPart_68 (by decide) ?_
    refine lv_iload hx hb dX5_addPart_69 (lv_at hl 5 rfl) ?_
    obtain ⟨xx10, exx10, hE⟩ := j_lv hE
    try dsimp only at hE
    refine jc_vv [.int vv6, .int (4 : Int32), .int p4] [] jc jw hA k4 (by decide) rfl (c_X8_put hY k4 (M := xx9) exx10.symm) sd_X5_100 rfl hl.1 (j_hR hRf hRl rfl rfl) (Nat.le_of_ble_eq_true rfl) dX5_addPart_71 (fun H locs jw => ?_)
    refine lv_aload_n hx hb dX5_addPart_74 rfl (lv_at hl 1 rfl) ?_
    refine jg_5_5 jc jw ho wd_4_105 dX5_addPart_75 ?_
    refine lv_iload hx hb dX5_addPart_78 (lv_at hl 0 rfl) ?_
    refine lv_iconst (v := 5) hx hb dX5_addPart_80 (by decide) ?_
    refine lv_iload hx hb dX5_addPart_81 (lv_at hl 6 rfl) ?_
    obtain ⟨xx11, exx11, hE⟩ := j_lv hE
    try dsimp only at hE
    refine jc_vv [.int vv6, .int (5 : Int32), .int p5] [] jc jw hA k4 (by decide) rfl (c_X8_put hY k4 (M := xx10) exx11.symm) sd_X5_100 rfl hl.1 (j_hR hRf hRl rfl rfl) (Nat.le_of_ble_eq_true rfl) dX5_addPart_83 (fun H locs jw => ?_)
    refine lv_aload_n hx hb dX5_addPart_86 rfl (lv_at hl 1 rfl) ?_
    refine jg_5_5 jc jw ho wd_4_105 dX5_addPart_87 ?_
    refine lv_iload hx hb dX5_addPart_90 (lv_at hl 0 rfl) ?_
    refine lv_bipush (v := 6) hx hb dX5_addPart_92 (by decide) ?_
    refine lv_iload hx hb dX5_addPart_94 (lv_at hl 7 rfl) ?_
    obtain ⟨xx12, exx12, hE⟩ := j_lv hE
    try dsimp only at hE
    refine jc_vv [.int vv6, .int (6 : Int32), .int p6] [] jc jw hA k4 (by decide) rfl (c_X8_put hY k4 (M := xx11) exx12.symm) sd_X5_100 rfl hl.1 (j_hR hRf hRl rfl rfl) (Nat.le_of_ble_eq_true rfl) dX5_addPart_96 (fun H locs jw => ?_)
    refine lv_iload hx hb dX5_addPart_99 (lv_at hl 0 rfl) ?_
    exact kr _ _ _ _ _ _ (j_fst (Option.some.inj (j_ret eG0 hE))) (j_snd (Option.some.inj (j_ret eG0 hE))) jw dX5_addPart_101
  refine lv_icmp_ne (tgt := 20) hx hb dX5_addPart_2 (by decide) (fun c1 => B13 _ _ jw (Or.inl c1)) (fun c1 => ?_)
  refine lv_iload_n hx hb dX5_addPart_5 rfl (lv_at hl 3 rfl) ?_
  refine lv_iload hx hb dX5_addPart_6 (lv_at hl 4 rfl) ?_
  refine lv_icmp_ne (tgt := 20) hx hb dX5_addPart_8 (by decide) (fun c2 => B13 _ _ jw (Or.inr (Or.inl c2))) (fun c2 => ?_)
  refine lv_iload hx hb dX5_addPart_11 (lv_at hl 5 rfl) ?_
  refine lv_iload hx hb dX5_addPart_13 (lv_at hl 6 rfl) ?_
  refine lv_icmp_ne (tgt := 20) hx hb dX5_addPart_15 (by decide) (fun c3 => B13 _ _ jw (Or.inr (Or.inr c3))) (fun c3 => ?_)
  rw [if_neg (fun hq => hq.elim (fun hq => (j_absn c1 hq)) (fun hq => hq.elim (fun hq => (j_absn c2 hq)) (fun hq => (j_absn c3 hq))))] at hE
  refine lv_iconst (v := -1) hx hb dX5_addPart_18 (by decide) ?_
  exact kr _ _ _ _ _ _ (j_fst (Option.some.inj (j_ret eG0 hE))) (j_snd (Option.some.inj (j_ret eG0 hE))) jw dX5_addPart_19
def s_X5_samePart (Y : JY) (M : JM) (o : Nat) (q1 : Nat) (p2 : Int32) (p3 : Int32) (q4 : Nat) (p5 : Int32) : Option (Int32) := (s_X4_samePart Y M q1 (s_X8_at Y M (j_rf Y o 5) p2 p3) (s_X8_at Y M (j_rf Y o 5) p2 (p3 + (1 : Int32))) q4 (s_X8_at Y M (j_rf Y o 5) p2 p5) (s_X8_at Y M (j_rf Y o 5) p2 (p5 + (1 : Int32)))).bind fun xx2 => some xx2
set_option maxRecDepth 100000 in
set_option maxHeartbeats 4000000 in
theorem c_X5_samePart {D : va_G} {Y : JY} {ty : Nat → ClassId} {ad : Nat → Nat} {sz : Nat} {l : Launch} {M : JM} (hY : j_ok Y) {o : Nat} {q1 : Nat} {p2 : Int32} {p3 : Int32} {q4 : Nat} {p5 : Int32} (ho : j_kd Y o = 5) (hq1 : j_kd Y q1 = 4) (hq4 : j_kd Y q4 = 4) {r : Int32} (hE : s_X5_samePart Y M o q1 p2 p3 q4 p5 = some r) : JMz D Y ty ad sz l yX5_samePart cX5_samePart 6 2 47 [.ref (ad o), .ref (ad q1), .int p2, .int p3, .ref (ad q4), .int p5] M r M := by
  refine j_ofZ hY (by decide +kernel) (Nat.le_of_ble_eq_true rfl) (fun p e s m below meth c args R Q A hRf hRl hA jc jw kr ls hl => ?_)
  have hx := jc.1
  have hb := jc.2.1
  have hl : lv_has ls 6 [(0, .ref (ad o)), (1, .ref (ad q1)), (2, .int p2), (3, .int p3), (4, .ref (ad q4)), (5, .int p5)] := hl
  unfold s_X5_samePart at hE
  obtain ⟨G0, eG0, hG0, hE⟩ := j_F0o hE
  refine lv_aload_n hx hb dX5_samePart_0 rfl (lv_at hl 1 rfl) ?_
  refine lv_aload_n hx hb dX5_samePart_1 rfl (lv_at hl 0 rfl) ?_
  refine jg_5_5 jc jw ho wd_4_105 dX5_samePart_2 ?_
  have k1 := j_sub hY ho 5 (f := 8) rfl (by decide) (by decide) (by decide)
  refine lv_iload_n hx hb dX5_samePart_5 rfl (lv_at hl 2 rfl) ?_
  refine lv_iload_n hx hb dX5_samePart_6 rfl (lv_at hl 3 rfl) ?_
  refine jc_vi [.int p2, .int p3] [.ref (ad q1)] jc jw hA k1 (by decide) rfl (c_X8_at hY k1 (M := M) rfl) sd_X5_106 rfl hl.1 (j_hR hRf hRl rfl rfl) (Nat.le_of_ble_eq_true rfl) dX5_samePart_7 (fun H locs jw => ?_)
  refine lv_aload_n hx hb dX5_samePart_10 rfl (lv_at hl 0 rfl) ?_
  refine jg_5_5 jc jw ho wd_4_105 dX5_samePart_11 ?_
  refine lv_iload_n hx hb dX5_samePart_14 rfl (lv_at hl 2 rfl) ?_
  refine lv_iload_n hx hb dX5_samePart_15 rfl (lv_at hl 3 rfl) ?_
  refine lv_iconst (v := 1) hx hb dX5_samePart_16 (by decide) ?_
  refine lv_iadd hx hb dX5_samePart_17 ?_
  refine jc_vi [.int p2, .int (p3 + (1 : Int32))] [.int (s_X8_at Y M (j_rf Y o 5) p2 p3), .ref (ad q1)] jc jw hA k1 (by decide) rfl (c_X8_at hY k1 (M := M) rfl) sd_X5_106 rfl hl.1 (j_hR hRf hRl rfl rfl) (Nat.le_of_ble_eq_true rfl) dX5_samePart_18 (fun H locs jw => ?_)
  refine lv_aload hx hb dX5_samePart_21 (lv_at hl 4 rfl) ?_
  refine lv_aload_n hx hb dX5_samePart_23 rfl (lv_at hl 0 rfl) ?_
  refine jg_5_5 jc jw ho wd_4_105 dX5_samePart_24 ?_
  refine lv_iload_n hx hb dX5_samePart_27 rfl (lv_at hl 2 rfl) ?_
  refine lv_iload hx hb dX5_samePart_28 (lv_at hl 5 rfl) ?_
  refine jc_vi [.int p2, .int p5] [.ref (ad q4), .int (s_X8_at Y M (j_rf Y o 5) p2 (p3 + (1 : Int32))), .int (s_X8_at Y M (j_rf Y o 5) p2 p3), .ref (ad q1)] jc jw hA k1 (by decide) rfl (c_X8_at hY k1 (M := M) rfl) sd_X5_106 rfl hl.1 (j_hR hRf hRl rfl rfl) (Nat.le_of_ble_eq_true rfl) dX5_samePart_30 (fun H locs jw => ?_)
  refine lv_aload_n hx hb dX5_samePart_33 rfl (lv_at hl 0 rfl) ?_
  refine jg_5_5 jc jw ho wd_4_105 dX5_samePart_34 ?_
  refine lv_iload_n hx hb dX5_samePart_37 rfl (lv_at hl 2 rfl) ?_
  refine lv_iload hx hb dX5_samePart_38 (lv_at hl 5 rfl) ?_
  refine lv_iconst (v := 1) hx hb dX5_samePart_40 (by decide) ?_
  refine lv_iadd hx hb dX5_samePart_41 ?_
  refine jc_vi [.int p2, .int (p5 + (1 : Int32))] [.int (s_X8_at Y M (j_rf Y o 5) p2 p5), .ref (ad q4), .int (s_X8_at Y M (j_rf Y o 5) p2 (p3 + (1 : Int32))), .int (s_X8_at Y M (j_rf Y o 5) p2 p3), .ref (ad q1)] jc jw hA k1 (by decide) rfl (c_X8_at hY k1 (M := M) rfl) sd_X5_106 rfl hl.1 (j_hR hRf hRl rfl rfl) (Nat.le_of_ble_eq_true rfl) dX5_samePart_42 (fun H locs jw => ?_)
  obtain ⟨xx2, exx2, hE⟩ := j_bd hG0 hE
  try dsimp only at hE
  refine jc_vz [.int (s_X8_at Y M (j_rf Y o 5) p2 p3), .int (s_X8_at Y M (j_rf Y o 5) p2 (p3 + (1 : Int32))), .ref (ad q4), .int (s_X8_at Y M (j_rf Y o 5) p2 p5), .int (s_X8_at Y M (j_rf Y o 5) p2 (p5 + (1 : Int32)))] [] jc jw hA hq1 (by decide) rfl (c_X4_samePart hY hq1 hq4 (M := M) exx2) sd_X5_126 rfl hl.1 (j_hR hRf hRl rfl rfl) (Nat.le_of_ble_eq_true rfl) dX5_samePart_45 (fun H locs jw hz => ?_)
  have z_3 := hz
  exact kr _ _ _ _ _ _ (Option.some.inj (j_ret eG0 hE)) rfl z_3 jw dX5_samePart_48
def s_X5_kindOf (Y : JY) (M : JM) (o : Nat) (p1 : Int32) : Option (Int32) := (s_X5_samePart Y M o (j_rf Y o 1) p1 (3 : Int32) (j_rf Y o 0) (1 : Int32)).bind fun xx3 => if xx3 = 0 then ((s_X5_samePart Y M o (j_rf Y o 2) p1 (5 : Int32) (j_rf Y o 0) (1 : Int32)).bind fun xx7 => if xx7 = 0 then ((s_X5_samePart Y M o (j_rf Y o 1) p1 (3 : Int32) (j_rf Y o 2) (5 : Int32)).bind fun xx10 => if xx10 = 0 then (some (4 : Int32)) else (some (3 : Int32))) else (some (1 : Int32))) else (some (2 : Int32))
set_option maxRecDepth 100000 in
set_option maxHeartbeats 4000000 in
theorem c_X5_kindOf {D : va_G} {Y : JY} {ty : Nat → ClassId} {ad : Nat → Nat} {sz : Nat} {l : Launch} {M : JM} (hY : j_ok Y) {o : Nat} {p1 : Int32} (ho : j_kd Y o = 5) {r : Int32} (hE : s_X5_kindOf Y M o p1 = some r) : JMi D Y ty ad sz l yX5_kindOf cX5_kindOf 2 (some .int) 3 72 [.ref (ad o), .int p1] M r M := by
  refine j_ofI hY (by decide +kernel) (Nat.le_of_ble_eq_true rfl) (fun p e s m below meth c args R Q A hRf hRl hA jc jw kr ls hl => ?_)
  have hx := jc.1
  have hb := jc.2.1
  have hl : lv_has ls 2 [(0, .ref (ad o)), (1, .int p1)] := hl
  unfold s_X5_kindOf at hE
  obtain ⟨G0, eG0, hG0, hE⟩ := j_F0o hE
  refine lv_aload_n hx hb dX5_kindOf_0 rfl (lv_at hl 0 rfl) ?_
  refine lv_aload_n hx hb dX5_kindOf_1 rfl (lv_at hl 0 rfl) ?_
  refine jg_5_1 jc jw ho wd_4_101 dX5_kindOf_2 ?_
  have k1 := j_sub hY ho 1 (f := 4) rfl (by decide) (by decide) (by decide)
  refine lv_iload_n hx hb dX5_kindOf_5 rfl (lv_at hl 1 rfl) ?_
  refine lv_iconst (v := 3) hx hb dX5_kindOf_6 (by decide) ?_
  refine lv_aload_n hx hb dX5_kindOf_7 rfl (lv_at hl 0 rfl) ?_
  refine jg_5_0 jc jw ho wd_4_100 dX5_kindOf_8 ?_
  have k2 := j_sub hY ho 0 (f := 4) rfl (by decide) (by decide) (by decide)
  refine lv_iconst (v := 1) hx hb dX5_kindOf_11 (by decide) ?_
  obtain ⟨xx3, exx3, hE⟩ := j_bd hG0 hE
  try dsimp only at hE
  refine jc_vz [.ref (ad (j_rf Y o 1)), .int p1, .int (3 : Int32), .ref (ad (j_rf Y o 0)), .int (1 : Int32)] [] jc jw hA ho (by decide) rfl (c_X5_samePart hY ho k1 k2 (M := M) exx3) sd_X5_122 rfl hl.1 (j_hR hRf hRl rfl rfl) (Nat.le_of_ble_eq_true rfl) dX5_kindOf_12 (fun H locs jw hz => ?_)
  have z_4 := hz
  refine lv_if_eq (tgt := 20) hx hb dX5_kindOf_15 (by decide) (fun c5 => ?_) (fun c5 => ?_)
  · rw [if_pos c5] at hE
    refine lv_aload_n hx hb dX5_kindOf_20 rfl (lv_at hl 0 rfl) ?_
    refine lv_aload_n hx hb dX5_kindOf_21 rfl (lv_at hl 0 rfl) ?_
    refine jg_5_2 jc jw ho wd_4_102 dX5_kindOf_22 ?_
    have k6 := j_sub hY ho 2 (f := 4) rfl (by decide) (by decide) (by decide)
    refine lv_iload_n hx hb dX5_kindOf_25 rfl (lv_at hl 1 rfl) ?_
    refine lv_iconst (v := 5) hx hb dX5_kindOf_26 (by decide) ?_
    refine lv_aload_n hx hb dX5_kindOf_27 rfl (lv_at hl 0 rfl) ?_
    refine jg_5_0 jc jw ho wd_4_100 dX5_kindOf_28 ?_
    refine lv_iconst (v := 1) hx hb dX5_kindOf_31 (by decide) ?_
    obtain ⟨xx7, exx7, hE⟩ := j_bd hG0 hE
    try dsimp only at hE
    refine jc_vz [.ref (ad (j_rf Y o 2)), .int p1, .int (5 : Int32), .ref (ad (j_rf Y o 0)), .int (1 : Int32)] [] jc jw hA ho (by decide) rfl (c_X5_samePart hY ho k6 k2 (M := M) exx7) sd_X5_122 rfl hl.1 (j_hR hRf hRl rfl rfl) (Nat.le_of_ble_eq_true rfl) dX5_kindOf_32 (fun H locs jw hz => ?_)
    have z_8 := hz
    refine lv_if_eq (tgt := 40) hx hb dX5_kindOf_35 (by decide) (fun c9 => ?_) (fun c9 => ?_)
    · rw [if_pos c9] at hE
      refine lv_aload_n hx hb dX5_kindOf_40 rfl (lv_at hl 0 rfl) ?_
      refine lv_aload_n hx hb dX5_kindOf_41 rfl (lv_at hl 0 rfl) ?_
      refine jg_5_1 jc jw ho wd_4_101 dX5_kindOf_42 ?_
      refine lv_iload_n hx hb dX5_kindOf_45 rfl (lv_at hl 1 rfl) ?_
      refine lv_iconst (v := 3) hx hb dX5_kindOf_46 (by decide) ?_
      refine lv_aload_n hx hb dX5_kindOf_47 rfl (lv_at hl 0 rfl) ?_
      refine jg_5_2 jc jw ho wd_4_102 dX5_kindOf_48 ?_
      refine lv_iconst (v := 5) hx hb dX5_kindOf_51 (by decide) ?_
      obtain ⟨xx10, exx10, hE⟩ := j_bd hG0 hE
      try dsimp only at hE
      refine jc_vz [.ref (ad (j_rf Y o 1)), .int p1, .int (3 : Int32), .ref (ad (j_rf Y o 2)), .int (5 : Int32)] [] jc jw hA ho (by decide) rfl (c_X5_samePart hY ho k1 k6 (M := M) exx10) sd_X5_122 rfl hl.1 (j_hR hRf hRl rfl rfl) (Nat.le_of_ble_eq_true rfl) dX5_kindOf_52 (fun H locs jw hz => ?_)
      have z_11 := hz
      refine lv_if_eq (tgt := 62) hx hb dX5_kindOf_55 (by decide) (fun c12 => ?_) (fun c12 => ?_)
      · rw [if_pos c12] at hE
        refine lv_iconst (v := 4) hx hb dX5_kindOf_62 (by decide) ?_
        exact kr _ _ _ _ _ _ (Option.some.inj (j_ret eG0 hE)) rfl jw dX5_kindOf_63
      · rw [if_neg c12] at hE
        refine lv_iconst (v := 3) hx hb dX5_kindOf_58 (by decide) ?_
        refine lv_goto (tgt := 63) hx hb dX5_kindOf_59 (by decide) ?_
        exact kr _ _ _ _ _ _ (Option.some.inj (j_ret eG0 hE)) rfl jw dX5_kindOf_63
    · rw [if_neg c9] at hE
      refine lv_iconst (v := 1) hx hb dX5_kindOf_38 (by decide) ?_
      exact kr _ _ _ _ _ _ (Option.some.inj (j_ret eG0 hE)) rfl jw dX5_kindOf_39
  · rw [if_neg c5] at hE
    refine lv_iconst (v := 2) hx hb dX5_kindOf_18 (by decide) ?_
    exact kr _ _ _ _ _ _ (Option.some.inj (j_ret eG0 hE)) rfl jw dX5_kindOf_19
def s_X5_setKind (Y : JY) (M : JM) (o : Nat) (p1 : Int32) (p2 : Int32) : JM := lt_ (s_X8_put Y M (j_rf Y o 5) p1 (0 : Int32) p2) fun xx2 => xx2
set_option maxRecDepth 100000 in
set_option maxHeartbeats 4000000 in
theorem c_X5_setKind {D : va_G} {Y : JY} {ty : Nat → ClassId} {ad : Nat → Nat} {sz : Nat} {l : Launch} {M : JM} (hY : j_ok Y) {o : Nat} {p1 : Int32} {p2 : Int32} (ho : j_kd Y o = 5) {r : JM} (hE : s_X5_setKind Y M o p1 p2 = r) : JMv D Y ty ad sz l yX5_setKind cX5_setKind 3 1 25 [.ref (ad o), .int p1, .int p2] M r := by
  refine j_ofV hY (by decide +kernel) (Nat.le_of_ble_eq_true rfl) (fun p e s m below meth c args R Q A hRf hRl hA jc jw kr ls hl => ?_)
  have hx := jc.1
  have hb := jc.2.1
  have hl : lv_has ls 3 [(0, .ref (ad o)), (1, .int p1), (2, .int p2)] := hl
  unfold s_X5_setKind at hE
  obtain ⟨G0, eG0, hE⟩ := j_F0 hE
  refine lv_aload_n hx hb dX5_setKind_0 rfl (lv_at hl 0 rfl) ?_
  refine jg_5_5 jc jw ho wd_4_105 dX5_setKind_1 ?_
  have k1 := j_sub hY ho 5 (f := 8) rfl (by decide) (by decide) (by decide)
  refine lv_iload_n hx hb dX5_setKind_4 rfl (lv_at hl 1 rfl) ?_
  refine lv_iconst (v := 0) hx hb dX5_setKind_5 (by decide) ?_
  refine lv_iload_n hx hb dX5_setKind_6 rfl (lv_at hl 2 rfl) ?_
  obtain ⟨xx2, exx2, hE⟩ := j_lv hE
  try dsimp only at hE
  refine jc_vv [.int p1, .int (0 : Int32), .int p2] [] jc jw hA k1 (by decide) rfl (c_X8_put hY k1 (M := M) exx2.symm) sd_X5_100 rfl hl.1 (j_hR hRf hRl rfl rfl) (Nat.le_of_ble_eq_true rfl) dX5_setKind_7 (fun H locs jw => ?_)
  exact kr _ _ _ _ _ (j_ret eG0 hE) jw dX5_setKind_10
def lp_X5_commonBegin_1 (Y : JY) (vv1 : Int32) (M : JM) (o : Nat) (p1 : Int32) (p3 : Int32) (n : Nat) (vv3 : Int32) : Option (Int32) := match n with
  | 0 => none
  | n + 1 => if vv1 ≤ vv3 ∨ ¬ ((s_X4_at Y M (j_rf Y o 1) (p1 + vv3)) = (s_X4_at Y M (j_rf Y o 2) (p3 + vv3))) then (some vv3) else (lt_ (vv3 + (1 : Int32)) fun vv8 => lp_X5_commonBegin_1 Y vv1 M o p1 p3 n vv8)
def s_X5_commonBegin (Y : JY) (M : JM) (o : Nat) (p1 : Int32) (p2 : Int32) (p3 : Int32) (p4 : Int32) : Option (Int32) := lt_ (if (p4 - p3) < (p2 - p1) then (p4 - p3) else (p2 - p1)) fun vv1 => (lp_X5_commonBegin_1 Y vv1 M o p1 p3 j_fuel (0 : Int32)).bind fun xx10 => some xx10
set_option maxRecDepth 100000 in
set_option maxHeartbeats 4000000 in
theorem c_X5_commonBegin {D : va_G} {Y : JY} {ty : Nat → ClassId} {ad : Nat → Nat} {sz : Nat} {l : Launch} {M : JM} (hY : j_ok Y) {o : Nat} {p1 : Int32} {p2 : Int32} {p3 : Int32} {p4 : Int32} (ho : j_kd Y o = 5) {r : Int32} (hE : s_X5_commonBegin Y M o p1 p2 p3 p4 = some r) : JMi D Y ty ad sz l yX5_commonBegin cX5_commonBegin 7 (some .int) 1 29 [.ref (ad o), .int p1, .int p2, .int p3, .int p4] M r M := by
  refine j_ofI hY (by decide +kernel) (Nat.le_of_ble_eq_true rfl) (fun p e s m below meth c args R Q A hRf hRl hA jc jw kr ls hl => ?_)
  have hx := jc.1
  have hb := jc.2.1
  have hl : lv_has ls 7 [(0, .ref (ad o)), (1, .int p1), (2, .int p2), (3, .int p3), (4, .int p4)] := hl
  unfold s_X5_commonBegin at hE
  obtain ⟨G0, eG0, hG0, hE⟩ := j_F0o hE
  refine lv_iload_n hx hb dX5_commonBegin_0 rfl (lv_at hl 2 rfl) ?_
  refine lv_iload_n hx hb dX5_commonBegin_1 rfl (lv_at hl 1 rfl) ?_
  refine lv_isub hx hb dX5_commonBegin_2 ?_
  refine lv_iload hx hb dX5_commonBegin_3 (lv_at hl 4 rfl) ?_
  refine lv_iload_n hx hb dX5_commonBegin_5 rfl (lv_at hl 3 rfl) ?_
  refine lv_isub hx hb dX5_commonBegin_6 ?_
  refine va_mmin hx hb (jc.2.2.1.trans hl.1.symm) jc.2.2.2.1 (jc.2.2.2.2.1 _ wd_3_2) (jc.2.2.2.2.1 _ wd_3_3) (jc.2.2.2.2.1 _ wd_1_17) (jc.2.2.2.2.1 _ wd_3_4) (j_fr1 hRf rfl) (j_lo1 hRl rfl rfl) (Nat.zero_le _) (Nat.zero_le _) dX5_commonBegin_7 ?_
  refine lv_topi (fun vv1 evv1 => ?_)
  replace hE := j_lu hE evv1
  try dsimp only at hE
  refine lv_istore (lv' := [(5, .int vv1), (0, .ref (ad o)), (1, .int p1), (2, .int p2), (3, .int p3), (4, .int p4)]) hx hb dX5_commonBegin_10 hl (by decide) rfl (fun ls hl => ?_)
  refine lv_iconst (v := 0) hx hb dX5_commonBegin_12 (by decide) ?_
  refine lv_istore (lv' := [(6, .int (0 : Int32)), (5, .int vv1), (0, .ref (ad o)), (1, .int p1), (2, .int p2), (3, .int p3), (4, .int p4)]) hx hb dX5_commonBegin_13 hl (by decide) rfl (fun ls hl => ?_)
  obtain ⟨G2, eG2, hG2, hE⟩ := j_ctxB hG0 hE
  have LP2 : ∀ (n : Nat) (vv3 : Int32) (H : Heap) (locs : List Loc) (ls : Array Slot), G2 (lp_X5_commonBegin_1 Y vv1 M o p1 p3 n vv3) = some r → JW D Y ty ad A s.heap M H locs → lv_has ls 7 [(6, .int vv3), (5, .int vv1), (0, .ref (ad o)), (1, .int p1), (3, .int p3)] → W p l e R s m args below meth c H locs 0 0 Q (F0 m 15 ls []) := by
    intro n
    induction n with
    | zero => intro vv3 H locs ls hE jw hl; exact absurd hE (hG2 _)
    | succ n ih =>
      intro vv3 H locs ls hE jw hl
      rw [lp_X5_commonBegin_1] at hE
      refine lv_iload hx hb dX5_commonBegin_15 (lv_at hl 0 rfl) ?_
      refine lv_iload hx hb dX5_commonBegin_17 (lv_at hl 1 rfl) ?_
      have B9 : ∀ (H : Heap) (locs : List Loc), JW D Y ty ad A s.heap M H locs → (vv1 ≤ vv3 ∨ ¬ ((s_X4_at Y M (j_rf Y o 1) (p1 + vv3)) = (s_X4_at Y M (j_rf Y o 2) (p3 + vv3)))) → W p l e R s m args below meth c H locs 0 0 Q (F0 m 53 ls []) := by
        intro H locs jw hcc
        rw [if_pos hcc] at hE
        refine lv_iload hx hb dX5_commonBegin_53 (lv_at hl 0 rfl) ?_
        replace hE := j_popB eG2 hE
        try dsimp only at hE
        exact kr _ _ _ _ _ _ (Option.some.inj (j_ret eG0 hE)) rfl jw dX5_commonBegin_55
      refine lv_icmp_ge (tgt := 53) hx hb dX5_commonBegin_19 (by decide) (fun c4 => B9 _ _ jw (Or.inl c4)) (fun c4 => ?_)
      refine lv_aload_n hx hb dX5_commonBegin_22 rfl (lv_at hl 2 rfl) ?_
      refine jg_5_1 jc jw ho wd_4_101 dX5_commonBegin_23 ?_
      have k5 := j_sub hY ho 1 (f := 4) rfl (by decide) (by decide) (by decide)
      refine lv_iload_n hx hb dX5_commonBegin_26 rfl (lv_at hl 3 rfl) ?_
      refine lv_iload hx hb dX5_commonBegin_27 (lv_at hl 0 rfl) ?_
      refine lv_iadd hx hb dX5_commonBegin_29 ?_
      refine jc_vi [.int (p1 + vv3)] [] jc jw hA k5 (by decide) rfl (c_X4_at hY k5 (M := M) rfl) sd_X5_141 rfl hl.1 (j_hR hRf hRl rfl rfl) (Nat.le_of_ble_eq_true rfl) dX5_commonBegin_30 (fun H locs jw => ?_)
      refine lv_aload_n hx hb dX5_commonBegin_33 rfl (lv_at hl 2 rfl) ?_
      refine jg_5_2 jc jw ho wd_4_102 dX5_commonBegin_34 ?_
      have k6 := j_sub hY ho 2 (f := 4) rfl (by decide) (by decide) (by decide)
      refine lv_iload_n hx hb dX5_commonBegin_37 rfl (lv_at hl 4 rfl) ?_
      refine lv_iload hx hb dX5_commonBegin_38 (lv_at hl 0 rfl) ?_
      refine lv_iadd hx hb dX5_commonBegin_40 ?_
      refine jc_vi [.int (p3 + vv3)] [.int (s_X4_at Y M (j_rf Y o 1) (p1 + vv3))] jc jw hA k6 (by decide) rfl (c_X4_at hY k6 (M := M) rfl) sd_X5_141 rfl hl.1 (j_hR hRf hRl rfl rfl) (Nat.le_of_ble_eq_true rfl) dX5_commonBegin_41 (fun H locs jw => ?_)
      refine lv_icmp_ne (tgt := 53) hx hb dX5_commonBegin_44 (by decide) (fun c7 => B9 _ _ jw (Or.inr c7)) (fun c7 => ?_)
      rw [if_neg (fun hq => hq.elim (fun hq => (j_abs c4 hq)) (fun hq => (j_absn c7 hq)))] at hE
      obtain ⟨vv8, evv8, hE⟩ := j_lv hE
      try dsimp only at hE
      refine lv_iinc (v := vv8) (lv' := [(6, .int vv8), (5, .int vv1), (0, .ref (ad o)), (1, .int p1), (3, .int p3)]) hx hb dX5_commonBegin_47 hl (k := 0) rfl (by rw [evv8]; rfl) (by decide) rfl (fun ls hl => ?_)
      refine lv_goto (tgt := 15) hx hb dX5_commonBegin_50 (by decide) ?_
      exact ih vv8 H locs ls hE jw (lv_sub hl [0, 1, 2, 3, 4] rfl)
  exact LP2 j_fuel (0 : Int32) s.heap [] ls hE jw (lv_sub hl [0, 1, 2, 3, 5] rfl)
def lp_X5_commonEnd_1 (Y : JY) (vv1 : Int32) (M : JM) (o : Nat) (p2 : Int32) (p4 : Int32) (n : Nat) (vv3 : Int32) : Option (Int32) := match n with
  | 0 => none
  | n + 1 => if vv1 ≤ vv3 ∨ ¬ ((s_X4_at Y M (j_rf Y o 1) ((p2 - (1 : Int32)) - vv3)) = (s_X4_at Y M (j_rf Y o 2) ((p4 - (1 : Int32)) - vv3))) then (some vv3) else (lt_ (vv3 + (1 : Int32)) fun vv8 => lp_X5_commonEnd_1 Y vv1 M o p2 p4 n vv8)
def s_X5_commonEnd (Y : JY) (M : JM) (o : Nat) (p1 : Int32) (p2 : Int32) (p3 : Int32) (p4 : Int32) : Option (Int32) := lt_ (if (p4 - p3) < (p2 - p1) then (p4 - p3) else (p2 - p1)) fun vv1 => (lp_X5_commonEnd_1 Y vv1 M o p2 p4 j_fuel (0 : Int32)).bind fun xx10 => some xx10
set_option maxRecDepth 100000 in
set_option maxHeartbeats 4000000 in
theorem c_X5_commonEnd {D : va_G} {Y : JY} {ty : Nat → ClassId} {ad : Nat → Nat} {sz : Nat} {l : Launch} {M : JM} (hY : j_ok Y) {o : Nat} {p1 : Int32} {p2 : Int32} {p3 : Int32} {p4 : Int32} (ho : j_kd Y o = 5) {r : Int32} (hE : s_X5_commonEnd Y M o p1 p2 p3 p4 = some r) : JMi D Y ty ad sz l yX5_commonEnd cX5_commonEnd 7 (some .int) 1 29 [.ref (ad o), .int p1, .int p2, .int p3, .int p4] M r M := by
  refine j_ofI hY (by decide +kernel) (Nat.le_of_ble_eq_true rfl) (fun p e s m below meth c args R Q A hRf hRl hA jc jw kr ls hl => ?_)
  have hx := jc.1
  have hb := jc.2.1
  have hl : lv_has ls 7 [(0, .ref (ad o)), (1, .int p1), (2, .int p2), (3, .int p3), (4, .int p4)] := hl
  unfold s_X5_commonEnd at hE
  obtain ⟨G0, eG0, hG0, hE⟩ := j_F0o hE
  refine lv_iload_n hx hb dX5_commonEnd_0 rfl (lv_at hl 2 rfl) ?_
  refine lv_iload_n hx hb dX5_commonEnd_1 rfl (lv_at hl 1 rfl) ?_
  refine lv_isub hx hb dX5_commonEnd_2 ?_
  refine lv_iload hx hb dX5_commonEnd_3 (lv_at hl 4 rfl) ?_
  refine lv_iload_n hx hb dX5_commonEnd_5 rfl (lv_at hl 3 rfl) ?_
  refine lv_isub hx hb dX5_commonEnd_6 ?_
  refine va_mmin hx hb (jc.2.2.1.trans hl.1.symm) jc.2.2.2.1 (jc.2.2.2.2.1 _ wd_3_2) (jc.2.2.2.2.1 _ wd_3_3) (jc.2.2.2.2.1 _ wd_1_17) (jc.2.2.2.2.1 _ wd_3_4) (j_fr1 hRf rfl) (j_lo1 hRl rfl rfl) (Nat.zero_le _) (Nat.zero_le _) dX5_commonEnd_7 ?_
  refine lv_topi (fun vv1 evv1 => ?_)
  replace hE := j_lu hE evv1
  try dsimp only at hE
  refine lv_istore (lv' := [(5, .int vv1), (0, .ref (ad o)), (1, .int p1), (2, .int p2), (3, .int p3), (4, .int p4)]) hx hb dX5_commonEnd_10 hl (by decide) rfl (fun ls hl => ?_)
  refine lv_iconst (v := 0) hx hb dX5_commonEnd_12 (by decide) ?_
  refine lv_istore (lv' := [(6, .int (0 : Int32)), (5, .int vv1), (0, .ref (ad o)), (1, .int p1), (2, .int p2), (3, .int p3), (4, .int p4)]) hx hb dX5_commonEnd_13 hl (by decide) rfl (fun ls hl => ?_)
  obtain ⟨G2, eG2, hG2, hE⟩ := j_ctxB hG0 hE
  have LP2 : ∀ (n : Nat) (vv3 : Int32) (H : Heap) (locs : List Loc) (ls : Array Slot), G2 (lp_X5_commonEnd_1 Y vv1 M o p2 p4 n vv3) = some r → JW D Y ty ad A s.heap M H locs → lv_has ls 7 [(6, .int vv3), (5, .int vv1), (0, .ref (ad o)), (2, .int p2), (4, .int p4)] → W p l e R s m args below meth c H locs 0 0 Q (F0 m 15 ls []) := by
    intro n
    induction n with
    | zero => intro vv3 H locs ls hE jw hl; exact absurd hE (hG2 _)
    | succ n ih =>
      intro vv3 H locs ls hE jw hl
      rw [lp_X5_commonEnd_1] at hE
      refine lv_iload hx hb dX5_commonEnd_15 (lv_at hl 0 rfl) ?_
      refine lv_iload hx hb dX5_commonEnd_17 (lv_at hl 1 rfl) ?_
      have B9 : ∀ (H : Heap) (locs : List Loc), JW D Y ty ad A s.heap M H locs → (vv1 ≤ vv3 ∨ ¬ ((s_X4_at Y M (j_rf Y o 1) ((p2 - (1 : Int32)) - vv3)) = (s_X4_at Y M (j_rf Y o 2) ((p4 - (1 : Int32)) - vv3)))) → W p l e R s m args below meth c H locs 0 0 Q (F0 m 58 ls []) := by
        intro H locs jw hcc
        rw [if_pos hcc] at hE
        refine lv_iload hx hb dX5_commonEnd_58 (lv_at hl 0 rfl) ?_
        replace hE := j_popB eG2 hE
        try dsimp only at hE
        exact kr _ _ _ _ _ _ (Option.some.inj (j_ret eG0 hE)) rfl jw dX5_commonEnd_60
      refine lv_icmp_ge (tgt := 58) hx hb dX5_commonEnd_19 (by decide) (fun c4 => B9 _ _ jw (Or.inl c4)) (fun c4 => ?_)
      refine lv_aload_n hx hb dX5_commonEnd_22 rfl (lv_at hl 2 rfl) ?_
      refine jg_5_1 jc jw ho wd_4_101 dX5_commonEnd_23 ?_
      have k5 := j_sub hY ho 1 (f := 4) rfl (by decide) (by decide) (by decide)
      refine lv_iload_n hx hb dX5_commonEnd_26 rfl (lv_at hl 3 rfl) ?_
      refine lv_iconst (v := 1) hx hb dX5_commonEnd_27 (by decide) ?_
      refine lv_isub hx hb dX5_commonEnd_28 ?_
      refine lv_iload hx hb dX5_commonEnd_29 (lv_at hl 0 rfl) ?_
      refine lv_isub hx hb dX5_commonEnd_31 ?_
      refine jc_vi [.int ((p2 - (1 : Int32)) - vv3)] [] jc jw hA k5 (by decide) rfl (c_X4_at hY k5 (M := M) rfl) sd_X5_141 rfl hl.1 (j_hR hRf hRl rfl rfl) (Nat.le_of_ble_eq_true rfl) dX5_commonEnd_32 (fun H locs jw => ?_)
      refine lv_aload_n hx hb dX5_commonEnd_35 rfl (lv_at hl 2 rfl) ?_
      refine jg_5_2 jc jw ho wd_4_102 dX5_commonEnd_36 ?_
      have k6 := j_sub hY ho 2 (f := 4) rfl (by decide) (by decide) (by decide)
      refine lv_iload hx hb dX5_commonEnd_39 (lv_at hl 4 rfl) ?_
      refine lv_iconst (v := 1) hx hb dX5_commonEnd_41 (by decide) ?_
      refine lv_isub hx hb dX5_commonEnd_42 ?_
      refine lv_iload hx hb dX5_commonEnd_43 (lv_at hl 0 rfl) ?_
      refine lv_isub hx hb dX5_commonEnd_45 ?_
      refine jc_vi [.int ((p4 - (1 : Int32)) - vv3)] [.int (s_X4_at Y M (j_rf Y o 1) ((p2 - (1 : Int32)) - vv3))] jc jw hA k6 (by decide) rfl (c_X4_at hY k6 (M := M) rfl) sd_X5_141 rfl hl.1 (j_hR hRf hRl rfl rfl) (Nat.le_of_ble_eq_true rfl) dX5_commonEnd_46 (fun H locs jw => ?_)
      refine lv_icmp_ne (tgt := 58) hx hb dX5_commonEnd_49 (by decide) (fun c7 => B9 _ _ jw (Or.inr c7)) (fun c7 => ?_)
      rw [if_neg (fun hq => hq.elim (fun hq => (j_abs c4 hq)) (fun hq => (j_absn c7 hq)))] at hE
      obtain ⟨vv8, evv8, hE⟩ := j_lv hE
      try dsimp only at hE
      refine lv_iinc (v := vv8) (lv' := [(6, .int vv8), (5, .int vv1), (0, .ref (ad o)), (2, .int p2), (4, .int p4)]) hx hb dX5_commonEnd_52 hl (k := 0) rfl (by rw [evv8]; rfl) (by decide) rfl (fun ls hl => ?_)
      refine lv_goto (tgt := 15) hx hb dX5_commonEnd_55 (by decide) ?_
      exact ih vv8 H locs ls hE jw (lv_sub hl [0, 1, 2, 3, 4] rfl)
  exact LP2 j_fuel (0 : Int32) s.heap [] ls hE jw (lv_sub hl [0, 1, 2, 4, 6] rfl)
def s_X5_shrink (Y : JY) (M : JM) (o : Nat) (p1 : Int32) : Option (JM) := lt_ (s_X8_at Y M (j_rf Y o 5) p1 (1 : Int32)) fun vv2 => lt_ (s_X8_at Y M (j_rf Y o 5) p1 (2 : Int32)) fun vv3 => lt_ (s_X8_at Y M (j_rf Y o 5) p1 (3 : Int32)) fun vv4 => lt_ (s_X8_at Y M (j_rf Y o 5) p1 (4 : Int32)) fun vv5 => lt_ (s_X8_at Y M (j_rf Y o 5) p1 (5 : Int32)) fun vv6 => lt_ (s_X8_at Y M (j_rf Y o 5) p1 (6 : Int32)) fun vv7 => (s_X5_commonBegin Y M o vv4 vv5 vv6 vv7).bind fun xx8 => (s_X5_commonEnd Y M o (vv4 + xx8) vv5 (vv6 + xx8) vv7).bind fun xx9 => (if xx8 ≤ 0 then (some (p1, M)) else (lt_ (s_X5_setKind Y M o p1 (3 : Int32)) fun xx12 => lt_ (s_X8_put Y xx12 (j_rf Y o 5) p1 (2 : Int32) vv2) fun xx13 => lt_ (s_X8_put Y xx13 (j_rf Y o 5) p1 (4 : Int32) (vv4 + xx8)) fun xx14 => lt_ (s_X8_put Y xx14 (j_rf Y o 5) p1 (6 : Int32) (vv6 + xx8)) fun xx15 => (s_X5_addPart Y xx15 o vv2 vv3 (vv4 + xx8) vv5 (vv6 + xx8) vv7).bind fun xx16 => lt_ xx16.1 fun vv17 => lt_ (s_X5_setKind Y xx16.2 o vv17 (4 : Int32)) fun xx18 => some (vv17, xx18))).bind fun xx28 => lt_ (s_X4_push Y xx28.2 (j_rf Y o 6) xx28.1) fun xx22 => if xx9 ≤ 0 then (some xx22) else (lt_ (s_X8_put Y xx22 (j_rf Y o 5) xx28.1 (4 : Int32) (vv5 - xx9)) fun xx24 => lt_ (s_X8_put Y xx24 (j_rf Y o 5) xx28.1 (6 : Int32) (vv7 - xx9)) fun xx25 => (s_X5_addPart Y xx25 o vv3 vv3 (vv5 - xx9) vv5 (vv7 - xx9) vv7).bind fun xx26 => lt_ (s_X5_setKind Y xx26.2 o xx26.1 (3 : Int32)) fun xx27 => some xx27)
set_option maxRecDepth 100000 in
set_option maxHeartbeats 4000000 in
theorem c_X5_shrink {D : va_G} {Y : JY} {ty : Nat → ClassId} {ad : Nat → Nat} {sz : Nat} {l : Launch} {M : JM} (hY : j_ok Y) {o : Nat} {p1 : Int32} (ho : j_kd Y o = 5) {r : JM} (hE : s_X5_shrink Y M o p1 = some r) : JMv D Y ty ad sz l yX5_shrink cX5_shrink 11 3 74 [.ref (ad o), .int p1] M r := by
  refine j_ofV hY (by decide +kernel) (Nat.le_of_ble_eq_true rfl) (fun p e s m below meth c args R Q A hRf hRl hA jc jw kr ls hl => ?_)
  have hx := jc.1
  have hb := jc.2.1
  have hl : lv_has ls 11 [(0, .ref (ad o)), (1, .int p1)] := hl
  unfold s_X5_shrink at hE
  obtain ⟨G0, eG0, hG0, hE⟩ := j_F0o hE
  refine lv_aload_n hx hb dX5_shrink_0 rfl (lv_at hl 0 rfl) ?_
  refine jg_5_5 jc jw ho wd_4_105 dX5_shrink_1 ?_
  have k1 := j_sub hY ho 5 (f := 8) rfl (by decide) (by decide) (by decide)
  refine lv_iload_n hx hb dX5_shrink_4 rfl (lv_at hl 1 rfl) ?_
  refine lv_iconst (v := 1) hx hb dX5_shrink_5 (by decide) ?_
  refine jc_vi [.int p1, .int (1 : Int32)] [] jc jw hA k1 (by decide) rfl (c_X8_at hY k1 (M := M) rfl) sd_X5_106 rfl hl.1 (j_hR hRf hRl rfl rfl) (Nat.le_of_ble_eq_true rfl) dX5_shrink_6 (fun H locs jw => ?_)
  refine lv_topi (fun vv2 evv2 => ?_)
  replace hE := j_lu hE evv2
  try dsimp only at hE
  refine lv_istore_n (lv' := [(2, .int vv2), (0, .ref (ad o)), (1, .int p1)]) hx hb dX5_shrink_9 rfl hl (by decide) rfl (fun ls hl => ?_)
  refine lv_aload_n hx hb dX5_shrink_10 rfl (lv_at hl 1 rfl) ?_
  refine jg_5_5 jc jw ho wd_4_105 dX5_shrink_11 ?_
  refine lv_iload_n hx hb dX5_shrink_14 rfl (lv_at hl 2 rfl) ?_
  refine lv_iconst (v := 2) hx hb dX5_shrink_15 (by decide) ?_
  refine jc_vi [.int p1, .int (2 : Int32)] [] jc jw hA k1 (by decide) rfl (c_X8_at hY k1 (M := M) rfl) sd_X5_106 rfl hl.1 (j_hR hRf hRl rfl rfl) (Nat.le_of_ble_eq_true rfl) dX5_shrink_16 (fun H locs jw => ?_)
  refine lv_topi (fun vv3 evv3 => ?_)
  replace hE := j_lu hE evv3
  try dsimp only at hE
  refine lv_istore_n (lv' := [(3, .int vv3), (2, .int vv2), (0, .ref (ad o)), (1, .int p1)]) hx hb dX5_shrink_19 rfl hl (by decide) rfl (fun ls hl => ?_)
  refine lv_aload_n hx hb dX5_shrink_20 rfl (lv_at hl 2 rfl) ?_
  refine jg_5_5 jc jw ho wd_4_105 dX5_shrink_21 ?_
  refine lv_iload_n hx hb dX5_shrink_24 rfl (lv_at hl 3 rfl) ?_
  refine lv_iconst (v := 3) hx hb dX5_shrink_25 (by decide) ?_
  refine jc_vi [.int p1, .int (3 : Int32)] [] jc jw hA k1 (by decide) rfl (c_X8_at hY k1 (M := M) rfl) sd_X5_106 rfl hl.1 (j_hR hRf hRl rfl rfl) (Nat.le_of_ble_eq_true rfl) dX5_shrink_26 (fun H locs jw => ?_)
  refine lv_topi (fun vv4 evv4 => ?_)
  replace hE := j_lu hE evv4
  try dsimp only at hE
  refine lv_istore (lv' := [(4, .int vv4), (3, .int vv3), (2, .int vv2), (0, .ref (ad o)), (1, .int p1)]) hx hb dX5_shrink_29 hl (by decide) rfl (fun ls hl => ?_)
  refine lv_aload_n hx hb dX5_shrink_31 rfl (lv_at hl 3 rfl) ?_
  refine jg_5_5 jc jw ho wd_4_105 dX5_shrink_32 ?_
  refine lv_iload_n hx hb dX5_shrink_35 rfl (lv_at hl 4 rfl) ?_
  refine lv_iconst (v := 4) hx hb dX5_shrink_36 (by decide) ?_
  refine jc_vi [.int p1, .int (4 : Int32)] [] jc jw hA k1 (by decide) rfl (c_X8_at hY k1 (M := M) rfl) sd_X5_106 rfl hl.1 (j_hR hRf hRl rfl rfl) (Nat.le_of_ble_eq_true rfl) dX5_shrink_37 (fun H locs jw => ?_)
  refine lv_topi (fun vv5 evv5 => ?_)
  replace hE := j_lu hE evv5
  try dsimp only at hE
  refine lv_istore (lv' := [(5, .int vv5), (4, .int vv4), (3, .int vv3), (2, .int vv2), (0, .ref (ad o)), (1, .int p1)]) hx hb dX5_shrink_40 hl (by decide) rfl (fun ls hl => ?_)
  refine lv_aload_n hx hb dX5_shrink_42 rfl (lv_at hl 4 rfl) ?_
  refine jg_5_5 jc jw ho wd_4_105 dX5_shrink_43 ?_
  refine lv_iload_n hx hb dX5_shrink_46 rfl (lv_at hl 5 rfl) ?_
  refine lv_iconst (v := 5) hx hb dX5_shrink_47 (by decide) ?_
  refine jc_vi [.int p1, .int (5 : Int32)] [] jc jw hA k1 (by decide) rfl (c_X8_at hY k1 (M := M) rfl) sd_X5_106 rfl hl.1 (j_hR hRf hRl rfl rfl) (Nat.le_of_ble_eq_true rfl) dX5_shrink_48 (fun H locs jw => ?_)
  refine lv_topi (fun vv6 evv6 => ?_)
  replace hE := j_lu hE evv6
  try dsimp only at hE
  refine lv_istore (lv' := [(6, .int vv6), (5, .int vv5), (4, .int vv4), (3, .int vv3), (2, .int vv2), (0, .ref (ad o)), (1, .int p1)]) hx hb dX5_shrink_51 hl (by decide) rfl (fun ls hl => ?_)
  refine lv_aload_n hx hb dX5_shrink_53 rfl (lv_at hl 5 rfl) ?_
  refine jg_5_5 jc jw ho wd_4_105 dX5_shrink_54 ?_
  refine lv_iload_n hx hb dX5_shrink_57 rfl (lv_at hl 6 rfl) ?_
  refine lv_bipush (v := 6) hx hb dX5_shrink_58 (by decide) ?_
  refine jc_vi [.int p1, .int (6 : Int32)] [] jc jw hA k1 (by decide) rfl (c_X8_at hY k1 (M := M) rfl) sd_X5_106 rfl hl.1 (j_hR hRf hRl rfl rfl) (Nat.le_of_ble_eq_true rfl) dX5_shrink_60 (fun H locs jw => ?_)
  refine lv_topi (fun vv7 evv7 => ?_)
  replace hE := j_lu hE evv7
  try dsimp only at hE
  refine lv_istore (lv' := [(7, .int vv7), (6, .int vv6), (5, .int vv5), (4, .int vv4), (3, .int vv3), (2, .int vv2), (0, .ref (ad o)), (1, .int p1)]) hx hb dX5_shrink_63 hl (by decide) rfl (fun ls hl => ?_)
  refine lv_aload_n hx hb dX5_shrink_65 rfl (lv_at hl 6 rfl) ?_
  refine lv_iload hx hb dX5_shrink_66 (lv_at hl 3 rfl) ?_
  refine lv_iload hx hb dX5_shrink_68 (lv_at hl 2 rfl) ?_
  refine lv_iload hx hb dX5_shrink_70 (lv_at hl 1 rfl) ?_
  refine lv_iload hx hb dX5_shrink_72 (lv_at hl 0 rfl) ?_
  obtain ⟨xx8, exx8, hE⟩ := j_bd hG0 hE
  try dsimp only at hE
  refine jc_vi [.int vv4, .int vv5, .int vv6, .int vv7] [] jc jw hA ho (by decide) rfl (c_X5_commonBegin hY ho (M := M) exx8) sd_X5_129 rfl hl.1 (j_hR hRf hRl rfl rfl) (Nat.le_of_ble_eq_true rfl) dX5_shrink_74 (fun H locs jw => ?_)
  refine lv_istore (lv' := [(8, .int xx8), (7, .int vv7), (6, .int vv6), (5, .int vv5), (4, .int vv4), (3, .int vv3), (2, .int vv2), (0, .ref (ad o)), (1, .int p1)]) hx hb dX5_shrink_77 hl (by decide) rfl (fun ls hl => ?_)
  refine lv_aload_n hx hb dX5_shrink_79 rfl (lv_at hl 7 rfl) ?_
  refine lv_iload hx hb dX5_shrink_80 (lv_at hl 4 rfl) ?_
  refine lv_iload hx hb dX5_shrink_82 (lv_at hl 0 rfl) ?_
  refine lv_iadd hx hb dX5_shrink_84 ?_
  refine lv_iload hx hb dX5_shrink_85 (lv_at hl 3 rfl) ?_
  refine lv_iload hx hb dX5_shrink_87 (lv_at hl 2 rfl) ?_
  refine lv_iload hx hb dX5_shrink_89 (lv_at hl 0 rfl) ?_
  refine lv_iadd hx hb dX5_shrink_91 ?_
  refine lv_iload hx hb dX5_shrink_92 (lv_at hl 1 rfl) ?_
  obtain ⟨xx9, exx9, hE⟩ := j_bd hG0 hE
  try dsimp only at hE
  refine jc_vi [.int (vv4 + xx8), .int vv5, .int (vv6 + xx8), .int vv7] [] jc jw hA ho (by decide) rfl (c_X5_commonEnd hY ho (M := M) exx9) sd_X5_133 rfl hl.1 (j_hR hRf hRl rfl rfl) (Nat.le_of_ble_eq_true rfl) dX5_shrink_94 (fun H locs jw => ?_)
  refine lv_istore (lv' := [(9, .int xx9), (8, .int xx8), (7, .int vv7), (6, .int vv6), (5, .int vv5), (4, .int vv4), (3, .int vv3), (2, .int vv2), (0, .ref (ad o)), (1, .int p1)]) hx hb dX5_shrink_97 hl (by decide) rfl (fun ls hl => ?_)
  refine lv_iload_n hx hb dX5_shrink_99 rfl (lv_at hl 9 rfl) ?_
  refine lv_istore (lv' := [(10, .int p1), (9, .int xx9), (8, .int xx8), (7, .int vv7), (6, .int vv6), (5, .int vv5), (4, .int vv4), (3, .int vv3), (2, .int vv2), (0, .ref (ad o)), (1, .int p1)]) hx hb dX5_shrink_100 hl (by decide) rfl (fun ls hl => ?_)
  refine lv_iload hx hb dX5_shrink_102 (lv_at hl 2 rfl) ?_
  obtain ⟨G11, eG11, hG11, hE⟩ := j_ctxB hG0 hE
  have J11 : ∀ (vv19 : Int32) (mm20 : JM)  (H : Heap) (locs : List Loc) (ls : Array Slot), G11 (some (vv19, mm20)) = some r → JW D Y ty ad A s.heap mm20 H locs → lv_has ls 11 [(10, .int vv19), (9, .int xx9), (7, .int vv7), (5, .int vv5), (3, .int vv3), (0, .ref (ad o))] → W p l e R s m args below meth c H locs 0 0 Q (F0 m 181 ls []) := by
    intro vv19 mm20  H locs ls hE jw hl
    replace hE := j_popB eG11 hE
    try dsimp only at hE
    refine lv_aload_n hx hb dX5_shrink_181 rfl (lv_at hl 5 rfl) ?_
    refine jg_5_6 jc jw ho wd_4_106 dX5_shrink_182 ?_
    have k21 := j_sub hY ho 6 (f := 4) rfl (by decide) (by decide) (by decide)
    refine lv_iload hx hb dX5_shrink_185 (lv_at hl 0 rfl) ?_
    obtain ⟨xx22, exx22, hE⟩ := j_lv hE
    try dsimp only at hE
    refine jc_vv [.int vv19] [] jc jw hA k21 (by decide) rfl (c_X4_push hY k21 (M := mm20) exx22.symm) sd_X5_119 rfl hl.1 (j_hR hRf hRl rfl rfl) (Nat.le_of_ble_eq_true rfl) dX5_shrink_187 (fun H locs jw => ?_)
    refine lv_iload hx hb dX5_shrink_190 (lv_at hl 1 rfl) ?_
    refine lv_if_le (tgt := 251) hx hb dX5_shrink_192 (by decide) (fun c23 => ?_) (fun c23 => ?_)
    · rw [if_pos c23] at hE
      exact kr _ _ _ _ _ (Option.some.inj (j_ret eG0 hE)) jw dX5_shrink_251
    · rw [if_neg c23] at hE
      refine lv_aload_n hx hb dX5_shrink_195 rfl (lv_at hl 5 rfl) ?_
      refine jg_5_5 jc jw ho wd_4_105 dX5_shrink_196 ?_
      refine lv_iload hx hb dX5_shrink_199 (lv_at hl 0 rfl) ?_
      refine lv_iconst (v := 4) hx hb dX5_shrink_201 (by decide) ?_
      refine lv_iload hx hb dX5_shrink_202 (lv_at hl 3 rfl) ?_
      refine lv_iload hx hb dX5_shrink_204 (lv_at hl 1 rfl) ?_
      refine lv_isub hx hb dX5_shrink_206 ?_
      obtain ⟨xx24, exx24, hE⟩ := j_lv hE
      try dsimp only at hE
      refine jc_vv [.int vv19, .int (4 : Int32), .int (vv5 - xx9)] [] jc jw hA k1 (by decide) rfl (c_X8_put hY k1 (M := xx22) exx24.symm) sd_X5_100 rfl hl.1 (j_hR hRf hRl rfl rfl) (Nat.le_of_ble_eq_true rfl) dX5_shrink_207 (fun H locs jw => ?_)
      refine lv_aload_n hx hb dX5_shrink_210 rfl (lv_at hl 5 rfl) ?_
      refine jg_5_5 jc jw ho wd_4_105 dX5_shrink_211 ?_
      refine lv_iload hx hb dX5_shrink_214 (lv_at hl 0 rfl) ?_
      refine lv_bipush (v := 6) hx hb dX5_shrink_216 (by decide) ?_
      refine lv_iload hx hb dX5_shrink_218 (lv_at hl 2 rfl) ?_
      refine lv_iload hx hb dX5_shrink_220 (lv_at hl 1 rfl) ?_
      refine lv_isub hx hb dX5_shrink_222 ?_
      obtain ⟨xx25, exx25, hE⟩ := j_lv hE
      try dsimp only at hE
      refine jc_vv [.int vv19, .int (6 : Int32), .int (vv7 - xx9)] [] jc jw hA k1 (by decide) rfl (c_X8_put hY k1 (M := xx24) exx25.symm) sd_X5_100 rfl hl.1 (j_hR hRf hRl rfl rfl) (Nat.le_of_ble_eq_true rfl) dX5_shrink_223 (fun H locs jw => ?_)
      refine lv_aload_n hx hb dX5_shrink_226 rfl (lv_at hl 5 rfl) ?_
      refine lv_aload_n hx hb dX5_shrink_227 rfl (lv_at hl 5 rfl) ?_
      refine lv_iload_n hx hb dX5_shrink_228 rfl (lv_at hl 4 rfl) ?_
      refine lv_iload_n hx hb dX5_shrink_229 rfl (lv_at hl 4 rfl) ?_
      refine lv_iload hx hb dX5_shrink_230 (lv_at hl 3 rfl) ?_
      refine lv_iload hx hb dX5_shrink_232 (lv_at hl 1 rfl) ?_
      refine lv_isub hx hb dX5_shrink_234 ?_
      refine lv_iload hx hb dX5_shrink_235 (lv_at hl 3 rfl) ?_
      refine lv_iload hx hb dX5_shrink_237 (lv_at hl 2 rfl) ?_
      refine lv_iload hx hb dX5_shrink_239 (lv_at hl 1 rfl) ?_
      refine lv_isub hx hb dX5_shrink_241 ?_
      refine lv_iload hx hb dX5_shrink_242 (lv_at hl 2 rfl) ?_
      obtain ⟨xx26, exx26, hE⟩ := j_bd hG0 hE
      try dsimp only at hE
      refine jc_vi [.int vv3, .int vv3, .int (vv5 - xx9), .int vv5, .int (vv7 - xx9), .int vv7] [.ref (ad o)] jc jw hA ho (by decide) rfl (c_X5_addPart hY ho (M := xx25) exx26) sd_X5_82 rfl hl.1 (j_hR hRf hRl rfl rfl) (Nat.le_of_ble_eq_true rfl) dX5_shrink_244 (fun H locs jw => ?_)
      refine lv_iconst (v := 3) hx hb dX5_shrink_247 (by decide) ?_
      obtain ⟨xx27, exx27, hE⟩ := j_lv hE
      try dsimp only at hE
      refine jc_vv [.int xx26.1, .int (3 : Int32)] [] jc jw hA ho (by decide) rfl (c_X5_setKind hY ho (M := xx26.2) exx27.symm) sd_X5_110 rfl hl.1 (j_hR hRf hRl rfl rfl) (Nat.le_of_ble_eq_true rfl) dX5_shrink_248 (fun H locs jw => ?_)
      exact kr _ _ _ _ _ (Option.some.inj (j_ret eG0 hE)) jw dX5_shrink_251
  refine lv_if_le (tgt := 181) hx hb dX5_shrink_104 (by decide) (fun c10 => ?_) (fun c10 => ?_)
  · rw [if_pos c10] at hE
    exact J11 p1 M  H locs ls hE jw (lv_sub hl [0, 1, 3, 5, 7, 9] rfl)
  · rw [if_neg c10] at hE
    refine lv_aload_n hx hb dX5_shrink_107 rfl (lv_at hl 9 rfl) ?_
    refine lv_iload_n hx hb dX5_shrink_108 rfl (lv_at hl 10 rfl) ?_
    refine lv_iconst (v := 3) hx hb dX5_shrink_109 (by decide) ?_
    obtain ⟨xx12, exx12, hE⟩ := j_lv hE
    try dsimp only at hE
    refine jc_vv [.int p1, .int (3 : Int32)] [] jc jw hA ho (by decide) rfl (c_X5_setKind hY ho (M := M) exx12.symm) sd_X5_110 rfl hl.1 (j_hR hRf hRl rfl rfl) (Nat.le_of_ble_eq_true rfl) dX5_shrink_110 (fun H locs jw => ?_)
    refine lv_aload_n hx hb dX5_shrink_113 rfl (lv_at hl 9 rfl) ?_
    refine jg_5_5 jc jw ho wd_4_105 dX5_shrink_114 ?_
    refine lv_iload_n hx hb dX5_shrink_117 rfl (lv_at hl 10 rfl) ?_
    refine lv_iconst (v := 2) hx hb dX5_shrink_118 (by decide) ?_
    refine lv_iload_n hx hb dX5_shrink_119 rfl (lv_at hl 8 rfl) ?_
    obtain ⟨xx13, exx13, hE⟩ := j_lv hE
    try dsimp only at hE
    refine jc_vv [.int p1, .int (2 : Int32), .int vv2] [] jc jw hA k1 (by decide) rfl (c_X8_put hY k1 (M := xx12) exx13.symm) sd_X5_100 rfl hl.1 (j_hR hRf hRl rfl rfl) (Nat.le_of_ble_eq_true rfl) dX5_shrink_120 (fun H locs jw => ?_)
    refine lv_aload_n hx hb dX5_shrink_123 rfl (lv_at hl 9 rfl) ?_
    refine jg_5_5 jc jw ho wd_4_105 dX5_shrink_124 ?_
    refine lv_iload_n hx hb dX5_shrink_127 rfl (lv_at hl 10 rfl) ?_
    refine lv_iconst (v := 4) hx hb dX5_shrink_128 (by decide) ?_
    refine lv_iload hx hb dX5_shrink_129 (lv_at hl 6 rfl) ?_
    refine lv_iload hx hb dX5_shrink_131 (lv_at hl 2 rfl) ?_
    refine lv_iadd hx hb dX5_shrink_133 ?_
    obtain ⟨xx14, exx14, hE⟩ := j_lv hE
    try dsimp only at hE
    refine jc_vv [.int p1, .int (4 : Int32), .int (vv4 + xx8)] [] jc jw hA k1 (by decide) rfl (c_X8_put hY k1 (M := xx13) exx14.symm) sd_X5_100 rfl hl.1 (j_hR hRf hRl rfl rfl) (Nat.le_of_ble_eq_true rfl) dX5_shrink_134 (fun H locs jw => ?_)
    refine lv_aload_n hx hb dX5_shrink_137 rfl (lv_at hl 9 rfl) ?_
    refine jg_5_5 jc jw ho wd_4_105 dX5_shrink_138 ?_
    refine lv_iload_n hx hb dX5_shrink_141 rfl (lv_at hl 10 rfl) ?_
    refine lv_bipush (v := 6) hx hb dX5_shrink_142 (by decide) ?_
    refine lv_iload hx hb dX5_shrink_144 (lv_at hl 4 rfl) ?_
    refine lv_iload hx hb dX5_shrink_146 (lv_at hl 2 rfl) ?_
    refine lv_iadd hx hb dX5_shrink_148 ?_
    obtain ⟨xx15, exx15, hE⟩ := j_lv hE
    try dsimp only at hE
    refine jc_vv [.int p1, .int (6 : Int32), .int (vv6 + xx8)] [] jc jw hA k1 (by decide) rfl (c_X8_put hY k1 (M := xx14) exx15.symm) sd_X5_100 rfl hl.1 (j_hR hRf hRl rfl rfl) (Nat.le_of_ble_eq_true rfl) dX5_shrink_149 (fun H locs jw => ?_)
    refine lv_aload_n hx hb dX5_shrink_152 rfl (lv_at hl 9 rfl) ?_
    refine lv_iload_n hx hb dX5_shrink_153 rfl (lv_at hl 8 rfl) ?_
    refine lv_iload_n hx hb dX5_shrink_154 rfl (lv_at hl 7 rfl) ?_
    refine lv_iload hx hb dX5_shrink_155 (lv_at hl 6 rfl) ?_
    refine lv_iload hx hb dX5_shrink_157 (lv_at hl 2 rfl) ?_
    refine lv_iadd hx hb dX5_shrink_159 ?_
    refine lv_iload hx hb dX5_shrink_160 (lv_at hl 5 rfl) ?_
    refine lv_iload hx hb dX5_shrink_162 (lv_at hl 4 rfl) ?_
    refine lv_iload hx hb dX5_shrink_164 (lv_at hl 2 rfl) ?_
    refine lv_iadd hx hb dX5_shrink_166 ?_
    refine lv_iload hx hb dX5_shrink_167 (lv_at hl 3 rfl) ?_
    obtain ⟨xx16, exx16, hE⟩ := j_bd hG11 hE
    try dsimp only at hE
    refine jc_vi [.int vv2, .int vv3, .int (vv4 + xx8), .int vv5, .int (vv6 + xx8), .int vv7] [] jc jw hA ho (by decide) rfl (c_X5_addPart hY ho (M := xx15) exx16) sd_X5_82 rfl hl.1 (j_hR hRf hRl rfl rfl) (Nat.le_of_ble_eq_true rfl) dX5_shrink_169 (fun H locs jw => ?_)
    refine lv_topi (fun vv17 evv17 => ?_)
    replace hE := j_lu hE evv17
    try dsimp only at hE
    refine lv_istore (lv' := [(10, .int vv17), (9, .int xx9), (8, .int xx8), (7, .int vv7), (6, .int vv6), (5, .int vv5), (4, .int vv4), (3, .int vv3), (2, .int vv2), (0, .ref (ad o)), (1, .int p1)]) hx hb dX5_shrink_172 hl (by decide) rfl (fun ls hl => ?_)
    refine lv_aload_n hx hb dX5_shrink_174 rfl (lv_at hl 9 rfl) ?_
    refine lv_iload hx hb dX5_shrink_175 (lv_at hl 0 rfl) ?_
    refine lv_iconst (v := 4) hx hb dX5_shrink_177 (by decide) ?_
    obtain ⟨xx18, exx18, hE⟩ := j_lv hE
    try dsimp only at hE
    refine jc_vv [.int vv17, .int (4 : Int32)] [] jc jw hA ho (by decide) rfl (c_X5_setKind hY ho (M := xx16.2) exx18.symm) sd_X5_110 rfl hl.1 (j_hR hRf hRl rfl rfl) (Nat.le_of_ble_eq_true rfl) dX5_shrink_178 (fun H locs jw => ?_)
    exact J11 vv17 xx18  H locs ls hE jw (lv_sub hl [0, 1, 3, 5, 7, 9] rfl)
def s_X5_addRegion (Y : JY) (M : JM) (o : Nat) (p1 : Int32) (p2 : Int32) : Option (JM) := if p1 = (-1 : Int32) then (some M) else ((s_X5_kindOf Y M o p1).bind fun xx2 => lt_ (s_X5_setKind Y M o p1 xx2) fun xx3 => if xx2 = (4 : Int32) then (if p2 = 0 then (lt_ (s_X4_push Y xx3 (j_rf Y o 6) p1) fun xx7 => some xx7) else ((s_X5_shrink Y xx3 o p1).bind fun xx8 => some xx8)) else (some xx3))
set_option maxRecDepth 100000 in
set_option maxHeartbeats 4000000 in
theorem c_X5_addRegion {D : va_G} {Y : JY} {ty : Nat → ClassId} {ad : Nat → Nat} {sz : Nat} {l : Launch} {M : JM} (hY : j_ok Y) {o : Nat} {p1 : Int32} {p2 : Int32} (ho : j_kd Y o = 5) {r : JM} (hE : s_X5_addRegion Y M o p1 p2 = some r) : JMv D Y ty ad sz l yX5_addRegion cX5_addRegion 4 4 104 [.ref (ad o), .int p1, .int p2] M r := by
  refine j_ofV hY (by decide +kernel) (Nat.le_of_ble_eq_true rfl) (fun p e s m below meth c args R Q A hRf hRl hA jc jw kr ls hl => ?_)
  have hx := jc.1
  have hb := jc.2.1
  have hl : lv_has ls 4 [(0, .ref (ad o)), (1, .int p1), (2, .int p2)] := hl
  unfold s_X5_addRegion at hE
  obtain ⟨G0, eG0, hG0, hE⟩ := j_F0o hE
  refine lv_iload_n hx hb dX5_addRegion_0 rfl (lv_at hl 1 rfl) ?_
  refine lv_iconst (v := -1) hx hb dX5_addRegion_1 (by decide) ?_
  refine lv_icmp_ne (tgt := 6) hx hb dX5_addRegion_2 (by decide) (fun c1 => ?_) (fun c1 => ?_)
  · rw [if_neg c1] at hE
    refine lv_aload_n hx hb dX5_addRegion_6 rfl (lv_at hl 0 rfl) ?_
    refine lv_iload_n hx hb dX5_addRegion_7 rfl (lv_at hl 1 rfl) ?_
    obtain ⟨xx2, exx2, hE⟩ := j_bd hG0 hE
    try dsimp only at hE
    refine jc_vi [.int p1] [] jc jw hA ho (by decide) rfl (c_X5_kindOf hY ho (M := M) exx2) sd_X5_113 rfl hl.1 (j_hR hRf hRl rfl rfl) (Nat.le_of_ble_eq_true rfl) dX5_addRegion_8 (fun H locs jw => ?_)
    refine lv_istore_n (lv' := [(3, .int xx2), (0, .ref (ad o)), (1, .int p1), (2, .int p2)]) hx hb dX5_addRegion_11 rfl hl (by decide) rfl (fun ls hl => ?_)
    refine lv_aload_n hx hb dX5_addRegion_12 rfl (lv_at hl 1 rfl) ?_
    refine lv_iload_n hx hb dX5_addRegion_13 rfl (lv_at hl 2 rfl) ?_
    refine lv_iload_n hx hb dX5_addRegion_14 rfl (lv_at hl 0 rfl) ?_
    obtain ⟨xx3, exx3, hE⟩ := j_lv hE
    try dsimp only at hE
    refine jc_vv [.int p1, .int xx2] [] jc jw hA ho (by decide) rfl (c_X5_setKind hY ho (M := M) exx3.symm) sd_X5_110 rfl hl.1 (j_hR hRf hRl rfl rfl) (Nat.le_of_ble_eq_true rfl) dX5_addRegion_15 (fun H locs jw => ?_)
    refine lv_iload_n hx hb dX5_addRegion_18 rfl (lv_at hl 0 rfl) ?_
    refine lv_iconst (v := 4) hx hb dX5_addRegion_19 (by decide) ?_
    refine lv_icmp_ne (tgt := 43) hx hb dX5_addRegion_20 (by decide) (fun c4 => ?_) (fun c4 => ?_)
    · rw [if_neg c4] at hE
      exact kr _ _ _ _ _ (Option.some.inj (j_ret eG0 hE)) jw dX5_addRegion_43
    · rw [if_pos c4] at hE
      refine lv_iload_n hx hb dX5_addRegion_23 rfl (lv_at hl 3 rfl) ?_
      refine lv_if_eq (tgt := 35) hx hb dX5_addRegion_24 (by decide) (fun c5 => ?_) (fun c5 => ?_)
      · rw [if_pos c5] at hE
        refine lv_aload_n hx hb dX5_addRegion_35 rfl (lv_at hl 1 rfl) ?_
        refine jg_5_6 jc jw ho wd_4_106 dX5_addRegion_36 ?_
        have k6 := j_sub hY ho 6 (f := 4) rfl (by decide) (by decide) (by decide)
        refine lv_iload_n hx hb dX5_addRegion_39 rfl (lv_at hl 2 rfl) ?_
        obtain ⟨xx7, exx7, hE⟩ := j_lv hE
        try dsimp only at hE
        refine jc_vv [.int p1] [] jc jw hA k6 (by decide) rfl (c_X4_push hY k6 (M := xx3) exx7.symm) sd_X5_119 rfl hl.1 (j_hR hRf hRl rfl rfl) (Nat.le_of_ble_eq_true rfl) dX5_addRegion_40 (fun H locs jw => ?_)
        exact kr _ _ _ _ _ (Option.some.inj (j_ret eG0 hE)) jw dX5_addRegion_43
      · rw [if_neg c5] at hE
        refine lv_aload_n hx hb dX5_addRegion_27 rfl (lv_at hl 1 rfl) ?_
        refine lv_iload_n hx hb dX5_addRegion_28 rfl (lv_at hl 2 rfl) ?_
        obtain ⟨xx8, exx8, hE⟩ := j_bd hG0 hE
        try dsimp only at hE
        refine jc_vv [.int p1] [] jc jw hA ho (by decide) rfl (c_X5_shrink hY ho (M := xx3) exx8) sd_X5_116 rfl hl.1 (j_hR hRf hRl rfl rfl) (Nat.le_of_ble_eq_true rfl) dX5_addRegion_29 (fun H locs jw => ?_)
        refine lv_goto (tgt := 43) hx hb dX5_addRegion_32 (by decide) ?_
        exact kr _ _ _ _ _ (Option.some.inj (j_ret eG0 hE)) jw dX5_addRegion_43
  · rw [if_pos c1] at hE
    exact kr _ _ _ _ _ (Option.some.inj (j_ret eG0 hE)) jw dX5_addRegion_5
def s_X5_addStable (Y : JY) (M : JM) (o : Nat) (p1 : Int32) (p2 : Int32) (p3 : Int32) : Option (JM) := lt_ ((s_X8_rows Y M (j_rf Y o 5)) - (1 : Int32)) fun vv2 => if (s_X8_at Y M (j_rf Y o 5) vv2 (0 : Int32)) = 0 then (lt_ (s_X8_put Y M (j_rf Y o 5) vv2 (2 : Int32) (p1 + (1 : Int32))) fun xx4 => lt_ (s_X8_put Y xx4 (j_rf Y o 5) vv2 (4 : Int32) (p2 + (1 : Int32))) fun xx5 => lt_ (s_X8_put Y xx5 (j_rf Y o 5) vv2 (6 : Int32) (p3 + (1 : Int32))) fun xx6 => some xx6) else ((s_X5_addPart Y M o p1 (p1 + (1 : Int32)) p2 (p2 + (1 : Int32)) p3 (p3 + (1 : Int32))).bind fun xx7 => lt_ (s_X5_setKind Y xx7.2 o xx7.1 (0 : Int32)) fun xx8 => some xx8)
set_option maxRecDepth 100000 in
set_option maxHeartbeats 4000000 in
theorem c_X5_addStable {D : va_G} {Y : JY} {ty : Nat → ClassId} {ad : Nat → Nat} {sz : Nat} {l : Launch} {M : JM} (hY : j_ok Y) {o : Nat} {p1 : Int32} {p2 : Int32} {p3 : Int32} (ho : j_kd Y o = 5) {r : JM} (hE : s_X5_addStable Y M o p1 p2 p3 = some r) : JMv D Y ty ad sz l yX5_addStable cX5_addStable 5 3 74 [.ref (ad o), .int p1, .int p2, .int p3] M r := by
  refine j_ofV hY (by decide +kernel) (Nat.le_of_ble_eq_true rfl) (fun p e s m below meth c args R Q A hRf hRl hA jc jw kr ls hl => ?_)
  have hx := jc.1
  have hb := jc.2.1
  have hl : lv_has ls 5 [(0, .ref (ad o)), (1, .int p1), (2, .int p2), (3, .int p3)] := hl
  unfold s_X5_addStable at hE
  obtain ⟨G0, eG0, hG0, hE⟩ := j_F0o hE
  refine lv_aload_n hx hb dX5_addStable_0 rfl (lv_at hl 0 rfl) ?_
  refine jg_5_5 jc jw ho wd_4_105 dX5_addStable_1 ?_
  have k1 := j_sub hY ho 5 (f := 8) rfl (by decide) (by decide) (by decide)
  refine jc_vi [] [] jc jw hA k1 (by decide) rfl (c_X8_rows hY k1 (M := M) rfl) sd_X5_103 rfl hl.1 (j_hR hRf hRl rfl rfl) (Nat.le_of_ble_eq_true rfl) dX5_addStable_4 (fun H locs jw => ?_)
  refine lv_iconst (v := 1) hx hb dX5_addStable_7 (by decide) ?_
  refine lv_isub hx hb dX5_addStable_8 ?_
  refine lv_topi (fun vv2 evv2 => ?_)
  replace hE := j_lu hE evv2
  try dsimp only at hE
  refine lv_istore (lv' := [(4, .int vv2), (0, .ref (ad o)), (1, .int p1), (2, .int p2), (3, .int p3)]) hx hb dX5_addStable_9 hl (by decide) rfl (fun ls hl => ?_)
  refine lv_aload_n hx hb dX5_addStable_11 rfl (lv_at hl 1 rfl) ?_
  refine jg_5_5 jc jw ho wd_4_105 dX5_addStable_12 ?_
  refine lv_iload hx hb dX5_addStable_15 (lv_at hl 0 rfl) ?_
  refine lv_iconst (v := 0) hx hb dX5_addStable_17 (by decide) ?_
  refine jc_vi [.int vv2, .int (0 : Int32)] [] jc jw hA k1 (by decide) rfl (c_X8_at hY k1 (M := M) rfl) sd_X5_106 rfl hl.1 (j_hR hRf hRl rfl rfl) (Nat.le_of_ble_eq_true rfl) dX5_addStable_18 (fun H locs jw => ?_)
  refine lv_if_ne (tgt := 67) hx hb dX5_addStable_21 (by decide) (fun c3 => ?_) (fun c3 => ?_)
  · rw [if_neg c3] at hE
    refine lv_aload_n hx hb dX5_addStable_67 rfl (lv_at hl 1 rfl) ?_
    refine lv_aload_n hx hb dX5_addStable_68 rfl (lv_at hl 1 rfl) ?_
    refine lv_iload_n hx hb dX5_addStable_69 rfl (lv_at hl 2 rfl) ?_
    refine lv_iload_n hx hb dX5_addStable_70 rfl (lv_at hl 2 rfl) ?_
    refine lv_iconst (v := 1) hx hb dX5_addStable_71 (by decide) ?_
    refine lv_iadd hx hb dX5_addStable_72 ?_
    refine lv_iload_n hx hb dX5_addStable_73 rfl (lv_at hl 3 rfl) ?_
    refine lv_iload_n hx hb dX5_addStable_74 rfl (lv_at hl 3 rfl) ?_
    refine lv_iconst (v := 1) hx hb dX5_addStable_75 (by decide) ?_
    refine lv_iadd hx hb dX5_addStable_76 ?_
    refine lv_iload_n hx hb dX5_addStable_77 rfl (lv_at hl 4 rfl) ?_
    refine lv_iload_n hx hb dX5_addStable_78 rfl (lv_at hl 4 rfl) ?_
    refine lv_iconst (v := 1) hx hb dX5_addStable_79 (by decide) ?_
    refine lv_iadd hx hb dX5_addStable_80 ?_
    obtain ⟨xx7, exx7, hE⟩ := j_bd hG0 hE
    try dsimp only at hE
    refine jc_vi [.int p1, .int (p1 + (1 : Int32)), .int p2, .int (p2 + (1 : Int32)), .int p3, .int (p3 + (1 : Int32))] [.ref (ad o)] jc jw hA ho (by decide) rfl (c_X5_addPart hY ho (M := M) exx7) sd_X5_82 rfl hl.1 (j_hR hRf hRl rfl rfl) (Nat.le_of_ble_eq_true rfl) dX5_addStable_81 (fun H locs jw => ?_)
    refine lv_iconst (v := 0) hx hb dX5_addStable_84 (by decide) ?_
    obtain ⟨xx8, exx8, hE⟩ := j_lv hE
    try dsimp only at hE
    refine jc_vv [.int xx7.1, .int (0 : Int32)] [] jc jw hA ho (by decide) rfl (c_X5_setKind hY ho (M := xx7.2) exx8.symm) sd_X5_110 rfl hl.1 (j_hR hRf hRl rfl rfl) (Nat.le_of_ble_eq_true rfl) dX5_addStable_85 (fun H locs jw => ?_)
    exact kr _ _ _ _ _ (Option.some.inj (j_ret eG0 hE)) jw dX5_addStable_88
  · rw [if_pos c3] at hE
    refine lv_aload_n hx hb dX5_addStable_24 rfl (lv_at hl 1 rfl) ?_
    refine jg_5_5 jc jw ho wd_4_105 dX5_addStable_25 ?_
    refine lv_iload hx hb dX5_addStable_28 (lv_at hl 0 rfl) ?_
    refine lv_iconst (v := 2) hx hb dX5_addStable_30 (by decide) ?_
    refine lv_iload_n hx hb dX5_addStable_31 rfl (lv_at hl 2 rfl) ?_
    refine lv_iconst (v := 1) hx hb dX5_addStable_32 (by decide) ?_
    refine lv_iadd hx hb dX5_addStable_33 ?_
    obtain ⟨xx4, exx4, hE⟩ := j_lv hE
    try dsimp only at hE
    refine jc_vv [.int vv2, .int (2 : Int32), .int (p1 + (1 : Int32))] [] jc jw hA k1 (by decide) rfl (c_X8_put hY k1 (M := M) exx4.symm) sd_X5_100 rfl hl.1 (j_hR hRf hRl rfl rfl) (Nat.le_of_ble_eq_true rfl) dX5_addStable_34 (fun H locs jw => ?_)
    refine lv_aload_n hx hb dX5_addStable_37 rfl (lv_at hl 1 rfl) ?_
    refine jg_5_5 jc jw ho wd_4_105 dX5_addStable_38 ?_
    refine lv_iload hx hb dX5_addStable_41 (lv_at hl 0 rfl) ?_
    refine lv_iconst (v := 4) hx hb dX5_addStable_43 (by decide) ?_
    refine lv_iload_n hx hb dX5_addStable_44 rfl (lv_at hl 3 rfl) ?_
    refine lv_iconst (v := 1) hx hb dX5_addStable_45 (by decide) ?_
    refine lv_iadd hx hb dX5_addStable_46 ?_
    obtain ⟨xx5, exx5, hE⟩ := j_lv hE
    try dsimp only at hE
    refine jc_vv [.int vv2, .int (4 : Int32), .int (p2 + (1 : Int32))] [] jc jw hA k1 (by decide) rfl (c_X8_put hY k1 (M := xx4) exx5.symm) sd_X5_100 rfl hl.1 (j_hR hRf hRl rfl rfl) (Nat.le_of_ble_eq_true rfl) dX5_addStable_47 (fun H locs jw => ?_)
    refine lv_aload_n hx hb dX5_addStable_50 rfl (lv_at hl 1 rfl) ?_
    refine jg_5_5 jc jw ho wd_4_105 dX5_addStable_51 ?_
    refine lv_iload hx hb dX5_addStable_54 (lv_at hl 0 rfl) ?_
    refine lv_bipush (v := 6) hx hb dX5_addStable_56 (by decide) ?_
    refine lv_iload_n hx hb dX5_addStable_58 rfl (lv_at hl 4 rfl) ?_
    refine lv_iconst (v := 1) hx hb dX5_addStable_59 (by decide) ?_
    refine lv_iadd hx hb dX5_addStable_60 ?_
    obtain ⟨xx6, exx6, hE⟩ := j_lv hE
    try dsimp only at hE
    refine jc_vv [.int vv2, .int (6 : Int32), .int (p3 + (1 : Int32))] [] jc jw hA k1 (by decide) rfl (c_X8_put hY k1 (M := xx5) exx6.symm) sd_X5_100 rfl hl.1 (j_hR hRf hRl rfl rfl) (Nat.le_of_ble_eq_true rfl) dX5_addStable_61 (fun H locs jw => ?_)
    refine lv_goto (tgt := 88) hx hb dX5_addStable_64 (by decide) ?_
    exact kr _ _ _ _ _ (Option.some.inj (j_ret eG0 hE)) jw dX5_addStable_88
def s_X5_writeLeft (Y : JY) (M : JM) (o : Nat) (p1 : Int32) : Option (JM) := (s_X4_pushPart Y M (j_rf Y o 7) (j_rf Y o 1) (s_X8_at Y M (j_rf Y o 5) p1 (3 : Int32)) (s_X8_at Y M (j_rf Y o 5) p1 (4 : Int32))).bind fun xx4 => some xx4
set_option maxRecDepth 100000 in
set_option maxHeartbeats 4000000 in
theorem c_X5_writeLeft {D : va_G} {Y : JY} {ty : Nat → ClassId} {ad : Nat → Nat} {sz : Nat} {l : Launch} {M : JM} (hY : j_ok Y) {o : Nat} {p1 : Int32} (ho : j_kd Y o = 5) {r : JM} (hE : s_X5_writeLeft Y M o p1 = some r) : JMv D Y ty ad sz l yX5_writeLeft cX5_writeLeft 2 2 45 [.ref (ad o), .int p1] M r := by
  refine j_ofV hY (by decide +kernel) (Nat.le_of_ble_eq_true rfl) (fun p e s m below meth c args R Q A hRf hRl hA jc jw kr ls hl => ?_)
  have hx := jc.1
  have hb := jc.2.1
  have hl : lv_has ls 2 [(0, .ref (ad o)), (1, .int p1)] := hl
  unfold s_X5_writeLeft at hE
  obtain ⟨G0, eG0, hG0, hE⟩ := j_F0o hE
  refine lv_aload_n hx hb dX5_writeLeft_0 rfl (lv_at hl 0 rfl) ?_
  refine jg_5_7 jc jw ho wd_4_107 dX5_writeLeft_1 ?_
  have k1 := j_sub hY ho 7 (f := 4) rfl (by decide) (by decide) (by decide)
  refine lv_aload_n hx hb dX5_writeLeft_4 rfl (lv_at hl 0 rfl) ?_
  refine jg_5_1 jc jw ho wd_4_101 dX5_writeLeft_5 ?_
  have k2 := j_sub hY ho 1 (f := 4) rfl (by decide) (by decide) (by decide)
  refine lv_aload_n hx hb dX5_writeLeft_8 rfl (lv_at hl 0 rfl) ?_
  refine jg_5_5 jc jw ho wd_4_105 dX5_writeLeft_9 ?_
  have k3 := j_sub hY ho 5 (f := 8) rfl (by decide) (by decide) (by decide)
  refine lv_iload_n hx hb dX5_writeLeft_12 rfl (lv_at hl 1 rfl) ?_
  refine lv_iconst (v := 3) hx hb dX5_writeLeft_13 (by decide) ?_
  refine jc_vi [.int p1, .int (3 : Int32)] [.ref (ad (j_rf Y o 1)), .ref (ad (j_rf Y o 7))] jc jw hA k3 (by decide) rfl (c_X8_at hY k3 (M := M) rfl) sd_X5_106 rfl hl.1 (j_hR hRf hRl rfl rfl) (Nat.le_of_ble_eq_true rfl) dX5_writeLeft_14 (fun H locs jw => ?_)
  refine lv_aload_n hx hb dX5_writeLeft_17 rfl (lv_at hl 0 rfl) ?_
  refine jg_5_5 jc jw ho wd_4_105 dX5_writeLeft_18 ?_
  refine lv_iload_n hx hb dX5_writeLeft_21 rfl (lv_at hl 1 rfl) ?_
  refine lv_iconst (v := 4) hx hb dX5_writeLeft_22 (by decide) ?_
  refine jc_vi [.int p1, .int (4 : Int32)] [.int (s_X8_at Y M (j_rf Y o 5) p1 (3 : Int32)), .ref (ad (j_rf Y o 1)), .ref (ad (j_rf Y o 7))] jc jw hA k3 (by decide) rfl (c_X8_at hY k3 (M := M) rfl) sd_X5_106 rfl hl.1 (j_hR hRf hRl rfl rfl) (Nat.le_of_ble_eq_true rfl) dX5_writeLeft_23 (fun H locs jw => ?_)
  obtain ⟨xx4, exx4, hE⟩ := j_bd hG0 hE
  try dsimp only at hE
  refine jc_vv [.ref (ad (j_rf Y o 1)), .int (s_X8_at Y M (j_rf Y o 5) p1 (3 : Int32)), .int (s_X8_at Y M (j_rf Y o 5) p1 (4 : Int32))] [] jc jw hA k1 (by decide) rfl (c_X4_pushPart hY k1 k2 (M := M) exx4) sd_X5_155 rfl hl.1 (j_hR hRf hRl rfl rfl) (Nat.le_of_ble_eq_true rfl) dX5_writeLeft_26 (fun H locs jw => ?_)
  exact kr _ _ _ _ _ (Option.some.inj (j_ret eG0 hE)) jw dX5_writeLeft_29
def s_X5_writeRight (Y : JY) (M : JM) (o : Nat) (p1 : Int32) : Option (JM) := (s_X4_pushPart Y M (j_rf Y o 7) (j_rf Y o 2) (s_X8_at Y M (j_rf Y o 5) p1 (5 : Int32)) (s_X8_at Y M (j_rf Y o 5) p1 (6 : Int32))).bind fun xx4 => some xx4
set_option maxRecDepth 100000 in
set_option maxHeartbeats 4000000 in
theorem c_X5_writeRight {D : va_G} {Y : JY} {ty : Nat → ClassId} {ad : Nat → Nat} {sz : Nat} {l : Launch} {M : JM} (hY : j_ok Y) {o : Nat} {p1 : Int32} (ho : j_kd Y o = 5) {r : JM} (hE : s_X5_writeRight Y M o p1 = some r) : JMv D Y ty ad sz l yX5_writeRight cX5_writeRight 2 2 45 [.ref (ad o), .int p1] M r := by
  refine j_ofV hY (by decide +kernel) (Nat.le_of_ble_eq_true rfl) (fun p e s m below meth c args R Q A hRf hRl hA jc jw kr ls hl => ?_)
  have hx := jc.1
  have hb := jc.2.1
  have hl : lv_has ls 2 [(0, .ref (ad o)), (1, .int p1)] := hl
  unfold s_X5_writeRight at hE
  obtain ⟨G0, eG0, hG0, hE⟩ := j_F0o hE
  refine lv_aload_n hx hb dX5_writeRight_0 rfl (lv_at hl 0 rfl) ?_
  refine jg_5_7 jc jw ho wd_4_107 dX5_writeRight_1 ?_
  have k1 := j_sub hY ho 7 (f := 4) rfl (by decide) (by decide) (by decide)
  refine lv_aload_n hx hb dX5_writeRight_4 rfl (lv_at hl 0 rfl) ?_
  refine jg_5_2 jc jw ho wd_4_102 dX5_writeRight_5 ?_
  have k2 := j_sub hY ho 2 (f := 4) rfl (by decide) (by decide) (by decide)
  refine lv_aload_n hx hb dX5_writeRight_8 rfl (lv_at hl 0 rfl) ?_
  refine jg_5_5 jc jw ho wd_4_105 dX5_writeRight_9 ?_
  have k3 := j_sub hY ho 5 (f := 8) rfl (by decide) (by decide) (by decide)
  refine lv_iload_n hx hb dX5_writeRight_12 rfl (lv_at hl 1 rfl) ?_
  refine lv_iconst (v := 5) hx hb dX5_writeRight_13 (by decide) ?_
  refine jc_vi [.int p1, .int (5 : Int32)] [.ref (ad (j_rf Y o 2)), .ref (ad (j_rf Y o 7))] jc jw hA k3 (by decide) rfl (c_X8_at hY k3 (M := M) rfl) sd_X5_106 rfl hl.1 (j_hR hRf hRl rfl rfl) (Nat.le_of_ble_eq_true rfl) dX5_writeRight_14 (fun H locs jw => ?_)
  refine lv_aload_n hx hb dX5_writeRight_17 rfl (lv_at hl 0 rfl) ?_
  refine jg_5_5 jc jw ho wd_4_105 dX5_writeRight_18 ?_
  refine lv_iload_n hx hb dX5_writeRight_21 rfl (lv_at hl 1 rfl) ?_
  refine lv_bipush (v := 6) hx hb dX5_writeRight_22 (by decide) ?_
  refine jc_vi [.int p1, .int (6 : Int32)] [.int (s_X8_at Y M (j_rf Y o 5) p1 (5 : Int32)), .ref (ad (j_rf Y o 2)), .ref (ad (j_rf Y o 7))] jc jw hA k3 (by decide) rfl (c_X8_at hY k3 (M := M) rfl) sd_X5_106 rfl hl.1 (j_hR hRf hRl rfl rfl) (Nat.le_of_ble_eq_true rfl) dX5_writeRight_24 (fun H locs jw => ?_)
  obtain ⟨xx4, exx4, hE⟩ := j_bd hG0 hE
  try dsimp only at hE
  refine jc_vv [.ref (ad (j_rf Y o 2)), .int (s_X8_at Y M (j_rf Y o 5) p1 (5 : Int32)), .int (s_X8_at Y M (j_rf Y o 5) p1 (6 : Int32))] [] jc jw hA k1 (by decide) rfl (c_X4_pushPart hY k1 k2 (M := M) exx4) sd_X5_155 rfl hl.1 (j_hR hRf hRl rfl rfl) (Nat.le_of_ble_eq_true rfl) dX5_writeRight_27 (fun H locs jw => ?_)
  exact kr _ _ _ _ _ (Option.some.inj (j_ret eG0 hE)) jw dX5_writeRight_30
def s_X5_writeConflict (Y : JY) (M : JM) (o : Nat) (p1 : Int32) (p2 : Int32) : Option (JM) := if p2 = (0 : Int32) then ((s_X5_writeLeft Y M o p1).bind fun xx2 => some xx2) else (if p2 = (1 : Int32) then ((s_X5_writeRight Y M o p1).bind fun xx4 => some xx4) else (if p2 = (2 : Int32) then ((s_X5_writeLeft Y M o p1).bind fun xx6 => (s_X5_writeRight Y xx6 o p1).bind fun xx7 => some xx7) else (if p2 = (3 : Int32) then ((s_X5_writeRight Y M o p1).bind fun xx9 => (s_X5_writeLeft Y xx9 o p1).bind fun xx10 => some xx10) else (if p2 = (4 : Int32) then ((s_X4_pushPart Y M (j_rf Y o 7) (j_rf Y o 0) (s_X8_at Y M (j_rf Y o 5) p1 (1 : Int32)) (s_X8_at Y M (j_rf Y o 5) p1 (2 : Int32))).bind fun xx15 => some xx15) else (lt_ (s_X4_push Y M (j_rf Y o 7) (-1 : Int32)) fun xx17 => (s_X5_writeLeft Y xx17 o p1).bind fun xx18 => lt_ (s_X4_push Y xx18 (j_rf Y o 7) (-2 : Int32)) fun xx19 => (s_X5_writeRight Y xx19 o p1).bind fun xx20 => lt_ (s_X4_push Y xx20 (j_rf Y o 7) (-3 : Int32)) fun xx21 => some xx21)))))
set_option maxRecDepth 100000 in
set_option maxHeartbeats 4000000 in
theorem c_X5_writeConflict {D : va_G} {Y : JY} {ty : Nat → ClassId} {ad : Nat → Nat} {sz : Nat} {l : Launch} {M : JM} (hY : j_ok Y) {o : Nat} {p1 : Int32} {p2 : Int32} (ho : j_kd Y o = 5) {r : JM} (hE : s_X5_writeConflict Y M o p1 p2 = some r) : JMv D Y ty ad sz l yX5_writeConflict cX5_writeConflict 3 3 66 [.ref (ad o), .int p1, .int p2] M r := by
  refine j_ofV hY (by decide +kernel) (Nat.le_of_ble_eq_true rfl) (fun p e s m below meth c args R Q A hRf hRl hA jc jw kr ls hl => ?_)
  have hx := jc.1
  have hb := jc.2.1
  have hl : lv_has ls 3 [(0, .ref (ad o)), (1, .int p1), (2, .int p2)] := hl
  unfold s_X5_writeConflict at hE
  obtain ⟨G0, eG0, hG0, hE⟩ := j_F0o hE
  refine lv_iload_n hx hb dX5_writeConflict_0 rfl (lv_at hl 2 rfl) ?_
  rcases Classical.em (p2 = (0 : Int32)) with c1 | c1
  · rw [if_pos c1] at hE
    refine lv_tableIn (off := 35) (tgt := 36) hx hb dX5_writeConflict_1 (by rw [c1]; decide) (by rw [c1]; decide) (by rw [c1]; decide) (by decide) ?_
    refine lv_aload_n hx hb dX5_writeConflict_36 rfl (lv_at hl 0 rfl) ?_
    refine lv_iload_n hx hb dX5_writeConflict_37 rfl (lv_at hl 1 rfl) ?_
    obtain ⟨xx2, exx2, hE⟩ := j_bd hG0 hE
    try dsimp only at hE
    refine jc_vv [.int p1] [] jc jw hA ho (by decide) rfl (c_X5_writeLeft hY ho (M := M) exx2) sd_X5_152 rfl hl.1 (j_hR hRf hRl rfl rfl) (Nat.le_of_ble_eq_true rfl) dX5_writeConflict_38 (fun H locs jw => ?_)
    refine lv_goto (tgt := 146) hx hb dX5_writeConflict_41 (by decide) ?_
    exact kr _ _ _ _ _ (Option.some.inj (j_ret eG0 hE)) jw dX5_writeConflict_146
  rw [if_neg c1] at hE
  rcases Classical.em (p2 = (1 : Int32)) with c3 | c3
  · rw [if_pos c3] at hE
    refine lv_tableIn (off := 43) (tgt := 44) hx hb dX5_writeConflict_1 (by rw [c3]; decide) (by rw [c3]; decide) (by rw [c3]; decide) (by decide) ?_
    refine lv_aload_n hx hb dX5_writeConflict_44 rfl (lv_at hl 0 rfl) ?_
    refine lv_iload_n hx hb dX5_writeConflict_45 rfl (lv_at hl 1 rfl) ?_
    obtain ⟨xx4, exx4, hE⟩ := j_bd hG0 hE
    try dsimp only at hE
    refine jc_vv [.int p1] [] jc jw hA ho (by decide) rfl (c_X5_writeRight hY ho (M := M) exx4) sd_X5_149 rfl hl.1 (j_hR hRf hRl rfl rfl) (Nat.le_of_ble_eq_true rfl) dX5_writeConflict_46 (fun H locs jw => ?_)
    refine lv_goto (tgt := 146) hx hb dX5_writeConflict_49 (by decide) ?_
    exact kr _ _ _ _ _ (Option.some.inj (j_ret eG0 hE)) jw dX5_writeConflict_146
  rw [if_neg c3] at hE
  rcases Classical.em (p2 = (2 : Int32)) with c5 | c5
  · rw [if_pos c5] at hE
    refine lv_tableIn (off := 51) (tgt := 52) hx hb dX5_writeConflict_1 (by rw [c5]; decide) (by rw [c5]; decide) (by rw [c5]; decide) (by decide) ?_
    refine lv_aload_n hx hb dX5_writeConflict_52 rfl (lv_at hl 0 rfl) ?_
    refine lv_iload_n hx hb dX5_writeConflict_53 rfl (lv_at hl 1 rfl) ?_
    obtain ⟨xx6, exx6, hE⟩ := j_bd hG0 hE
    try dsimp only at hE
    refine jc_vv [.int p1] [] jc jw hA ho (by decide) rfl (c_X5_writeLeft hY ho (M := M) exx6) sd_X5_152 rfl hl.1 (j_hR hRf hRl rfl rfl) (Nat.le_of_ble_eq_true rfl) dX5_writeConflict_54 (fun H locs jw => ?_)
    refine lv_aload_n hx hb dX5_writeConflict_57 rfl (lv_at hl 0 rfl) ?_
    refine lv_iload_n hx hb dX5_writeConflict_58 rfl (lv_at hl 1 rfl) ?_
    obtain ⟨xx7, exx7, hE⟩ := j_bd hG0 hE
    try dsimp only at hE
    refine jc_vv [.int p1] [] jc jw hA ho (by decide) rfl (c_X5_writeRight hY ho (M := xx6) exx7) sd_X5_149 rfl hl.1 (j_hR hRf hRl rfl rfl) (Nat.le_of_ble_eq_true rfl) dX5_writeConflict_59 (fun H locs jw => ?_)
    refine lv_goto (tgt := 146) hx hb dX5_writeConflict_62 (by decide) ?_
    exact kr _ _ _ _ _ (Option.some.inj (j_ret eG0 hE)) jw dX5_writeConflict_146
  rw [if_neg c5] at hE
  rcases Classical.em (p2 = (3 : Int32)) with c8 | c8
  · rw [if_pos c8] at hE
    refine lv_tableIn (off := 64) (tgt := 65) hx hb dX5_writeConflict_1 (by rw [c8]; decide) (by rw [c8]; decide) (by rw [c8]; decide) (by decide) ?_
    refine lv_aload_n hx hb dX5_writeConflict_65 rfl (lv_at hl 0 rfl) ?_
    refine lv_iload_n hx hb dX5_writeConflict_66 rfl (lv_at hl 1 rfl) ?_
    obtain ⟨xx9, exx9, hE⟩ := j_bd hG0 hE
    try dsimp only at hE
    refine jc_vv [.int p1] [] jc jw hA ho (by decide) rfl (c_X5_writeRight hY ho (M := M) exx9) sd_X5_149 rfl hl.1 (j_hR hRf hRl rfl rfl) (Nat.le_of_ble_eq_true rfl) dX5_writeConflict_67 (fun H locs jw => ?_)
    refine lv_aload_n hx hb dX5_writeConflict_70 rfl (lv_at hl 0 rfl) ?_
    refine lv_iload_n hx hb dX5_writeConflict_71 rfl (lv_at hl 1 rfl) ?_
    obtain ⟨xx10, exx10, hE⟩ := j_bd hG0 hE
    try dsimp only at hE
    refine jc_vv [.int p1] [] jc jw hA ho (by decide) rfl (c_X5_writeLeft hY ho (M := xx9) exx10) sd_X5_152 rfl hl.1 (j_hR hRf hRl rfl rfl) (Nat.le_of_ble_eq_true rfl) dX5_writeConflict_72 (fun H locs jw => ?_)
    refine lv_goto (tgt := 146) hx hb dX5_writeConflict_75 (by decide) ?_
    exact kr _ _ _ _ _ (Option.some.inj (j_ret eG0 hE)) jw dX5_writeConflict_146
  rw [if_neg c8] at hE
  rcases Classical.em (p2 = (4 : Int32)) with c11 | c11
  · rw [if_pos c11] at hE
    refine lv_tableIn (off := 77) (tgt := 78) hx hb dX5_writeConflict_1 (by rw [c11]; decide) (by rw [c11]; decide) (by rw [c11]; decide) (by decide) ?_
    refine lv_aload_n hx hb dX5_writeConflict_78 rfl (lv_at hl 0 rfl) ?_
    refine jg_5_7 jc jw ho wd_4_107 dX5_writeConflict_79 ?_
    have k12 := j_sub hY ho 7 (f := 4) rfl (by decide) (by decide) (by decide)
    refine lv_aload_n hx hb dX5_writeConflict_82 rfl (lv_at hl 0 rfl) ?_
    refine jg_5_0 jc jw ho wd_4_100 dX5_writeConflict_83 ?_
    have k13 := j_sub hY ho 0 (f := 4) rfl (by decide) (by decide) (by decide)
    refine lv_aload_n hx hb dX5_writeConflict_86 rfl (lv_at hl 0 rfl) ?_
    refine jg_5_5 jc jw ho wd_4_105 dX5_writeConflict_87 ?_
    have k14 := j_sub hY ho 5 (f := 8) rfl (by decide) (by decide) (by decide)
    refine lv_iload_n hx hb dX5_writeConflict_90 rfl (lv_at hl 1 rfl) ?_
    refine lv_iconst (v := 1) hx hb dX5_writeConflict_91 (by decide) ?_
    refine jc_vi [.int p1, .int (1 : Int32)] [.ref (ad (j_rf Y o 0)), .ref (ad (j_rf Y o 7))] jc jw hA k14 (by decide) rfl (c_X8_at hY k14 (M := M) rfl) sd_X5_106 rfl hl.1 (j_hR hRf hRl rfl rfl) (Nat.le_of_ble_eq_true rfl) dX5_writeConflict_92 (fun H locs jw => ?_)
    refine lv_aload_n hx hb dX5_writeConflict_95 rfl (lv_at hl 0 rfl) ?_
    refine jg_5_5 jc jw ho wd_4_105 dX5_writeConflict_96 ?_
    refine lv_iload_n hx hb dX5_writeConflict_99 rfl (lv_at hl 1 rfl) ?_
    refine lv_iconst (v := 2) hx hb dX5_writeConflict_100 (by decide) ?_
    refine jc_vi [.int p1, .int (2 : Int32)] [.int (s_X8_at Y M (j_rf Y o 5) p1 (1 : Int32)), .ref (ad (j_rf Y o 0)), .ref (ad (j_rf Y o 7))] jc jw hA k14 (by decide) rfl (c_X8_at hY k14 (M := M) rfl) sd_X5_106 rfl hl.1 (j_hR hRf hRl rfl rfl) (Nat.le_of_ble_eq_true rfl) dX5_writeConflict_101 (fun H locs jw => ?_)
    obtain ⟨xx15, exx15, hE⟩ := j_bd hG0 hE
    try dsimp only at hE
    refine jc_vv [.ref (ad (j_rf Y o 0)), .int (s_X8_at Y M (j_rf Y o 5) p1 (1 : Int32)), .int (s_X8_at Y M (j_rf Y o 5) p1 (2 : Int32))] [] jc jw hA k12 (by decide) rfl (c_X4_pushPart hY k12 k13 (M := M) exx15) sd_X5_155 rfl hl.1 (j_hR hRf hRl rfl rfl) (Nat.le_of_ble_eq_true rfl) dX5_writeConflict_104 (fun H locs jw => ?_)
    refine lv_goto (tgt := 146) hx hb dX5_writeConflict_107 (by decide) ?_
    exact kr _ _ _ _ _ (Option.some.inj (j_ret eG0 hE)) jw dX5_writeConflict_146
  rw [if_neg c11] at hE
  refine lv_tableOut (tgt := 110) hx hb dX5_writeConflict_1 (j_out5 c1 c3 c5 c8 c11) (by decide) ?_
  refine lv_aload_n hx hb dX5_writeConflict_110 rfl (lv_at hl 0 rfl) ?_
  refine jg_5_7 jc jw ho wd_4_107 dX5_writeConflict_111 ?_
  have k16 := j_sub hY ho 7 (f := 4) rfl (by decide) (by decide) (by decide)
  refine lv_iconst (v := -1) hx hb dX5_writeConflict_114 (by decide) ?_
  obtain ⟨xx17, exx17, hE⟩ := j_lv hE
  try dsimp only at hE
  refine jc_vv [.int (-1 : Int32)] [] jc jw hA k16 (by decide) rfl (c_X4_push hY k16 (M := M) exx17.symm) sd_X5_119 rfl hl.1 (j_hR hRf hRl rfl rfl) (Nat.le_of_ble_eq_true rfl) dX5_writeConflict_115 (fun H locs jw => ?_)
  refine lv_aload_n hx hb dX5_writeConflict_118 rfl (lv_at hl 0 rfl) ?_
  refine lv_iload_n hx hb dX5_writeConflict_119 rfl (lv_at hl 1 rfl) ?_
  obtain ⟨xx18, exx18, hE⟩ := j_bd hG0 hE
  try dsimp only at hE
  refine jc_vv [.int p1] [] jc jw hA ho (by decide) rfl (c_X5_writeLeft hY ho (M := xx17) exx18) sd_X5_152 rfl hl.1 (j_hR hRf hRl rfl rfl) (Nat.le_of_ble_eq_true rfl) dX5_writeConflict_120 (fun H locs jw => ?_)
  refine lv_aload_n hx hb dX5_writeConflict_123 rfl (lv_at hl 0 rfl) ?_
  refine jg_5_7 jc jw ho wd_4_107 dX5_writeConflict_124 ?_
  refine lv_bipush (v := -2) hx hb dX5_writeConflict_127 (by decide) ?_
  obtain ⟨xx19, exx19, hE⟩ := j_lv hE
  try dsimp only at hE
  refine jc_vv [.int (-2 : Int32)] [] jc jw hA k16 (by decide) rfl (c_X4_push hY k16 (M := xx18) exx19.symm) sd_X5_119 rfl hl.1 (j_hR hRf hRl rfl rfl) (Nat.le_of_ble_eq_true rfl) dX5_writeConflict_129 (fun H locs jw => ?_)
  refine lv_aload_n hx hb dX5_writeConflict_132 rfl (lv_at hl 0 rfl) ?_
  refine lv_iload_n hx hb dX5_writeConflict_133 rfl (lv_at hl 1 rfl) ?_
  obtain ⟨xx20, exx20, hE⟩ := j_bd hG0 hE
  try dsimp only at hE
  refine jc_vv [.int p1] [] jc jw hA ho (by decide) rfl (c_X5_writeRight hY ho (M := xx19) exx20) sd_X5_149 rfl hl.1 (j_hR hRf hRl rfl rfl) (Nat.le_of_ble_eq_true rfl) dX5_writeConflict_134 (fun H locs jw => ?_)
  refine lv_aload_n hx hb dX5_writeConflict_137 rfl (lv_at hl 0 rfl) ?_
  refine jg_5_7 jc jw ho wd_4_107 dX5_writeConflict_138 ?_
  refine lv_bipush (v := -3) hx hb dX5_writeConflict_141 (by decide) ?_
  obtain ⟨xx21, exx21, hE⟩ := j_lv hE
  try dsimp only at hE
  refine jc_vv [.int (-3 : Int32)] [] jc jw hA k16 (by decide) rfl (c_X4_push hY k16 (M := xx20) exx21.symm) sd_X5_119 rfl hl.1 (j_hR hRf hRl rfl rfl) (Nat.le_of_ble_eq_true rfl) dX5_writeConflict_143 (fun H locs jw => ?_)
  exact kr _ _ _ _ _ (Option.some.inj (j_ret eG0 hE)) jw dX5_writeConflict_146
def lp_X5_writeResult_1 (Y : JY) (o : Nat) (n : Nat) (vv4 : Int32) (mm5 : JM) : Option (JM) := match n with
  | 0 => none
  | n + 1 => if (s_X8_rows Y mm5 (j_rf Y o 5)) ≤ vv4 then (some mm5) else (lt_ (s_X8_at Y mm5 (j_rf Y o 5) vv4 (0 : Int32)) fun vv8 => (if vv8 = (4 : Int32) then ((s_X5_writeConflict Y mm5 o vv4 (s_X8_at Y mm5 (j_rf Y o 5) vv4 (7 : Int32))).bind fun xx11 => some xx11) else (if vv8 = (2 : Int32) then ((s_X5_writeRight Y mm5 o vv4).bind fun xx13 => some xx13) else ((s_X5_writeLeft Y mm5 o vv4).bind fun xx14 => some xx14))).bind fun xx17 => lt_ (vv4 + (1 : Int32)) fun vv16 => lp_X5_writeResult_1 Y o n vv16 xx17)
def s_X5_writeResult (Y : JY) (M : JM) (o : Nat) : Option (JM) := lt_ (s_X4_clear Y M (j_rf Y o 7)) fun xx2 => (lp_X5_writeResult_1 Y o j_fuel (0 : Int32) xx2).bind fun xx18 => some xx18
set_option maxRecDepth 100000 in
set_option maxHeartbeats 4000000 in
theorem c_X5_writeResult {D : va_G} {Y : JY} {ty : Nat → ClassId} {ad : Nat → Nat} {sz : Nat} {l : Launch} {M : JM} (hY : j_ok Y) {o : Nat} (ho : j_kd Y o = 5) {r : JM} (hE : s_X5_writeResult Y M o = some r) : JMv D Y ty ad sz l yX5_writeResult cX5_writeResult 3 4 88 [.ref (ad o)] M r := by
  refine j_ofV hY (by decide +kernel) (Nat.le_of_ble_eq_true rfl) (fun p e s m below meth c args R Q A hRf hRl hA jc jw kr ls hl => ?_)
  have hx := jc.1
  have hb := jc.2.1
  have hl : lv_has ls 3 [(0, .ref (ad o))] := hl
  unfold s_X5_writeResult at hE
  obtain ⟨G0, eG0, hG0, hE⟩ := j_F0o hE
  refine lv_aload_n hx hb dX5_writeResult_0 rfl (lv_at hl 0 rfl) ?_
  refine jg_5_7 jc jw ho wd_4_107 dX5_writeResult_1 ?_
  have k1 := j_sub hY ho 7 (f := 4) rfl (by decide) (by decide) (by decide)
  obtain ⟨xx2, exx2, hE⟩ := j_lv hE
  try dsimp only at hE
  refine jc_vv [] [] jc jw hA k1 (by decide) rfl (c_X4_clear hY k1 (M := M) exx2.symm) sd_X5_70 rfl hl.1 (j_hR hRf hRl rfl rfl) (Nat.le_of_ble_eq_true rfl) dX5_writeResult_4 (fun H locs jw => ?_)
  refine lv_iconst (v := 0) hx hb dX5_writeResult_7 (by decide) ?_
  refine lv_istore_n (lv' := [(1, .int (0 : Int32)), (0, .ref (ad o))]) hx hb dX5_writeResult_8 rfl hl (by decide) rfl (fun ls hl => ?_)
  obtain ⟨G3, eG3, hG3, hE⟩ := j_ctxB hG0 hE
  have LP3 : ∀ (n : Nat) (vv4 : Int32) (mm5 : JM) (H : Heap) (locs : List Loc) (ls : Array Slot), G3 (lp_X5_writeResult_1 Y o n vv4 mm5) = some r → JW D Y ty ad A s.heap mm5 H locs → lv_has ls 3 [(1, .int vv4), (0, .ref (ad o))] → W p l e R s m args below meth c H locs 0 0 Q (F0 m 9 ls []) := by
    intro n
    induction n with
    | zero => intro vv4 mm5 H locs ls hE jw hl; exact absurd hE (hG3 _)
    | succ n ih =>
      intro vv4 mm5 H locs ls hE jw hl
      rw [lp_X5_writeResult_1] at hE
      refine lv_iload_n hx hb dX5_writeResult_9 rfl (lv_at hl 0 rfl) ?_
      refine lv_aload_n hx hb dX5_writeResult_10 rfl (lv_at hl 1 rfl) ?_
      refine jg_5_5 jc jw ho wd_4_105 dX5_writeResult_11 ?_
      have k6 := j_sub hY ho 5 (f := 8) rfl (by decide) (by decide) (by decide)
      refine jc_vi [] [.int vv4] jc jw hA k6 (by decide) rfl (c_X8_rows hY k6 (M := mm5) rfl) sd_X5_103 rfl hl.1 (j_hR hRf hRl rfl rfl) (Nat.le_of_ble_eq_true rfl) dX5_writeResult_14 (fun H locs jw => ?_)
      refine lv_icmp_ge (tgt := 77) hx hb dX5_writeResult_17 (by decide) (fun c7 => ?_) (fun c7 => ?_)
      · rw [if_pos c7] at hE
        replace hE := j_popB eG3 hE
        try dsimp only at hE
        exact kr _ _ _ _ _ (Option.some.inj (j_ret eG0 hE)) jw dX5_writeResult_77
      · rw [if_neg c7] at hE
        refine lv_aload_n hx hb dX5_writeResult_20 rfl (lv_at hl 1 rfl) ?_
        refine jg_5_5 jc jw ho wd_4_105 dX5_writeResult_21 ?_
        refine lv_iload_n hx hb dX5_writeResult_24 rfl (lv_at hl 0 rfl) ?_
        refine lv_iconst (v := 0) hx hb dX5_writeResult_25 (by decide) ?_
        refine jc_vi [.int vv4, .int (0 : Int32)] [] jc jw hA k6 (by decide) rfl (c_X8_at hY k6 (M := mm5) rfl) sd_X5_106 rfl hl.1 (j_hR hRf hRl rfl rfl) (Nat.le_of_ble_eq_true rfl) dX5_writeResult_26 (fun H locs jw => ?_)
        refine lv_topi (fun vv8 evv8 => ?_)
        replace hE := j_lu hE evv8
        try dsimp only at hE
        refine lv_istore_n (lv' := [(2, .int vv8), (1, .int vv4), (0, .ref (ad o))]) hx hb dX5_writeResult_29 rfl hl (by decide) rfl (fun ls hl => ?_)
        refine lv_iload_n hx hb dX5_writeResult_30 rfl (lv_at hl 0 rfl) ?_
        refine lv_iconst (v := 4) hx hb dX5_writeResult_31 (by decide) ?_
        obtain ⟨G10, eG10, hG10, hE⟩ := j_ctxB hG3 hE
        have J10 : ∀ (mm15 : JM)  (H : Heap) (locs : List Loc) (ls : Array Slot), G10 (some mm15) = some r → JW D Y ty ad A s.heap mm15 H locs → lv_has ls 3 [(1, .int vv4), (0, .ref (ad o))] → W p l e R s m args below meth c H locs 0 0 Q (F0 m 71 ls []) := by
          intro mm15  H locs ls hE jw hl
          replace hE := j_popB eG10 hE
          try dsimp only at hE
          obtain ⟨vv16, evv16, hE⟩ := j_lv hE
          try dsimp only at hE
          refine lv_iinc (v := vv16) (lv' := [(1, .int vv16), (0, .ref (ad o))]) hx hb dX5_writeResult_71 hl (k := 0) rfl (by rw [evv16]; rfl) (by decide) rfl (fun ls hl => ?_)
          refine lv_goto (tgt := 9) hx hb dX5_writeResult_74 (by decide) ?_
          exact ih vv16 mm15 H locs ls hE jw (lv_sub hl [0, 1] rfl)
        refine lv_icmp_ne (tgt := 53) hx hb dX5_writeResult_32 (by decide) (fun c9 => ?_) (fun c9 => ?_)
        · rw [if_neg c9] at hE
          refine lv_iload_n hx hb dX5_writeResult_53 rfl (lv_at hl 0 rfl) ?_
          refine lv_iconst (v := 2) hx hb dX5_writeResult_54 (by decide) ?_
          refine lv_icmp_ne (tgt := 66) hx hb dX5_writeResult_55 (by decide) (fun c12 => ?_) (fun c12 => ?_)
          · rw [if_neg c12] at hE
            refine lv_aload_n hx hb dX5_writeResult_66 rfl (lv_at hl 2 rfl) ?_
            refine lv_iload_n hx hb dX5_writeResult_67 rfl (lv_at hl 1 rfl) ?_
            obtain ⟨xx14, exx14, hE⟩ := j_bd hG10 hE
            try dsimp only at hE
            refine jc_vv [.int vv4] [] jc jw hA ho (by decide) rfl (c_X5_writeLeft hY ho (M := mm5) exx14) sd_X5_152 rfl hl.1 (j_hR hRf hRl rfl rfl) (Nat.le_of_ble_eq_true rfl) dX5_writeResult_68 (fun H locs jw => ?_)
            exact J10 xx14  H locs ls hE jw (lv_sub hl [1, 2] rfl)
          · rw [if_pos c12] at hE
            refine lv_aload_n hx hb dX5_writeResult_58 rfl (lv_at hl 2 rfl) ?_
            refine lv_iload_n hx hb dX5_writeResult_59 rfl (lv_at hl 1 rfl) ?_
            obtain ⟨xx13, exx13, hE⟩ := j_bd hG10 hE
            try dsimp only at hE
            refine jc_vv [.int vv4] [] jc jw hA ho (by decide) rfl (c_X5_writeRight hY ho (M := mm5) exx13) sd_X5_149 rfl hl.1 (j_hR hRf hRl rfl rfl) (Nat.le_of_ble_eq_true rfl) dX5_writeResult_60 (fun H locs jw => ?_)
            refine lv_goto (tgt := 71) hx hb dX5_writeResult_63 (by decide) ?_
            exact J10 xx13  H locs ls hE jw (lv_sub hl [1, 2] rfl)
        · rw [if_pos c9] at hE
          refine lv_aload_n hx hb dX5_writeResult_35 rfl (lv_at hl 2 rfl) ?_
          refine lv_iload_n hx hb dX5_writeResult_36 rfl (lv_at hl 1 rfl) ?_
          refine lv_aload_n hx hb dX5_writeResult_37 rfl (lv_at hl 2 rfl) ?_
          refine jg_5_5 jc jw ho wd_4_105 dX5_writeResult_38 ?_
          refine lv_iload_n hx hb dX5_writeResult_41 rfl (lv_at hl 1 rfl) ?_
          refine lv_bipush (v := 7) hx hb dX5_writeResult_42 (by decide) ?_
          refine jc_vi [.int vv4, .int (7 : Int32)] [.int vv4, .ref (ad o)] jc jw hA k6 (by decide) rfl (c_X8_at hY k6 (M := mm5) rfl) sd_X5_106 rfl hl.1 (j_hR hRf hRl rfl rfl) (Nat.le_of_ble_eq_true rfl) dX5_writeResult_44 (fun H locs jw => ?_)
          obtain ⟨xx11, exx11, hE⟩ := j_bd hG10 hE
          try dsimp only at hE
          refine jc_vv [.int vv4, .int (s_X8_at Y mm5 (j_rf Y o 5) vv4 (7 : Int32))] [] jc jw hA ho (by decide) rfl (c_X5_writeConflict hY ho (M := mm5) exx11) sd_X5_146 rfl hl.1 (j_hR hRf hRl rfl rfl) (Nat.le_of_ble_eq_true rfl) dX5_writeResult_47 (fun H locs jw => ?_)
          refine lv_goto (tgt := 71) hx hb dX5_writeResult_50 (by decide) ?_
          exact J10 xx11  H locs ls hE jw (lv_sub hl [1, 2] rfl)
  exact LP3 j_fuel (0 : Int32) xx2 H locs ls hE jw (lv_sub hl [0, 1] rfl)
def lp_X5_make_1 (Y : JY) (o : Nat) (p2 : Int32) (n : Nat) (vv13 : Int32) (vv14 : Int32) (vv15 : Int32) (vv16 : Int32) (mm17 : JM) : Option (Int32 × Int32 × Int32 × JM) := match n with
  | 0 => none
  | n + 1 => if (s_X4_size Y mm17 (j_rf Y o 0)) ≤ vv16 then (some (vv13, vv14, vv15, mm17)) else ((if (s_X0_isFirstKept Y mm17 (j_rf Y o 3) vv16) = 0 ∨ (s_X0_isFirstKept Y mm17 (j_rf Y o 4) vv16) = 0 then (some (vv13, vv14, vv15, mm17)) else (lt_ (s_X0_partnerOf Y mm17 (j_rf Y o 3) vv16) fun vv24 => lt_ (s_X0_partnerOf Y mm17 (j_rf Y o 4) vv16) fun vv25 => (s_X5_addPart Y mm17 o vv13 vv16 vv14 vv24 vv15 vv25).bind fun xx26 => (s_X5_addRegion Y xx26.2 o xx26.1 p2).bind fun xx27 => (s_X5_addStable Y xx27 o vv16 vv24 vv25).bind fun xx28 => lt_ (vv16 + (1 : Int32)) fun vv29 => lt_ (vv24 + (1 : Int32)) fun vv30 => lt_ (vv25 + (1 : Int32)) fun vv31 => some (vv29, vv30, vv31, xx28))).bind fun xx38 => lt_ (vv16 + (1 : Int32)) fun vv37 => lp_X5_make_1 Y o p2 n xx38.1 xx38.2.1 xx38.2.2.1 vv37 xx38.2.2.2)
def s_X5_make (Y : JY) (M : JM) (o : Nat) (p1 : Int32) (p2 : Int32) : Option (Int32 × JM) := (s_X0_build Y M (j_rf Y o 3) (j_rf Y o 0) (j_rf Y o 1) p1).bind fun xx4 => (s_X0_build Y xx4 (j_rf Y o 4) (j_rf Y o 0) (j_rf Y o 2) p1).bind fun xx7 => lt_ (s_X8_clear Y xx7 (j_rf Y o 5)) fun xx9 => lt_ (s_X4_clear Y xx9 (j_rf Y o 6)) fun xx11 => (lp_X5_make_1 Y o p2 j_fuel (0 : Int32) (0 : Int32) (0 : Int32) (0 : Int32) xx11).bind fun xx47 => (s_X5_addPart Y xx47.2.2.2 o xx47.1 (s_X4_size Y xx47.2.2.2 (j_rf Y o 0)) xx47.2.1 (s_X4_size Y xx47.2.2.2 (j_rf Y o 1)) xx47.2.2.1 (s_X4_size Y xx47.2.2.2 (j_rf Y o 2))).bind fun xx43 => (s_X5_addRegion Y xx43.2 o xx43.1 p2).bind fun xx44 => lt_ (j_up xx44 o 8 (1 : Int32)) fun mm45 => (s_X5_writeResult Y mm45 o).bind fun xx46 => some ((s_X4_size Y xx46 (j_rf Y o 6)), xx46)
set_option maxRecDepth 100000 in
set_option maxHeartbeats 4000000 in
theorem c_X5_make {D : va_G} {Y : JY} {ty : Nat → ClassId} {ad : Nat → Nat} {sz : Nat} {l : Launch} {M : JM} (hY : j_ok Y) {o : Nat} {p1 : Int32} {p2 : Int32} (ho : j_kd Y o = 5) {r : Int32 × JM} (hE : s_X5_make Y M o p1 p2 = some r) : JMi D Y ty ad sz l yX5_make cX5_make 9 (some .int) 5 137 [.ref (ad o), .int p1, .int p2] M r.1 r.2 := by
  refine j_ofI hY (by decide +kernel) (Nat.le_of_ble_eq_true rfl) (fun p e s m below meth c args R Q A hRf hRl hA jc jw kr ls hl => ?_)
  have hx := jc.1
  have hb := jc.2.1
  have hl : lv_has ls 9 [(0, .ref (ad o)), (1, .int p1), (2, .int p2)] := hl
  unfold s_X5_make at hE
  obtain ⟨G0, eG0, hG0, hE⟩ := j_F0o hE
  refine lv_aload_n hx hb dX5_make_0 rfl (lv_at hl 0 rfl) ?_
  refine jg_5_3 jc jw ho wd_4_103 dX5_make_1 ?_
  have k1 := j_sub hY ho 3 (f := 0) rfl (by decide) (by decide) (by decide)
  refine lv_aload_n hx hb dX5_make_4 rfl (lv_at hl 0 rfl) ?_
  refine jg_5_0 jc jw ho wd_4_100 dX5_make_5 ?_
  have k2 := j_sub hY ho 0 (f := 4) rfl (by decide) (by decide) (by decide)
  refine lv_aload_n hx hb dX5_make_8 rfl (lv_at hl 0 rfl) ?_
  refine jg_5_1 jc jw ho wd_4_101 dX5_make_9 ?_
  have k3 := j_sub hY ho 1 (f := 4) rfl (by decide) (by decide) (by decide)
  refine lv_iload_n hx hb dX5_make_12 rfl (lv_at hl 1 rfl) ?_
  obtain ⟨xx4, exx4, hE⟩ := j_bd hG0 hE
  try dsimp only at hE
  refine jc_vv [.ref (ad (j_rf Y o 0)), .ref (ad (j_rf Y o 1)), .int p1] [] jc jw hA k1 (by decide) rfl (c_X0_build hY k1 k2 k3 (M := M) exx4) sd_X5_63 rfl hl.1 (j_hR hRf hRl rfl rfl) (Nat.le_of_ble_eq_true rfl) dX5_make_13 (fun H locs jw => ?_)
  refine lv_aload_n hx hb dX5_make_16 rfl (lv_at hl 0 rfl) ?_
  refine jg_5_4 jc jw ho wd_4_104 dX5_make_17 ?_
  have k5 := j_sub hY ho 4 (f := 0) rfl (by decide) (by decide) (by decide)
  refine lv_aload_n hx hb dX5_make_20 rfl (lv_at hl 0 rfl) ?_
  refine jg_5_0 jc jw ho wd_4_100 dX5_make_21 ?_
  refine lv_aload_n hx hb dX5_make_24 rfl (lv_at hl 0 rfl) ?_
  refine jg_5_2 jc jw ho wd_4_102 dX5_make_25 ?_
  have k6 := j_sub hY ho 2 (f := 4) rfl (by decide) (by decide) (by decide)
  refine lv_iload_n hx hb dX5_make_28 rfl (lv_at hl 1 rfl) ?_
  obtain ⟨xx7, exx7, hE⟩ := j_bd hG0 hE
  try dsimp only at hE
  refine jc_vv [.ref (ad (j_rf Y o 0)), .ref (ad (j_rf Y o 2)), .int p1] [] jc jw hA k5 (by decide) rfl (c_X0_build hY k5 k2 k6 (M := xx4) exx7) sd_X5_63 rfl hl.1 (j_hR hRf hRl rfl rfl) (Nat.le_of_ble_eq_true rfl) dX5_make_29 (fun H locs jw => ?_)
  refine lv_aload_n hx hb dX5_make_32 rfl (lv_at hl 0 rfl) ?_
  refine jg_5_5 jc jw ho wd_4_105 dX5_make_33 ?_
  have k8 := j_sub hY ho 5 (f := 8) rfl (by decide) (by decide) (by decide)
  obtain ⟨xx9, exx9, hE⟩ := j_lv hE
  try dsimp only at hE
  refine jc_vv [] [] jc jw hA k8 (by decide) rfl (c_X8_clear hY k8 (M := xx7) exx9.symm) sd_X5_67 rfl hl.1 (j_hR hRf hRl rfl rfl) (Nat.le_of_ble_eq_true rfl) dX5_make_36 (fun H locs jw => ?_)
  refine lv_aload_n hx hb dX5_make_39 rfl (lv_at hl 0 rfl) ?_
  refine jg_5_6 jc jw ho wd_4_106 dX5_make_40 ?_
  have k10 := j_sub hY ho 6 (f := 4) rfl (by decide) (by decide) (by decide)
  obtain ⟨xx11, exx11, hE⟩ := j_lv hE
  try dsimp only at hE
  refine jc_vv [] [] jc jw hA k10 (by decide) rfl (c_X4_clear hY k10 (M := xx9) exx11.symm) sd_X5_70 rfl hl.1 (j_hR hRf hRl rfl rfl) (Nat.le_of_ble_eq_true rfl) dX5_make_43 (fun H locs jw => ?_)
  refine lv_iconst (v := 0) hx hb dX5_make_46 (by decide) ?_
  refine lv_istore_n (lv' := [(3, .int (0 : Int32)), (0, .ref (ad o)), (1, .int p1), (2, .int p2)]) hx hb dX5_make_47 rfl hl (by decide) rfl (fun ls hl => ?_)
  refine lv_iconst (v := 0) hx hb dX5_make_48 (by decide) ?_
  refine lv_istore (lv' := [(4, .int (0 : Int32)), (3, .int (0 : Int32)), (0, .ref (ad o)), (1, .int p1), (2, .int p2)]) hx hb dX5_make_49 hl (by decide) rfl (fun ls hl => ?_)
  refine lv_iconst (v := 0) hx hb dX5_make_51 (by decide) ?_
  refine lv_istore (lv' := [(5, .int (0 : Int32)), (4, .int (0 : Int32)), (3, .int (0 : Int32)), (0, .ref (ad o)), (1, .int p1), (2, .int p2)]) hx hb dX5_make_52 hl (by decide) rfl (fun ls hl => ?_)
  refine lv_iconst (v := 0) hx hb dX5_make_54 (by decide) ?_
  refine lv_istore (lv' := [(6, .int (0 : Int32)), (5, .int (0 : Int32)), (4, .int (0 : Int32)), (3, .int (0 : Int32)), (0, .ref (ad o)), (1, .int p1), (2, .int p2)]) hx hb dX5_make_55 hl (by decide) rfl (fun ls hl => ?_)
  obtain ⟨G12, eG12, hG12, hE⟩ := j_ctxB hG0 hE
  have E12_168 : ∀ (vv39 : Int32) (vv40 : Int32) (vv41 : Int32) (mm42 : JM)  (H : Heap) (locs : List Loc) (ls : Array Slot), G12 (some (vv39, vv40, vv41, mm42)) = some r → JW D Y ty ad A s.heap mm42 H locs → lv_has ls 9 [(5, .int vv41), (4, .int vv40), (3, .int vv39), (0, .ref (ad o)), (2, .int p2)] → W p l e R s m args below meth c H locs 0 0 Q (F0 m 168 ls []) := by
    intro vv39 vv40 vv41 mm42  H locs ls hE jw hl
    replace hE := j_popB eG12 hE
    try dsimp only at hE
    refine lv_aload_n hx hb dX5_make_168 rfl (lv_at hl 3 rfl) ?_
    refine lv_aload_n hx hb dX5_make_169 rfl (lv_at hl 3 rfl) ?_
    refine lv_iload_n hx hb dX5_make_170 rfl (lv_at hl 2 rfl) ?_
    refine lv_aload_n hx hb dX5_make_171 rfl (lv_at hl 3 rfl) ?_
    refine jg_5_0 jc jw ho wd_4_100 dX5_make_172 ?_
    refine jc_vi [] [.int vv39, .ref (ad o), .ref (ad o)] jc jw hA k2 (by decide) rfl (c_X4_size hY k2 (M := mm42) rfl) sd_X5_71 rfl hl.1 (j_hR hRf hRl rfl rfl) (Nat.le_of_ble_eq_true rfl) dX5_make_175 (fun H locs jw => ?_)
    refine lv_iload hx hb dX5_make_178 (lv_at hl 1 rfl) ?_
    refine lv_aload_n hx hb dX5_make_180 rfl (lv_at hl 3 rfl) ?_
    refine jg_5_1 jc jw ho wd_4_101 dX5_make_181 ?_
    refine jc_vi [] [.int vv40, .int (s_X4_size Y mm42 (j_rf Y o 0)), .int vv39, .ref (ad o), .ref (ad o)] jc jw hA k3 (by decide) rfl (c_X4_size hY k3 (M := mm42) rfl) sd_X5_71 rfl hl.1 (j_hR hRf hRl rfl rfl) (Nat.le_of_ble_eq_true rfl) dX5_make_184 (fun H locs jw => ?_)
    refine lv_iload hx hb dX5_make_187 (lv_at hl 0 rfl) ?_
    refine lv_aload_n hx hb dX5_make_189 rfl (lv_at hl 3 rfl) ?_
    refine jg_5_2 jc jw ho wd_4_102 dX5_make_190 ?_
    refine jc_vi [] [.int vv41, .int (s_X4_size Y mm42 (j_rf Y o 1)), .int vv40, .int (s_X4_size Y mm42 (j_rf Y o 0)), .int vv39, .ref (ad o), .ref (ad o)] jc jw hA k6 (by decide) rfl (c_X4_size hY k6 (M := mm42) rfl) sd_X5_71 rfl hl.1 (j_hR hRf hRl rfl rfl) (Nat.le_of_ble_eq_true rfl) dX5_make_193 (fun H locs jw => ?_)
    obtain ⟨xx43, exx43, hE⟩ := j_bd hG0 hE
    try dsimp only at hE
    refine jc_vi [.int vv39, .int (s_X4_size Y mm42 (j_rf Y o 0)), .int vv40, .int (s_X4_size Y mm42 (j_rf Y o 1)), .int vv41, .int (s_X4_size Y mm42 (j_rf Y o 2))] [.ref (ad o)] jc jw hA ho (by decide) rfl (c_X5_addPart hY ho (M := mm42) exx43) sd_X5_82 rfl hl.1 (j_hR hRf hRl rfl rfl) (Nat.le_of_ble_eq_true rfl) dX5_make_196 (fun H locs jw => ?_)
    refine lv_iload_n hx hb dX5_make_199 rfl (lv_at hl 4 rfl) ?_
    obtain ⟨xx44, exx44, hE⟩ := j_bd hG0 hE
    try dsimp only at hE
    refine jc_vv [.int xx43.1, .int p2] [] jc jw hA ho (by decide) rfl (c_X5_addRegion hY ho (M := xx43.2) exx44) sd_X5_86 rfl hl.1 (j_hR hRf hRl rfl rfl) (Nat.le_of_ble_eq_true rfl) dX5_make_200 (fun H locs jw => ?_)
    refine lv_aload_n hx hb dX5_make_203 rfl (lv_at hl 3 rfl) ?_
    refine lv_iconst (v := 1) hx hb dX5_make_204 (by decide) ?_
    refine js_5_8 jc jw ho wd_4_108 (by decide) dX5_make_205 (fun H locs jw => ?_)
    obtain ⟨mm45, emm45, hE⟩ := j_lv hE
    rw [← emm45] at jw
    try dsimp only at hE
    refine lv_aload_n hx hb dX5_make_208 rfl (lv_at hl 3 rfl) ?_
    obtain ⟨xx46, exx46, hE⟩ := j_bd hG0 hE
    try dsimp only at hE
    refine jc_vv [] [] jc jw hA ho (by decide) rfl (c_X5_writeResult hY ho (M := mm45) exx46) sd_X5_94 rfl hl.1 (j_hR hRf hRl rfl rfl) (Nat.le_of_ble_eq_true rfl) dX5_make_209 (fun H locs jw => ?_)
    refine lv_aload_n hx hb dX5_make_212 rfl (lv_at hl 3 rfl) ?_
    refine jg_5_6 jc jw ho wd_4_106 dX5_make_213 ?_
    refine jc_vi [] [] jc jw hA k10 (by decide) rfl (c_X4_size hY k10 (M := xx46) rfl) sd_X5_71 rfl hl.1 (j_hR hRf hRl rfl rfl) (Nat.le_of_ble_eq_true rfl) dX5_make_216 (fun H locs jw => ?_)
    exact kr _ _ _ _ _ _ (j_fst (Option.some.inj (j_ret eG0 hE))) (j_snd (Option.some.inj (j_ret eG0 hE))) jw dX5_make_219
  have LP12 : ∀ (n : Nat) (vv13 : Int32) (vv14 : Int32) (vv15 : Int32) (vv16 : Int32) (mm17 : JM) (H : Heap) (locs : List Loc) (ls : Array Slot), G12 (lp_X5_make_1 Y o p2 n vv13 vv14 vv15 vv16 mm17) = some r → JW D Y ty ad A s.heap mm17 H locs → lv_has ls 9 [(6, .int vv16), (5, .int vv15), (4, .int vv14), (3, .int vv13), (0, .ref (ad o)), (2, .int p2)] → W p l e R s m args below meth c H locs 0 0 Q (F0 m 57 ls []) := by
    intro n
    induction n with
    | zero => intro vv13 vv14 vv15 vv16 mm17 H locs ls hE jw hl; exact absurd hE (hG12 _)
    | succ n ih =>
      intro vv13 vv14 vv15 vv16 mm17 H locs ls hE jw hl
      rw [lp_X5_make_1] at hE
      refine lv_iload hx hb dX5_make_57 (lv_at hl 0 rfl) ?_
      refine lv_aload_n hx hb dX5_make_59 rfl (lv_at hl 4 rfl) ?_
      refine jg_5_0 jc jw ho wd_4_100 dX5_make_60 ?_
      refine jc_vi [] [.int vv16] jc jw hA k2 (by decide) rfl (c_X4_size hY k2 (M := mm17) rfl) sd_X5_71 rfl hl.1 (j_hR hRf hRl rfl rfl) (Nat.le_of_ble_eq_true rfl) dX5_make_63 (fun H locs jw => ?_)
      refine lv_icmp_ge (tgt := 168) hx hb dX5_make_66 (by decide) (fun c18 => ?_) (fun c18 => ?_)
      · rw [if_pos c18] at hE
        exact E12_168 vv13 vv14 vv15 mm17  H locs ls hE jw (lv_sub hl [1, 2, 3, 4, 5] rfl)
      · rw [if_neg c18] at hE
        refine lv_aload_n hx hb dX5_make_69 rfl (lv_at hl 4 rfl) ?_
        refine jg_5_3 jc jw ho wd_4_103 dX5_make_70 ?_
        refine lv_iload hx hb dX5_make_73 (lv_at hl 0 rfl) ?_
        refine jc_vz [.int vv16] [] jc jw hA k1 (by decide) rfl (c_X0_isFirstKept hY k1 (M := mm17) rfl) sd_X5_75 rfl hl.1 (j_hR hRf hRl rfl rfl) (Nat.le_of_ble_eq_true rfl) dX5_make_75 (fun H locs jw hz => ?_)
        have z_19 := hz
        obtain ⟨G23, eG23, hG23, hE⟩ := j_ctxB hG12 hE
        have J23 : ∀ (vv33 : Int32) (vv34 : Int32) (vv35 : Int32) (mm36 : JM)  (H : Heap) (locs : List Loc) (ls : Array Slot), G23 (some (vv33, vv34, vv35, mm36)) = some r → JW D Y ty ad A s.heap mm36 H locs → lv_has ls 9 [(6, .int vv16), (5, .int vv35), (4, .int vv34), (3, .int vv33), (0, .ref (ad o)), (2, .int p2)] → W p l e R s m args below meth c H locs 0 0 Q (F0 m 162 ls []) := by
          intro vv33 vv34 vv35 mm36  H locs ls hE jw hl
          replace hE := j_popB eG23 hE
          try dsimp only at hE
          obtain ⟨vv37, evv37, hE⟩ := j_lv hE
          try dsimp only at hE
          refine lv_iinc (v := vv37) (lv' := [(6, .int vv37), (5, .int vv35), (4, .int vv34), (3, .int vv33), (0, .ref (ad o)), (2, .int p2)]) hx hb dX5_make_162 hl (k := 0) rfl (by rw [evv37]; rfl) (by decide) rfl (fun ls hl => ?_)
          refine lv_goto (tgt := 57) hx hb dX5_make_165 (by decide) ?_
          exact ih vv33 vv34 vv35 vv37 mm36 H locs ls hE jw (lv_sub hl [0, 1, 2, 3, 4, 5] rfl)
        have B32 : ∀ (H : Heap) (locs : List Loc), JW D Y ty ad A s.heap mm17 H locs → ((s_X0_isFirstKept Y mm17 (j_rf Y o 3) vv16) = 0 ∨ (s_X0_isFirstKept Y mm17 (j_rf Y o 4) vv16) = 0) → W p l e R s m args below meth c H locs 0 0 Q (F0 m 162 ls []) := by
          intro H locs jw hcc
          rw [if_pos hcc] at hE
          exact J23 vv13 vv14 vv15 mm17  H locs ls hE jw (lv_sub hl [0, 1, 2, 3, 4, 5] rfl)
        refine lv_if_eq (tgt := 162) hx hb dX5_make_78 (by decide) (fun c20 => B32 _ _ jw (Or.inl c20)) (fun c20 => ?_)
        refine lv_aload_n hx hb dX5_make_81 rfl (lv_at hl 4 rfl) ?_
        refine jg_5_4 jc jw ho wd_4_104 dX5_make_82 ?_
        refine lv_iload hx hb dX5_make_85 (lv_at hl 0 rfl) ?_
        refine jc_vz [.int vv16] [] jc jw hA k5 (by decide) rfl (c_X0_isFirstKept hY k5 (M := mm17) rfl) sd_X5_75 rfl hl.1 (j_hR hRf hRl rfl rfl) (Nat.le_of_ble_eq_true rfl) dX5_make_87 (fun H locs jw hz => ?_)
        have z_21 := hz
        refine lv_if_eq (tgt := 162) hx hb dX5_make_90 (by decide) (fun c22 => B32 _ _ jw (Or.inr c22)) (fun c22 => ?_)
        rw [if_neg (fun hq => hq.elim (fun hq => (j_abs c20 hq)) (fun hq => (j_abs c22 hq)))] at hE
        refine lv_aload_n hx hb dX5_make_93 rfl (lv_at hl 4 rfl) ?_
        refine jg_5_3 jc jw ho wd_4_103 dX5_make_94 ?_
        refine lv_iload hx hb dX5_make_97 (lv_at hl 0 rfl) ?_
        refine jc_vi [.int vv16] [] jc jw hA k1 (by decide) rfl (c_X0_partnerOf hY k1 (M := mm17) rfl) sd_X5_78 rfl hl.1 (j_hR hRf hRl rfl rfl) (Nat.le_of_ble_eq_true rfl) dX5_make_99 (fun H locs jw => ?_)
        refine lv_topi (fun vv24 evv24 => ?_)
        replace hE := j_lu hE evv24
        try dsimp only at hE
        refine lv_istore (lv' := [(7, .int vv24), (6, .int vv16), (5, .int vv15), (4, .int vv14), (3, .int vv13), (0, .ref (ad o)), (2, .int p2)]) hx hb dX5_make_102 hl (by decide) rfl (fun ls hl => ?_)
        refine lv_aload_n hx hb dX5_make_104 rfl (lv_at hl 5 rfl) ?_
        refine jg_5_4 jc jw ho wd_4_104 dX5_make_105 ?_
        refine lv_iload hx hb dX5_make_108 (lv_at hl 1 rfl) ?_
        refine jc_vi [.int vv16] [] jc jw hA k5 (by decide) rfl (c_X0_partnerOf hY k5 (M := mm17) rfl) sd_X5_78 rfl hl.1 (j_hR hRf hRl rfl rfl) (Nat.le_of_ble_eq_true rfl) dX5_make_110 (fun H locs jw => ?_)
        refine lv_topi (fun vv25 evv25 => ?_)
        replace hE := j_lu hE evv25
        try dsimp only at hE
        refine lv_istore (lv' := [(8, .int vv25), (7, .int vv24), (6, .int vv16), (5, .int vv15), (4, .int vv14), (3, .int vv13), (0, .ref (ad o)), (2, .int p2)]) hx hb dX5_make_113 hl (by decide) rfl (fun ls hl => ?_)
        refine lv_aload_n hx hb dX5_make_115 rfl (lv_at hl 6 rfl) ?_
        refine lv_aload_n hx hb dX5_make_116 rfl (lv_at hl 6 rfl) ?_
        refine lv_iload_n hx hb dX5_make_117 rfl (lv_at hl 5 rfl) ?_
        refine lv_iload hx hb dX5_make_118 (lv_at hl 2 rfl) ?_
        refine lv_iload hx hb dX5_make_120 (lv_at hl 4 rfl) ?_
        refine lv_iload hx hb dX5_make_122 (lv_at hl 1 rfl) ?_
        refine lv_iload hx hb dX5_make_124 (lv_at hl 3 rfl) ?_
        refine lv_iload hx hb dX5_make_126 (lv_at hl 0 rfl) ?_
        obtain ⟨xx26, exx26, hE⟩ := j_bd hG23 hE
        try dsimp only at hE
        refine jc_vi [.int vv13, .int vv16, .int vv14, .int vv24, .int vv15, .int vv25] [.ref (ad o)] jc jw hA ho (by decide) rfl (c_X5_addPart hY ho (M := mm17) exx26) sd_X5_82 rfl hl.1 (j_hR hRf hRl rfl rfl) (Nat.le_of_ble_eq_true rfl) dX5_make_128 (fun H locs jw => ?_)
        refine lv_iload_n hx hb dX5_make_131 rfl (lv_at hl 7 rfl) ?_
        obtain ⟨xx27, exx27, hE⟩ := j_bd hG23 hE
        try dsimp only at hE
        refine jc_vv [.int xx26.1, .int p2] [] jc jw hA ho (by decide) rfl (c_X5_addRegion hY ho (M := xx26.2) exx27) sd_X5_86 rfl hl.1 (j_hR hRf hRl rfl rfl) (Nat.le_of_ble_eq_true rfl) dX5_make_132 (fun H locs jw => ?_)
        refine lv_aload_n hx hb dX5_make_135 rfl (lv_at hl 6 rfl) ?_
        refine lv_iload hx hb dX5_make_136 (lv_at hl 2 rfl) ?_
        refine lv_iload hx hb dX5_make_138 (lv_at hl 1 rfl) ?_
        refine lv_iload hx hb dX5_make_140 (lv_at hl 0 rfl) ?_
        obtain ⟨xx28, exx28, hE⟩ := j_bd hG23 hE
        try dsimp only at hE
        refine jc_vv [.int vv16, .int vv24, .int vv25] [] jc jw hA ho (by decide) rfl (c_X5_addStable hY ho (M := xx27) exx28) sd_X5_90 rfl hl.1 (j_hR hRf hRl rfl rfl) (Nat.le_of_ble_eq_true rfl) dX5_make_142 (fun H locs jw => ?_)
        refine lv_iload hx hb dX5_make_145 (lv_at hl 2 rfl) ?_
        refine lv_iconst (v := 1) hx hb dX5_make_147 (by decide) ?_
        refine lv_iadd hx hb dX5_make_148 ?_
        refine lv_topi (fun vv29 evv29 => ?_)
        replace hE := j_lu hE evv29
        try dsimp only at hE
        refine lv_istore_n (lv' := [(3, .int vv29), (8, .int vv25), (7, .int vv24), (6, .int vv16), (5, .int vv15), (4, .int vv14), (0, .ref (ad o)), (2, .int p2)]) hx hb dX5_make_149 rfl hl (by decide) rfl (fun ls hl => ?_)
        refine lv_iload hx hb dX5_make_150 (lv_at hl 2 rfl) ?_
        refine lv_iconst (v := 1) hx hb dX5_make_152 (by decide) ?_
        refine lv_iadd hx hb dX5_make_153 ?_
        refine lv_topi (fun vv30 evv30 => ?_)
        replace hE := j_lu hE evv30
        try dsimp only at hE
        refine lv_istore (lv' := [(4, .int vv30), (3, .int vv29), (8, .int vv25), (7, .int vv24), (6, .int vv16), (5, .int vv15), (0, .ref (ad o)), (2, .int p2)]) hx hb dX5_make_154 hl (by decide) rfl (fun ls hl => ?_)
        refine lv_iload hx hb dX5_make_156 (lv_at hl 2 rfl) ?_
        refine lv_iconst (v := 1) hx hb dX5_make_158 (by decide) ?_
        refine lv_iadd hx hb dX5_make_159 ?_
        refine lv_topi (fun vv31 evv31 => ?_)
        replace hE := j_lu hE evv31
        try dsimp only at hE
        refine lv_istore (lv' := [(5, .int vv31), (4, .int vv30), (3, .int vv29), (8, .int vv25), (7, .int vv24), (6, .int vv16), (0, .ref (ad o)), (2, .int p2)]) hx hb dX5_make_160 hl (by decide) rfl (fun ls hl => ?_)
        exact J23 vv29 vv30 vv31 xx28  H locs ls hE jw (lv_sub hl [5, 0, 1, 2, 6, 7] rfl)
  exact LP12 j_fuel (0 : Int32) (0 : Int32) (0 : Int32) (0 : Int32) xx11 H locs ls hE jw (lv_sub hl [0, 1, 2, 3, 4, 6] rfl)

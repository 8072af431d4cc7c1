def s_X1_exists (Y : JY) (M : JM) (o : Nat) : Int32 := (j_z (M o 8))
set_option maxRecDepth 100000 in
set_option maxHeartbeats 4000000 in
theorem c_X1_exists {D : va_G} {Y : JY} {ty : Nat → ClassId} {ad : Nat → Nat} {sz : Nat} {l : Launch} {M : JM} (hY : j_ok Y) {o : Nat} (ho : j_kd Y o = 1) {r : Int32} (hE : s_X1_exists Y M o = r) : JMz D Y ty ad sz l yX1_exists cX1_exists 1 0 0 [.ref (ad o)] M r M := by
  refine j_ofZ hY (by decide +kernel) (Nat.le_of_ble_eq_true rfl) (fun p e s m below meth c args R Q A hRf hRl hA jc jw kr ls hl => ?_)
  have hx := jc.1
  have hb := jc.2.1
  have hl : lv_has ls 1 [(0, .ref (ad o))] := hl
  unfold s_X1_exists at hE
  obtain ⟨G0, eG0, hE⟩ := j_F0 hE
  refine lv_aload_n hx hb dX1_exists_0 rfl (lv_at hl 0 rfl) ?_
  refine jg_1_8 jc jw ho wd_4_69 dX1_exists_1 ?_
  exact kr _ _ _ _ _ _ (j_ret eG0 hE) rfl (j_z01 _) jw dX1_exists_4
def s_X1_first (Y : JY) (M : JM) (o : Nat) : Nat := (j_rf Y o 0)
set_option maxRecDepth 100000 in
set_option maxHeartbeats 4000000 in
theorem c_X1_first {D : va_G} {Y : JY} {ty : Nat → ClassId} {ad : Nat → Nat} {sz : Nat} {l : Launch} {M : JM} (hY : j_ok Y) {o : Nat} (ho : j_kd Y o = 1) {r : Nat} (hE : s_X1_first Y M o = r) : JMr D Y ty ad sz l yX1_first cX1_first 1 (some (.object "MergeWorkbench$Lines")) 0 0 [.ref (ad o)] M r M 4 := by
  refine j_ofR hY (by decide +kernel) (Nat.le_of_ble_eq_true rfl) (fun p e s m below meth c args R Q A hRf hRl hA jc jw kr ls hl => ?_)
  have hx := jc.1
  have hb := jc.2.1
  have hl : lv_has ls 1 [(0, .ref (ad o))] := hl
  unfold s_X1_first at hE
  obtain ⟨G0, eG0, hE⟩ := j_F0 hE
  refine lv_aload_n hx hb dX1_first_0 rfl (lv_at hl 0 rfl) ?_
  refine jg_1_0 jc jw ho wd_4_61 dX1_first_1 ?_
  have k1 := j_sub hY ho 0 (f := 4) rfl (by decide) (by decide) (by decide)
  exact kr _ _ _ _ _ _ (j_ret eG0 hE) rfl k1 jw dX1_first_4
def s_X1_second (Y : JY) (M : JM) (o : Nat) : Nat := (j_rf Y o 1)
set_option maxRecDepth 100000 in
set_option maxHeartbeats 4000000 in
theorem c_X1_second {D : va_G} {Y : JY} {ty : Nat → ClassId} {ad : Nat → Nat} {sz : Nat} {l : Launch} {M : JM} (hY : j_ok Y) {o : Nat} (ho : j_kd Y o = 1) {r : Nat} (hE : s_X1_second Y M o = r) : JMr D Y ty ad sz l yX1_second cX1_second 1 (some (.object "MergeWorkbench$Lines")) 0 0 [.ref (ad o)] M r M 4 := by
  refine j_ofR hY (by decide +kernel) (Nat.le_of_ble_eq_true rfl) (fun p e s m below meth c args R Q A hRf hRl hA jc jw kr ls hl => ?_)
  have hx := jc.1
  have hb := jc.2.1
  have hl : lv_has ls 1 [(0, .ref (ad o))] := hl
  unfold s_X1_second at hE
  obtain ⟨G0, eG0, hE⟩ := j_F0 hE
  refine lv_aload_n hx hb dX1_second_0 rfl (lv_at hl 0 rfl) ?_
  refine jg_1_1 jc jw ho wd_4_62 dX1_second_1 ?_
  have k1 := j_sub hY ho 1 (f := 4) rfl (by decide) (by decide) (by decide)
  exact kr _ _ _ _ _ _ (j_ret eG0 hE) rfl k1 jw dX1_second_4
def s_X1_alignment (Y : JY) (M : JM) (o : Nat) : Nat := (j_rf Y o 2)
set_option maxRecDepth 100000 in
set_option maxHeartbeats 4000000 in
theorem c_X1_alignment {D : va_G} {Y : JY} {ty : Nat → ClassId} {ad : Nat → Nat} {sz : Nat} {l : Launch} {M : JM} (hY : j_ok Y) {o : Nat} (ho : j_kd Y o = 1) {r : Nat} (hE : s_X1_alignment Y M o = r) : JMr D Y ty ad sz l yX1_alignment cX1_alignment 1 (some (.object "MergeWorkbench$Alignment")) 0 0 [.ref (ad o)] M r M 0 := by
  refine j_ofR hY (by decide +kernel) (Nat.le_of_ble_eq_true rfl) (fun p e s m below meth c args R Q A hRf hRl hA jc jw kr ls hl => ?_)
  have hx := jc.1
  have hb := jc.2.1
  have hl : lv_has ls 1 [(0, .ref (ad o))] := hl
  unfold s_X1_alignment at hE
  obtain ⟨G0, eG0, hE⟩ := j_F0 hE
  refine lv_aload_n hx hb dX1_alignment_0 rfl (lv_at hl 0 rfl) ?_
  refine jg_1_2 jc jw ho wd_4_63 dX1_alignment_1 ?_
  have k1 := j_sub hY ho 2 (f := 0) rfl (by decide) (by decide) (by decide)
  exact kr _ _ _ _ _ _ (j_ret eG0 hE) rfl k1 jw dX1_alignment_4
def s_X1_parts (Y : JY) (M : JM) (o : Nat) : Nat := (j_rf Y o 3)
set_option maxRecDepth 100000 in
set_option maxHeartbeats 4000000 in
theorem c_X1_parts {D : va_G} {Y : JY} {ty : Nat → ClassId} {ad : Nat → Nat} {sz : Nat} {l : Launch} {M : JM} (hY : j_ok Y) {o : Nat} (ho : j_kd Y o = 1) {r : Nat} (hE : s_X1_parts Y M o = r) : JMr D Y ty ad sz l yX1_parts cX1_parts 1 (some (.object "MergeWorkbench$Table")) 0 0 [.ref (ad o)] M r M 8 := by
  refine j_ofR hY (by decide +kernel) (Nat.le_of_ble_eq_true rfl) (fun p e s m below meth c args R Q A hRf hRl hA jc jw kr ls hl => ?_)
  have hx := jc.1
  have hb := jc.2.1
  have hl : lv_has ls 1 [(0, .ref (ad o))] := hl
  unfold s_X1_parts at hE
  obtain ⟨G0, eG0, hE⟩ := j_F0 hE
  refine lv_aload_n hx hb dX1_parts_0 rfl (lv_at hl 0 rfl) ?_
  refine jg_1_3 jc jw ho wd_4_64 dX1_parts_1 ?_
  have k1 := j_sub hY ho 3 (f := 8) rfl (by decide) (by decide) (by decide)
  exact kr _ _ _ _ _ _ (j_ret eG0 hE) rfl k1 jw dX1_parts_4
def s_X1_moved (Y : JY) (M : JM) (o : Nat) : Nat := (j_rf Y o 5)
set_option maxRecDepth 100000 in
set_option maxHeartbeats 4000000 in
theorem c_X1_moved {D : va_G} {Y : JY} {ty : Nat → ClassId} {ad : Nat → Nat} {sz : Nat} {l : Launch} {M : JM} (hY : j_ok Y) {o : Nat} (ho : j_kd Y o = 1) {r : Nat} (hE : s_X1_moved Y M o = r) : JMr D Y ty ad sz l yX1_moved cX1_moved 1 (some (.object "MergeWorkbench$Table")) 0 0 [.ref (ad o)] M r M 8 := by
  refine j_ofR hY (by decide +kernel) (Nat.le_of_ble_eq_true rfl) (fun p e s m below meth c args R Q A hRf hRl hA jc jw kr ls hl => ?_)
  have hx := jc.1
  have hb := jc.2.1
  have hl : lv_has ls 1 [(0, .ref (ad o))] := hl
  unfold s_X1_moved at hE
  obtain ⟨G0, eG0, hE⟩ := j_F0 hE
  refine lv_aload_n hx hb dX1_moved_0 rfl (lv_at hl 0 rfl) ?_
  refine jg_1_5 jc jw ho wd_4_66 dX1_moved_1 ?_
  have k1 := j_sub hY ho 5 (f := 8) rfl (by decide) (by decide) (by decide)
  exact kr _ _ _ _ _ _ (j_ret eG0 hE) rfl k1 jw dX1_moved_4
def lp_X1_addDifference_2 (Y : JY) (p4 : Int32) (o : Nat) (n : Nat) (vv20 : Int32) (mm21 : JM) : Option (JM) := match n with
  | 0 => none
  | n + 1 => if p4 ≤ vv20 then (some mm21) else (lt_ (s_X4_push Y mm21 (j_rf Y o 4) ((200 : Int32) + (s_X4_at Y mm21 (j_rf Y o 1) vv20))) fun xx25 => lt_ (vv20 + (1 : Int32)) fun vv26 => lp_X1_addDifference_2 Y p4 o n vv26 xx25)
def lp_X1_addDifference_1 (Y : JY) (p2 : Int32) (o : Nat) (n : Nat) (vv11 : Int32) (mm12 : JM) : Option (JM) := match n with
  | 0 => none
  | n + 1 => if p2 ≤ vv11 then (some mm12) else (lt_ (s_X4_push Y mm12 (j_rf Y o 4) ((100 : Int32) + (s_X4_at Y mm12 (j_rf Y o 0) vv11))) fun xx16 => lt_ (vv11 + (1 : Int32)) fun vv17 => lp_X1_addDifference_1 Y p2 o n vv17 xx16)
def s_X1_addDifference (Y : JY) (M : JM) (o : Nat) (p1 : Int32) (p2 : Int32) (p3 : Int32) (p4 : Int32) : Option (JM) := if ¬ (p1 = p2) ∨ ¬ (p3 = p4) then ((s_X8_addRow Y M (j_rf Y o 3)).bind fun xx4 => lt_ xx4.1 fun vv5 => lt_ (s_X8_put Y xx4.2 (j_rf Y o 3) vv5 (0 : Int32) p1) fun xx6 => lt_ (s_X8_put Y xx6 (j_rf Y o 3) vv5 (1 : Int32) p2) fun xx7 => lt_ (s_X8_put Y xx7 (j_rf Y o 3) vv5 (2 : Int32) p3) fun xx8 => lt_ (s_X8_put Y xx8 (j_rf Y o 3) vv5 (3 : Int32) p4) fun xx9 => (lp_X1_addDifference_1 Y p2 o j_fuel p1 xx9).bind fun xx28 => (lp_X1_addDifference_2 Y p4 o j_fuel p3 xx28).bind fun xx27 => some xx27) else (some M)
set_option maxRecDepth 100000 in
set_option maxHeartbeats 4000000 in
theorem c_X1_addDifference {D : va_G} {Y : JY} {ty : Nat → ClassId} {ad : Nat → Nat} {sz : Nat} {l : Launch} {M : JM} (hY : j_ok Y) {o : Nat} {p1 : Int32} {p2 : Int32} {p3 : Int32} {p4 : Int32} (ho : j_kd Y o = 1) {r : JM} (hE : s_X1_addDifference Y M o p1 p2 p3 p4 = some r) : JMv D Y ty ad sz l yX1_addDifference cX1_addDifference 7 2 47 [.ref (ad o), .int p1, .int p2, .int p3, .int p4] M r := by
  refine j_ofV hY (by decide +kernel) (Nat.le_of_ble_eq_true rfl) (fun p e s m below meth c args R Q A hRf hRl hA jc jw kr ls hl => ?_)
  have hx := jc.1
  have hb := jc.2.1
  have hl : lv_has ls 7 [(0, .ref (ad o)), (1, .int p1), (2, .int p2), (3, .int p3), (4, .int p4)] := hl
  unfold s_X1_addDifference at hE
  obtain ⟨G0, eG0, hG0, hE⟩ := j_F0o hE
  refine lv_iload_n hx hb dX1_addDifference_0 rfl (lv_at hl 1 rfl) ?_
  refine lv_iload_n hx hb dX1_addDifference_1 rfl (lv_at hl 2 rfl) ?_
  have B29 : ∀ (H : Heap) (locs : List Loc), JW D Y ty ad A s.heap M H locs → (¬ (p1 = p2) ∨ ¬ (p3 = p4)) → W p l e R s m args below meth c H locs 0 0 Q (F0 m 12 ls []) := by
    intro H locs jw hcc
    rw [if_pos hcc] at hE
    refine lv_aload_n hx hb dX1_addDifference_12 rfl (lv_at hl 0 rfl) ?_
    refine jg_1_3 jc jw ho wd_4_64 dX1_addDifference_13 ?_
    have k3 := j_sub hY ho 3 (f := 8) rfl (by decide) (by decide) (by decide)
    obtain ⟨xx4, exx4, hE⟩ := j_bd hG0 hE
    try dsimp only at hE
    refine jc_vi [] [] jc jw hA k3 (by decide) rfl (c_X8_addRow hY k3 (M := M) exx4) sd_X1_95 rfl hl.1 (j_hR hRf hRl rfl rfl) (Nat.le_of_ble_eq_true rfl) dX1_addDifference_16 (fun H locs jw => ?_)
    refine lv_topi (fun vv5 evv5 => ?_)
    replace hE := j_lu hE evv5
    try dsimp only at hE
    refine lv_istore (lv' := [(5, .int vv5), (0, .ref (ad o)), (1, .int p1), (2, .int p2), (3, .int p3), (4, .int p4)]) hx hb dX1_addDifference_19 hl (by decide) rfl (fun ls hl => ?_)
    refine lv_aload_n hx hb dX1_addDifference_21 rfl (lv_at hl 1 rfl) ?_
    refine jg_1_3 jc jw ho wd_4_64 dX1_addDifference_22 ?_
    refine lv_iload hx hb dX1_addDifference_25 (lv_at hl 0 rfl) ?_
    refine lv_iconst (v := 0) hx hb dX1_addDifference_27 (by decide) ?_
    refine lv_iload_n hx hb dX1_addDifference_28 rfl (lv_at hl 2 rfl) ?_
    obtain ⟨xx6, exx6, hE⟩ := j_lv hE
    try dsimp only at hE
    refine jc_vv [.int vv5, .int (0 : Int32), .int p1] [] jc jw hA k3 (by decide) rfl (c_X8_put hY k3 (M := xx4.2) exx6.symm) sd_X1_98 rfl hl.1 (j_hR hRf hRl rfl rfl) (Nat.le_of_ble_eq_true rfl) dX1_addDifference_29 (fun H locs jw => ?_)
    refine lv_aload_n hx hb dX1_addDifference_32 rfl (lv_at hl 1 rfl) ?_
    refine jg_1_3 jc jw ho wd_4_64 dX1_addDifference_33 ?_
    refine lv_iload hx hb dX1_addDifference_36 (lv_at hl 0 rfl) ?_
    refine lv_iconst (v := 1) hx hb dX1_addDifference_38 (by decide) ?_
    refine lv_iload_n hx hb dX1_addDifference_39 rfl (lv_at hl 3 rfl) ?_
    obtain ⟨xx7, exx7, hE⟩ := j_lv hE
    try dsimp only at hE
    refine jc_vv [.int vv5, .int (1 : Int32), .int p2] [] jc jw hA k3 (by decide) rfl (c_X8_put hY k3 (M := xx6) exx7.symm) sd_X1_98 rfl hl.1 (j_hR hRf hRl rfl rfl) (Nat.le_of_ble_eq_true rfl) dX1_addDifference_40 (fun H locs jw => ?_)
    refine lv_aload_n hx hb dX1_addDifference_43 rfl (lv_at hl 1 rfl) ?_
    refine jg_1_3 jc jw ho wd_4_64 dX1_addDifference_44 ?_
    refine lv_iload hx hb dX1_addDifference_47 (lv_at hl 0 rfl) ?_
    refine lv_iconst (v := 2) hx hb dX1_addDifference_49 (by decide) ?_
    refine lv_iload_n hx hb dX1_addDifference_50 rfl (lv_at hl 4 rfl) ?_
    obtain ⟨xx8, exx8, hE⟩ := j_lv hE
    try dsimp only at hE
    refine jc_vv [.int vv5, .int (2 : Int32), .int p3] [] jc jw hA k3 (by decide) rfl (c_X8_put hY k3 (M := xx7) exx8.symm) sd_X1_98 rfl hl.1 (j_hR hRf hRl rfl rfl) (Nat.le_of_ble_eq_true rfl) dX1_addDifference_51 (fun H locs jw => ?_)
    refine lv_aload_n hx hb dX1_addDifference_54 rfl (lv_at hl 1 rfl) ?_
    refine jg_1_3 jc jw ho wd_4_64 dX1_addDifference_55 ?_
    refine lv_iload hx hb dX1_addDifference_58 (lv_at hl 0 rfl) ?_
    refine lv_iconst (v := 3) hx hb dX1_addDifference_60 (by decide) ?_
    refine lv_iload hx hb dX1_addDifference_61 (lv_at hl 5 rfl) ?_
    obtain ⟨xx9, exx9, hE⟩ := j_lv hE
    try dsimp only at hE
    refine jc_vv [.int vv5, .int (3 : Int32), .int p4] [] jc jw hA k3 (by decide) rfl (c_X8_put hY k3 (M := xx8) exx9.symm) sd_X1_98 rfl hl.1 (j_hR hRf hRl rfl rfl) (Nat.le_of_ble_eq_true rfl) dX1_addDifference_63 (fun H locs jw => ?_)
    refine lv_iload_n hx hb dX1_addDifference_66 rfl (lv_at hl 2 rfl) ?_
    refine lv_istore (lv' := [(6, .int p1), (5, .int vv5), (0, .ref (ad o)), (1, .int p1), (2, .int p2), (3, .int p3), (4, .int p4)]) hx hb dX1_addDifference_67 hl (by decide) rfl (fun ls hl => ?_)
    obtain ⟨G10, eG10, hG10, hE⟩ := j_ctxB hG0 hE
    have E10_100 : ∀ (mm18 : JM)  (H : Heap) (locs : List Loc) (ls : Array Slot), G10 (some mm18) = some r → JW D Y ty ad A s.heap mm18 H locs → lv_has ls 7 [(0, .ref (ad o)), (3, .int p3), (4, .int p4)] → W p l e R s m args below meth c H locs 0 0 Q (F0 m 100 ls []) := by
      intro mm18  H locs ls hE jw hl
      replace hE := j_popB eG10 hE
      try dsimp only at hE
      refine lv_iload_n hx hb dX1_addDifference_100 rfl (lv_at hl 1 rfl) ?_
      refine lv_istore (lv' := [(6, .int p3), (0, .ref (ad o)), (3, .int p3), (4, .int p4)]) hx hb dX1_addDifference_101 hl (by decide) rfl (fun ls hl => ?_)
      obtain ⟨G19, eG19, hG19, hE⟩ := j_ctxB hG0 hE
      have LP19 : ∀ (n : Nat) (vv20 : Int32) (mm21 : JM) (H : Heap) (locs : List Loc) (ls : Array Slot), G19 (lp_X1_addDifference_2 Y p4 o n vv20 mm21) = some r → JW D Y ty ad A s.heap mm21 H locs → lv_has ls 7 [(6, .int vv20), (0, .ref (ad o)), (4, .int p4)] → W p l e R s m args below meth c H locs 0 0 Q (F0 m 103 ls []) := by
        intro n
        induction n with
        | zero => intro vv20 mm21 H locs ls hE jw hl; exact absurd hE (hG19 _)
        | succ n ih =>
          intro vv20 mm21 H locs ls hE jw hl
          rw [lp_X1_addDifference_2] at hE
          refine lv_iload hx hb dX1_addDifference_103 (lv_at hl 0 rfl) ?_
          refine lv_iload hx hb dX1_addDifference_105 (lv_at hl 2 rfl) ?_
          refine lv_icmp_ge (tgt := 136) hx hb dX1_addDifference_107 (by decide) (fun c22 => ?_) (fun c22 => ?_)
          · rw [if_pos c22] at hE
            replace hE := j_popB eG19 hE
            try dsimp only at hE
            exact kr _ _ _ _ _ (Option.some.inj (j_ret eG0 hE)) jw dX1_addDifference_136
          · rw [if_neg c22] at hE
            refine lv_aload_n hx hb dX1_addDifference_110 rfl (lv_at hl 1 rfl) ?_
            refine jg_1_4 jc jw ho wd_4_65 dX1_addDifference_111 ?_
            have k23 := j_sub hY ho 4 (f := 4) rfl (by decide) (by decide) (by decide)
            refine lv_sipush (v := 200) hx hb dX1_addDifference_114 (by decide) ?_
            refine lv_aload_n hx hb dX1_addDifference_117 rfl (lv_at hl 1 rfl) ?_
            refine jg_1_1 jc jw ho wd_4_62 dX1_addDifference_118 ?_
            have k24 := j_sub hY ho 1 (f := 4) rfl (by decide) (by decide) (by decide)
            refine lv_iload hx hb dX1_addDifference_121 (lv_at hl 0 rfl) ?_
            refine jc_vi [.int vv20] [.int (200 : Int32), .ref (ad (j_rf Y o 4))] jc jw hA k24 (by decide) rfl (c_X4_at hY k24 (M := mm21) rfl) sd_X1_89 rfl hl.1 (j_hR hRf hRl rfl rfl) (Nat.le_of_ble_eq_true rfl) dX1_addDifference_123 (fun H locs jw => ?_)
            refine lv_iadd hx hb dX1_addDifference_126 ?_
            obtain ⟨xx25, exx25, hE⟩ := j_lv hE
            try dsimp only at hE
            refine jc_vv [.int ((200 : Int32) + (s_X4_at Y mm21 (j_rf Y o 1) vv20))] [] jc jw hA k23 (by decide) rfl (c_X4_push hY k23 (M := mm21) exx25.symm) sd_X1_92 rfl hl.1 (j_hR hRf hRl rfl rfl) (Nat.le_of_ble_eq_true rfl) dX1_addDifference_127 (fun H locs jw => ?_)
            obtain ⟨vv26, evv26, hE⟩ := j_lv hE
            try dsimp only at hE
            refine lv_iinc (v := vv26) (lv' := [(6, .int vv26), (0, .ref (ad o)), (4, .int p4)]) hx hb dX1_addDifference_130 hl (k := 0) rfl (by rw [evv26]; rfl) (by decide) rfl (fun ls hl => ?_)
            refine lv_goto (tgt := 103) hx hb dX1_addDifference_133 (by decide) ?_
            exact ih vv26 xx25 H locs ls hE jw (lv_sub hl [0, 1, 2] rfl)
      exact LP19 j_fuel p3 mm18 H locs ls hE jw (lv_sub hl [0, 1, 3] rfl)
    have LP10 : ∀ (n : Nat) (vv11 : Int32) (mm12 : JM) (H : Heap) (locs : List Loc) (ls : Array Slot), G10 (lp_X1_addDifference_1 Y p2 o n vv11 mm12) = some r → JW D Y ty ad A s.heap mm12 H locs → lv_has ls 7 [(6, .int vv11), (0, .ref (ad o)), (2, .int p2), (3, .int p3), (4, .int p4)] → W p l e R s m args below meth c H locs 0 0 Q (F0 m 69 ls []) := by
      intro n
      induction n with
      | zero => intro vv11 mm12 H locs ls hE jw hl; exact absurd hE (hG10 _)
      | succ n ih =>
        intro vv11 mm12 H locs ls hE jw hl
        rw [lp_X1_addDifference_1] at hE
        refine lv_iload hx hb dX1_addDifference_69 (lv_at hl 0 rfl) ?_
        refine lv_iload_n hx hb dX1_addDifference_71 rfl (lv_at hl 2 rfl) ?_
        refine lv_icmp_ge (tgt := 100) hx hb dX1_addDifference_72 (by decide) (fun c13 => ?_) (fun c13 => ?_)
        · rw [if_pos c13] at hE
          exact E10_100 mm12  H locs ls hE jw (lv_sub hl [1, 3, 4] rfl)
        · rw [if_neg c13] at hE
          refine lv_aload_n hx hb dX1_addDifference_75 rfl (lv_at hl 1 rfl) ?_
          refine jg_1_4 jc jw ho wd_4_65 dX1_addDifference_76 ?_
          have k14 := j_sub hY ho 4 (f := 4) rfl (by decide) (by decide) (by decide)
          refine lv_bipush (v := 100) hx hb dX1_addDifference_79 (by decide) ?_
          refine lv_aload_n hx hb dX1_addDifference_81 rfl (lv_at hl 1 rfl) ?_
          refine jg_1_0 jc jw ho wd_4_61 dX1_addDifference_82 ?_
          have k15 := j_sub hY ho 0 (f := 4) rfl (by decide) (by decide) (by decide)
          refine lv_iload hx hb dX1_addDifference_85 (lv_at hl 0 rfl) ?_
          refine jc_vi [.int vv11] [.int (100 : Int32), .ref (ad (j_rf Y o 4))] jc jw hA k15 (by decide) rfl (c_X4_at hY k15 (M := mm12) rfl) sd_X1_89 rfl hl.1 (j_hR hRf hRl rfl rfl) (Nat.le_of_ble_eq_true rfl) dX1_addDifference_87 (fun H locs jw => ?_)
          refine lv_iadd hx hb dX1_addDifference_90 ?_
          obtain ⟨xx16, exx16, hE⟩ := j_lv hE
          try dsimp only at hE
          refine jc_vv [.int ((100 : Int32) + (s_X4_at Y mm12 (j_rf Y o 0) vv11))] [] jc jw hA k14 (by decide) rfl (c_X4_push hY k14 (M := mm12) exx16.symm) sd_X1_92 rfl hl.1 (j_hR hRf hRl rfl rfl) (Nat.le_of_ble_eq_true rfl) dX1_addDifference_91 (fun H locs jw => ?_)
          obtain ⟨vv17, evv17, hE⟩ := j_lv hE
          try dsimp only at hE
          refine lv_iinc (v := vv17) (lv' := [(6, .int vv17), (0, .ref (ad o)), (2, .int p2), (3, .int p3), (4, .int p4)]) hx hb dX1_addDifference_94 hl (k := 0) rfl (by rw [evv17]; rfl) (by decide) rfl (fun ls hl => ?_)
          refine lv_goto (tgt := 69) hx hb dX1_addDifference_97 (by decide) ?_
          exact ih vv17 xx16 H locs ls hE jw (lv_sub hl [0, 1, 2, 3, 4] rfl)
    exact LP10 j_fuel p1 xx9 H locs ls hE jw (lv_sub hl [0, 2, 4, 5, 6] rfl)
  refine lv_icmp_ne (tgt := 12) hx hb dX1_addDifference_2 (by decide) (fun c1 => B29 _ _ jw (Or.inl c1)) (fun c1 => ?_)
  refine lv_iload_n hx hb dX1_addDifference_5 rfl (lv_at hl 3 rfl) ?_
  refine lv_iload hx hb dX1_addDifference_6 (lv_at hl 4 rfl) ?_
  refine lv_icmp_ne (tgt := 12) hx hb dX1_addDifference_8 (by decide) (fun c2 => B29 _ _ jw (Or.inr c2)) (fun c2 => ?_)
  rw [if_neg (fun hq => hq.elim (fun hq => (j_absn c1 hq)) (fun hq => (j_absn c2 hq)))] at hE
  exact kr _ _ _ _ _ (Option.some.inj (j_ret eG0 hE)) jw dX1_addDifference_11
def lp_X1_collectDifferences_1 (Y : JY) (o : Nat) (n : Nat) (vv2 : Int32) (vv3 : Int32) (vv4 : Int32) (mm5 : JM) : Option (Int32 × Int32 × JM) := match n with
  | 0 => none
  | n + 1 => if (s_X4_size Y mm5 (j_rf Y o 0)) ≤ vv4 then (some (vv2, vv3, mm5)) else ((if (s_X0_isFirstKept Y mm5 (j_rf Y o 2) vv4) = 0 then (some (vv2, vv3, mm5)) else (lt_ (s_X0_partnerOf Y mm5 (j_rf Y o 2) vv4) fun vv12 => (s_X1_addDifference Y mm5 o vv2 vv4 vv3 vv12).bind fun xx13 => lt_ (s_X4_push Y xx13 (j_rf Y o 4) ((0 : Int32) + (s_X4_at Y xx13 (j_rf Y o 0) vv4))) fun xx15 => lt_ (vv4 + (1 : Int32)) fun vv16 => lt_ (vv12 + (1 : Int32)) fun vv17 => some (vv16, vv17, xx15))).bind fun xx22 => lt_ (vv4 + (1 : Int32)) fun vv21 => lp_X1_collectDifferences_1 Y o n xx22.1 xx22.2.1 vv21 xx22.2.2)
def s_X1_collectDifferences (Y : JY) (M : JM) (o : Nat) : Option (JM) := (lp_X1_collectDifferences_1 Y o j_fuel (0 : Int32) (0 : Int32) (0 : Int32) M).bind fun xx29 => (s_X1_addDifference Y xx29.2.2 o xx29.1 (s_X4_size Y xx29.2.2 (j_rf Y o 0)) xx29.2.1 (s_X4_size Y xx29.2.2 (j_rf Y o 1))).bind fun xx28 => some xx28
set_option maxRecDepth 100000 in
set_option maxHeartbeats 4000000 in
theorem c_X1_collectDifferences {D : va_G} {Y : JY} {ty : Nat → ClassId} {ad : Nat → Nat} {sz : Nat} {l : Launch} {M : JM} (hY : j_ok Y) {o : Nat} (ho : j_kd Y o = 1) {r : JM} (hE : s_X1_collectDifferences Y M o = some r) : JMv D Y ty ad sz l yX1_collectDifferences cX1_collectDifferences 5 3 73 [.ref (ad o)] M r := by
  refine j_ofV hY (by decide +kernel) (Nat.le_of_ble_eq_true rfl) (fun p e s m below meth c args R Q A hRf hRl hA jc jw kr ls hl => ?_)
  have hx := jc.1
  have hb := jc.2.1
  have hl : lv_has ls 5 [(0, .ref (ad o))] := hl
  unfold s_X1_collectDifferences at hE
  obtain ⟨G0, eG0, hG0, hE⟩ := j_F0o hE
  refine lv_iconst (v := 0) hx hb dX1_collectDifferences_0 (by decide) ?_
  refine lv_istore_n (lv' := [(1, .int (0 : Int32)), (0, .ref (ad o))]) hx hb dX1_collectDifferences_1 rfl hl (by decide) rfl (fun ls hl => ?_)
  refine lv_iconst (v := 0) hx hb dX1_collectDifferences_2 (by decide) ?_
  refine lv_istore_n (lv' := [(2, .int (0 : Int32)), (1, .int (0 : Int32)), (0, .ref (ad o))]) hx hb dX1_collectDifferences_3 rfl hl (by decide) rfl (fun ls hl => ?_)
  refine lv_iconst (v := 0) hx hb dX1_collectDifferences_4 (by decide) ?_
  refine lv_istore_n (lv' := [(3, .int (0 : Int32)), (2, .int (0 : Int32)), (1, .int (0 : Int32)), (0, .ref (ad o))]) hx hb dX1_collectDifferences_5 rfl hl (by decide) rfl (fun ls hl => ?_)
  obtain ⟨G1, eG1, hG1, hE⟩ := j_ctxB hG0 hE
  have E1_79 : ∀ (vv23 : Int32) (vv24 : Int32) (mm25 : JM)  (H : Heap) (locs : List Loc) (ls : Array Slot), G1 (some (vv23, vv24, mm25)) = some r → JW D Y ty ad A s.heap mm25 H locs → lv_has ls 5 [(2, .int vv24), (1, .int vv23), (0, .ref (ad o))] → W p l e R s m args below meth c H locs 0 0 Q (F0 m 79 ls []) := by
    intro vv23 vv24 mm25  H locs ls hE jw hl
    replace hE := j_popB eG1 hE
    try dsimp only at hE
    refine lv_aload_n hx hb dX1_collectDifferences_79 rfl (lv_at hl 2 rfl) ?_
    refine lv_iload_n hx hb dX1_collectDifferences_80 rfl (lv_at hl 1 rfl) ?_
    refine lv_aload_n hx hb dX1_collectDifferences_81 rfl (lv_at hl 2 rfl) ?_
    refine jg_1_0 jc jw ho wd_4_61 dX1_collectDifferences_82 ?_
    have k26 := j_sub hY ho 0 (f := 4) rfl (by decide) (by decide) (by decide)
    refine jc_vi [] [.int vv23, .ref (ad o)] jc jw hA k26 (by decide) rfl (c_X4_size hY k26 (M := mm25) rfl) sd_X1_74 rfl hl.1 (j_hR hRf hRl rfl rfl) (Nat.le_of_ble_eq_true rfl) dX1_collectDifferences_85 (fun H locs jw => ?_)
    refine lv_iload_n hx hb dX1_collectDifferences_88 rfl (lv_at hl 0 rfl) ?_
    refine lv_aload_n hx hb dX1_collectDifferences_89 rfl (lv_at hl 2 rfl) ?_
    refine jg_1_1 jc jw ho wd_4_62 dX1_collectDifferences_90 ?_
    have k27 := j_sub hY ho 1 (f := 4) rfl (by decide) (by decide) (by decide)
    refine jc_vi [] [.int vv24, .int (s_X4_size Y mm25 (j_rf Y o 0)), .int vv23, .ref (ad o)] jc jw hA k27 (by decide) rfl (c_X4_size hY k27 (M := mm25) rfl) sd_X1_74 rfl hl.1 (j_hR hRf hRl rfl rfl) (Nat.le_of_ble_eq_true rfl) dX1_collectDifferences_93 (fun H locs jw => ?_)
    obtain ⟨xx28, exx28, hE⟩ := j_bd hG0 hE
    try dsimp only at hE
    refine jc_vv [.int vv23, .int (s_X4_size Y mm25 (j_rf Y o 0)), .int vv24, .int (s_X4_size Y mm25 (j_rf Y o 1))] [] jc jw hA ho (by decide) rfl (c_X1_addDifference hY ho (M := mm25) exx28) sd_X1_85 rfl hl.1 (j_hR hRf hRl rfl rfl) (Nat.le_of_ble_eq_true rfl) dX1_collectDifferences_96 (fun H locs jw => ?_)
    exact kr _ _ _ _ _ (Option.some.inj (j_ret eG0 hE)) jw dX1_collectDifferences_99
  have LP1 : ∀ (n : Nat) (vv2 : Int32) (vv3 : Int32) (vv4 : Int32) (mm5 : JM) (H : Heap) (locs : List Loc) (ls : Array Slot), G1 (lp_X1_collectDifferences_1 Y o n vv2 vv3 vv4 mm5) = some r → JW D Y ty ad A s.heap mm5 H locs → lv_has ls 5 [(3, .int vv4), (2, .int vv3), (1, .int vv2), (0, .ref (ad o))] → W p l e R s m args below meth c H locs 0 0 Q (F0 m 6 ls []) := by
    intro n
    induction n with
    | zero => intro vv2 vv3 vv4 mm5 H locs ls hE jw hl; exact absurd hE (hG1 _)
    | succ n ih =>
      intro vv2 vv3 vv4 mm5 H locs ls hE jw hl
      rw [lp_X1_collectDifferences_1] at hE
      refine lv_iload_n hx hb dX1_collectDifferences_6 rfl (lv_at hl 0 rfl) ?_
      refine lv_aload_n hx hb dX1_collectDifferences_7 rfl (lv_at hl 3 rfl) ?_
      refine jg_1_0 jc jw ho wd_4_61 dX1_collectDifferences_8 ?_
      have k6 := j_sub hY ho 0 (f := 4) rfl (by decide) (by decide) (by decide)
      refine jc_vi [] [.int vv4] jc jw hA k6 (by decide) rfl (c_X4_size hY k6 (M := mm5) rfl) sd_X1_74 rfl hl.1 (j_hR hRf hRl rfl rfl) (Nat.le_of_ble_eq_true rfl) dX1_collectDifferences_11 (fun H locs jw => ?_)
      refine lv_icmp_ge (tgt := 79) hx hb dX1_collectDifferences_14 (by decide) (fun c7 => ?_) (fun c7 => ?_)
      · rw [if_pos c7] at hE
        exact E1_79 vv2 vv3 mm5  H locs ls hE jw (lv_sub hl [1, 2, 3] rfl)
      · rw [if_neg c7] at hE
        refine lv_aload_n hx hb dX1_collectDifferences_17 rfl (lv_at hl 3 rfl) ?_
        refine jg_1_2 jc jw ho wd_4_63 dX1_collectDifferences_18 ?_
        have k8 := j_sub hY ho 2 (f := 0) rfl (by decide) (by decide) (by decide)
        refine lv_iload_n hx hb dX1_collectDifferences_21 rfl (lv_at hl 0 rfl) ?_
        refine jc_vz [.int vv4] [] jc jw hA k8 (by decide) rfl (c_X0_isFirstKept hY k8 (M := mm5) rfl) sd_X1_77 rfl hl.1 (j_hR hRf hRl rfl rfl) (Nat.le_of_ble_eq_true rfl) dX1_collectDifferences_22 (fun H locs jw hz => ?_)
        have z_9 := hz
        obtain ⟨G11, eG11, hG11, hE⟩ := j_ctxB hG1 hE
        have J11 : ∀ (vv18 : Int32) (vv19 : Int32) (mm20 : JM)  (H : Heap) (locs : List Loc) (ls : Array Slot), G11 (some (vv18, vv19, mm20)) = some r → JW D Y ty ad A s.heap mm20 H locs → lv_has ls 5 [(3, .int vv4), (2, .int vv19), (1, .int vv18), (0, .ref (ad o))] → W p l e R s m args below meth c H locs 0 0 Q (F0 m 73 ls []) := by
          intro vv18 vv19 mm20  H locs ls hE jw hl
          replace hE := j_popB eG11 hE
          try dsimp only at hE
          obtain ⟨vv21, evv21, hE⟩ := j_lv hE
          try dsimp only at hE
          refine lv_iinc (v := vv21) (lv' := [(3, .int vv21), (2, .int vv19), (1, .int vv18), (0, .ref (ad o))]) hx hb dX1_collectDifferences_73 hl (k := 0) rfl (by rw [evv21]; rfl) (by decide) rfl (fun ls hl => ?_)
          refine lv_goto (tgt := 6) hx hb dX1_collectDifferences_76 (by decide) ?_
          exact ih vv18 vv19 vv21 mm20 H locs ls hE jw (lv_sub hl [0, 1, 2, 3] rfl)
        refine lv_if_eq (tgt := 73) hx hb dX1_collectDifferences_25 (by decide) (fun c10 => ?_) (fun c10 => ?_)
        · rw [if_pos c10] at hE
          exact J11 vv2 vv3 mm5  H locs ls hE jw (lv_sub hl [0, 1, 2, 3] rfl)
        · rw [if_neg c10] at hE
          refine lv_aload_n hx hb dX1_collectDifferences_28 rfl (lv_at hl 3 rfl) ?_
          refine jg_1_2 jc jw ho wd_4_63 dX1_collectDifferences_29 ?_
          refine lv_iload_n hx hb dX1_collectDifferences_32 rfl (lv_at hl 0 rfl) ?_
          refine jc_vi [.int vv4] [] jc jw hA k8 (by decide) rfl (c_X0_partnerOf hY k8 (M := mm5) rfl) sd_X1_81 rfl hl.1 (j_hR hRf hRl rfl rfl) (Nat.le_of_ble_eq_true rfl) dX1_collectDifferences_33 (fun H locs jw => ?_)
          refine lv_topi (fun vv12 evv12 => ?_)
          replace hE := j_lu hE evv12
          try dsimp only at hE
          refine lv_istore (lv' := [(4, .int vv12), (3, .int vv4), (2, .int vv3), (1, .int vv2), (0, .ref (ad o))]) hx hb dX1_collectDifferences_36 hl (by decide) rfl (fun ls hl => ?_)
          refine lv_aload_n hx hb dX1_collectDifferences_38 rfl (lv_at hl 4 rfl) ?_
          refine lv_iload_n hx hb dX1_collectDifferences_39 rfl (lv_at hl 3 rfl) ?_
          refine lv_iload_n hx hb dX1_collectDifferences_40 rfl (lv_at hl 1 rfl) ?_
          refine lv_iload_n hx hb dX1_collectDifferences_41 rfl (lv_at hl 2 rfl) ?_
          refine lv_iload hx hb dX1_collectDifferences_42 (lv_at hl 0 rfl) ?_
          obtain ⟨xx13, exx13, hE⟩ := j_bd hG11 hE
          try dsimp only at hE
          refine jc_vv [.int vv2, .int vv4, .int vv3, .int vv12] [] jc jw hA ho (by decide) rfl (c_X1_addDifference hY ho (M := mm5) exx13) sd_X1_85 rfl hl.1 (j_hR hRf hRl rfl rfl) (Nat.le_of_ble_eq_true rfl) dX1_collectDifferences_44 (fun H locs jw => ?_)
          refine lv_aload_n hx hb dX1_collectDifferences_47 rfl (lv_at hl 4 rfl) ?_
          refine jg_1_4 jc jw ho wd_4_65 dX1_collectDifferences_48 ?_
          have k14 := j_sub hY ho 4 (f := 4) rfl (by decide) (by decide) (by decide)
          refine lv_iconst (v := 0) hx hb dX1_collectDifferences_51 (by decide) ?_
          refine lv_aload_n hx hb dX1_collectDifferences_52 rfl (lv_at hl 4 rfl) ?_
          refine jg_1_0 jc jw ho wd_4_61 dX1_collectDifferences_53 ?_
          refine lv_iload_n hx hb dX1_collectDifferences_56 rfl (lv_at hl 1 rfl) ?_
          refine jc_vi [.int vv4] [.int (0 : Int32), .ref (ad (j_rf Y o 4))] jc jw hA k6 (by decide) rfl (c_X4_at hY k6 (M := xx13) rfl) sd_X1_89 rfl hl.1 (j_hR hRf hRl rfl rfl) (Nat.le_of_ble_eq_true rfl) dX1_collectDifferences_57 (fun H locs jw => ?_)
          refine lv_iadd hx hb dX1_collectDifferences_60 ?_
          obtain ⟨xx15, exx15, hE⟩ := j_lv hE
          try dsimp only at hE
          refine jc_vv [.int ((0 : Int32) + (s_X4_at Y xx13 (j_rf Y o 0) vv4))] [] jc jw hA k14 (by decide) rfl (c_X4_push hY k14 (M := xx13) exx15.symm) sd_X1_92 rfl hl.1 (j_hR hRf hRl rfl rfl) (Nat.le_of_ble_eq_true rfl) dX1_collectDifferences_61 (fun H locs jw => ?_)
          refine lv_iload_n hx hb dX1_collectDifferences_64 rfl (lv_at hl 1 rfl) ?_
          refine lv_iconst (v := 1) hx hb dX1_collectDifferences_65 (by decide) ?_
          refine lv_iadd hx hb dX1_collectDifferences_66 ?_
          refine lv_topi (fun vv16 evv16 => ?_)
          replace hE := j_lu hE evv16
          try dsimp only at hE
          refine lv_istore_n (lv' := [(1, .int vv16), (4, .int vv12), (3, .int vv4), (2, .int vv3), (0, .ref (ad o))]) hx hb dX1_collectDifferences_67 rfl hl (by decide) rfl (fun ls hl => ?_)
          refine lv_iload hx hb dX1_collectDifferences_68 (lv_at hl 1 rfl) ?_
          refine lv_iconst (v := 1) hx hb dX1_collectDifferences_70 (by decide) ?_
          refine lv_iadd hx hb dX1_collectDifferences_71 ?_
          refine lv_topi (fun vv17 evv17 => ?_)
          replace hE := j_lu hE evv17
          try dsimp only at hE
          refine lv_istore_n (lv' := [(2, .int vv17), (1, .int vv16), (4, .int vv12), (3, .int vv4), (0, .ref (ad o))]) hx hb dX1_collectDifferences_72 rfl hl (by decide) rfl (fun ls hl => ?_)
          exact J11 vv16 vv17 xx15  H locs ls hE jw (lv_sub hl [3, 0, 1, 4] rfl)
  exact LP1 j_fuel (0 : Int32) (0 : Int32) (0 : Int32) M s.heap [] ls hE jw (lv_sub hl [0, 1, 2, 3] rfl)
def s_X1_make (Y : JY) (M : JM) (o : Nat) (q1 : Nat) (q2 : Nat) (p3 : Int32) : Option (Int32 × JM) := (s_X4_become Y M (j_rf Y o 0) q1).bind fun xx2 => (s_X4_become Y xx2 (j_rf Y o 1) q2).bind fun xx4 => (s_X0_build Y xx4 (j_rf Y o 2) (j_rf Y o 0) (j_rf Y o 1) p3).bind fun xx6 => lt_ (s_X8_clear Y xx6 (j_rf Y o 3)) fun xx8 => lt_ (s_X4_clear Y xx8 (j_rf Y o 4)) fun xx10 => lt_ (s_X8_clear Y xx10 (j_rf Y o 5)) fun xx12 => (s_X1_collectDifferences Y xx12 o).bind fun xx13 => lt_ (j_up xx13 o 8 (1 : Int32)) fun mm14 => some ((s_X0_pairs Y mm14 (j_rf Y o 2)), mm14)
set_option maxRecDepth 100000 in
set_option maxHeartbeats 4000000 in
theorem c_X1_make {D : va_G} {Y : JY} {ty : Nat → ClassId} {ad : Nat → Nat} {sz : Nat} {l : Launch} {M : JM} (hY : j_ok Y) {o : Nat} {q1 : Nat} {q2 : Nat} {p3 : Int32} (ho : j_kd Y o = 1) (hq1 : j_kd Y q1 = 4) (hq2 : j_kd Y q2 = 4) {r : Int32 × JM} (hE : s_X1_make Y M o q1 q2 p3 = some r) : JMi D Y ty ad sz l yX1_make cX1_make 4 (some .int) 5 137 [.ref (ad o), .ref (ad q1), .ref (ad q2), .int p3] M r.1 r.2 := by
  refine j_ofI hY (by decide +kernel) (Nat.le_of_ble_eq_true rfl) (fun p e s m below meth c args R Q A hRf hRl hA jc jw kr ls hl => ?_)
  have hx := jc.1
  have hb := jc.2.1
  have hl : lv_has ls 4 [(0, .ref (ad o)), (1, .ref (ad q1)), (2, .ref (ad q2)), (3, .int p3)] := hl
  unfold s_X1_make at hE
  obtain ⟨G0, eG0, hG0, hE⟩ := j_F0o hE
  refine lv_aload_n hx hb dX1_make_0 rfl (lv_at hl 0 rfl) ?_
  refine jg_1_0 jc jw ho wd_4_61 dX1_make_1 ?_
  have k1 := j_sub hY ho 0 (f := 4) rfl (by decide) (by decide) (by decide)
  refine lv_aload_n hx hb dX1_make_4 rfl (lv_at hl 1 rfl) ?_
  obtain ⟨xx2, exx2, hE⟩ := j_bd hG0 hE
  try dsimp only at hE
  refine jc_vv [.ref (ad q1)] [] jc jw hA k1 (by decide) rfl (c_X4_become hY k1 hq1 (M := M) exx2) sd_X1_55 rfl hl.1 (j_hR hRf hRl rfl rfl) (Nat.le_of_ble_eq_true rfl) dX1_make_5 (fun H locs jw => ?_)
  refine lv_aload_n hx hb dX1_make_8 rfl (lv_at hl 0 rfl) ?_
  refine jg_1_1 jc jw ho wd_4_62 dX1_make_9 ?_
  have k3 := j_sub hY ho 1 (f := 4) rfl (by decide) (by decide) (by decide)
  refine lv_aload_n hx hb dX1_make_12 rfl (lv_at hl 2 rfl) ?_
  obtain ⟨xx4, exx4, hE⟩ := j_bd hG0 hE
  try dsimp only at hE
  refine jc_vv [.ref (ad q2)] [] jc jw hA k3 (by decide) rfl (c_X4_become hY k3 hq2 (M := xx2) exx4) sd_X1_55 rfl hl.1 (j_hR hRf hRl rfl rfl) (Nat.le_of_ble_eq_true rfl) dX1_make_13 (fun H locs jw => ?_)
  refine lv_aload_n hx hb dX1_make_16 rfl (lv_at hl 0 rfl) ?_
  refine jg_1_2 jc jw ho wd_4_63 dX1_make_17 ?_
  have k5 := j_sub hY ho 2 (f := 0) rfl (by decide) (by decide) (by decide)
  refine lv_aload_n hx hb dX1_make_20 rfl (lv_at hl 0 rfl) ?_
  refine jg_1_0 jc jw ho wd_4_61 dX1_make_21 ?_
  refine lv_aload_n hx hb dX1_make_24 rfl (lv_at hl 0 rfl) ?_
  refine jg_1_1 jc jw ho wd_4_62 dX1_make_25 ?_
  refine lv_iload_n hx hb dX1_make_28 rfl (lv_at hl 3 rfl) ?_
  obtain ⟨xx6, exx6, hE⟩ := j_bd hG0 hE
  try dsimp only at hE
  refine jc_vv [.ref (ad (j_rf Y o 0)), .ref (ad (j_rf Y o 1)), .int p3] [] jc jw hA k5 (by decide) rfl (c_X0_build hY k5 k1 k3 (M := xx4) exx6) sd_X1_59 rfl hl.1 (j_hR hRf hRl rfl rfl) (Nat.le_of_ble_eq_true rfl) dX1_make_29 (fun H locs jw => ?_)
  refine lv_aload_n hx hb dX1_make_32 rfl (lv_at hl 0 rfl) ?_
  refine jg_1_3 jc jw ho wd_4_64 dX1_make_33 ?_
  have k7 := j_sub hY ho 3 (f := 8) rfl (by decide) (by decide) (by decide)
  obtain ⟨xx8, exx8, hE⟩ := j_lv hE
  try dsimp only at hE
  refine jc_vv [] [] jc jw hA k7 (by decide) rfl (c_X8_clear hY k7 (M := xx6) exx8.symm) sd_X1_63 rfl hl.1 (j_hR hRf hRl rfl rfl) (Nat.le_of_ble_eq_true rfl) dX1_make_36 (fun H locs jw => ?_)
  refine lv_aload_n hx hb dX1_make_39 rfl (lv_at hl 0 rfl) ?_
  refine jg_1_4 jc jw ho wd_4_65 dX1_make_40 ?_
  have k9 := j_sub hY ho 4 (f := 4) rfl (by decide) (by decide) (by decide)
  obtain ⟨xx10, exx10, hE⟩ := j_lv hE
  try dsimp only at hE
  refine jc_vv [] [] jc jw hA k9 (by decide) rfl (c_X4_clear hY k9 (M := xx8) exx10.symm) sd_X1_66 rfl hl.1 (j_hR hRf hRl rfl rfl) (Nat.le_of_ble_eq_true rfl) dX1_make_43 (fun H locs jw => ?_)
  refine lv_aload_n hx hb dX1_make_46 rfl (lv_at hl 0 rfl) ?_
  refine jg_1_5 jc jw ho wd_4_66 dX1_make_47 ?_
  have k11 := j_sub hY ho 5 (f := 8) rfl (by decide) (by decide) (by decide)
  obtain ⟨xx12, exx12, hE⟩ := j_lv hE
  try dsimp only at hE
  refine jc_vv [] [] jc jw hA k11 (by decide) rfl (c_X8_clear hY k11 (M := xx10) exx12.symm) sd_X1_63 rfl hl.1 (j_hR hRf hRl rfl rfl) (Nat.le_of_ble_eq_true rfl) dX1_make_50 (fun H locs jw => ?_)
  refine lv_aload_n hx hb dX1_make_53 rfl (lv_at hl 0 rfl) ?_
  obtain ⟨xx13, exx13, hE⟩ := j_bd hG0 hE
  try dsimp only at hE
  refine jc_vv [] [] jc jw hA ho (by decide) rfl (c_X1_collectDifferences hY ho (M := xx12) exx13) sd_X1_67 rfl hl.1 (j_hR hRf hRl rfl rfl) (Nat.le_of_ble_eq_true rfl) dX1_make_54 (fun H locs jw => ?_)
  refine lv_aload_n hx hb dX1_make_57 rfl (lv_at hl 0 rfl) ?_
  refine lv_iconst (v := 1) hx hb dX1_make_58 (by decide) ?_
  refine js_1_8 jc jw ho wd_4_69 (by decide) dX1_make_59 (fun H locs jw => ?_)
  obtain ⟨mm14, emm14, hE⟩ := j_lv hE
  rw [← emm14] at jw
  try dsimp only at hE
  refine lv_aload_n hx hb dX1_make_62 rfl (lv_at hl 0 rfl) ?_
  refine jg_1_2 jc jw ho wd_4_63 dX1_make_63 ?_
  refine jc_vi [] [] jc jw hA k5 (by decide) rfl (c_X0_pairs hY k5 (M := mm14) rfl) sd_X1_70 rfl hl.1 (j_hR hRf hRl rfl rfl) (Nat.le_of_ble_eq_true rfl) dX1_make_66 (fun H locs jw => ?_)
  exact kr _ _ _ _ _ _ (j_fst (Option.some.inj (j_ret eG0 hE))) (j_snd (Option.some.inj (j_ret eG0 hE))) jw dX1_make_69
def lp_X1_freeAllButKept_2 (Y : JY) (o : Nat) (n : Nat) (vv20 : Int32) (mm21 : JM) : Option (JM) := match n with
  | 0 => none
  | n + 1 => if (s_X4_size Y mm21 (j_rf Y o 1)) ≤ vv20 then (some mm21) else (lt_ (if (s_X0_isSecondKept Y mm21 (j_rf Y o 2) vv20) = 0 then ((1 : Int32)) else ((0 : Int32))) fun xx31 => lt_ (s_X4_push Y mm21 (j_rf Y o 7) xx31) fun xx29 => lt_ (vv20 + (1 : Int32)) fun vv30 => lp_X1_freeAllButKept_2 Y o n vv30 xx29)
def lp_X1_freeAllButKept_1 (Y : JY) (o : Nat) (n : Nat) (vv4 : Int32) (mm5 : JM) : Option (JM) := match n with
  | 0 => none
  | n + 1 => if (s_X4_size Y mm5 (j_rf Y o 0)) ≤ vv4 then (some mm5) else (lt_ (if (s_X0_isFirstKept Y mm5 (j_rf Y o 2) vv4) = 0 then ((1 : Int32)) else ((0 : Int32))) fun xx15 => lt_ (s_X4_push Y mm5 (j_rf Y o 6) xx15) fun xx13 => lt_ (vv4 + (1 : Int32)) fun vv14 => lp_X1_freeAllButKept_1 Y o n vv14 xx13)
def s_X1_freeAllButKept (Y : JY) (M : JM) (o : Nat) : Option (JM) := lt_ (s_X4_clear Y M (j_rf Y o 6)) fun xx2 => (lp_X1_freeAllButKept_1 Y o j_fuel (0 : Int32) xx2).bind fun xx33 => lt_ (s_X4_clear Y xx33 (j_rf Y o 7)) fun xx18 => (lp_X1_freeAllButKept_2 Y o j_fuel (0 : Int32) xx18).bind fun xx32 => some xx32
set_option maxRecDepth 100000 in
set_option maxHeartbeats 4000000 in
theorem c_X1_freeAllButKept {D : va_G} {Y : JY} {ty : Nat → ClassId} {ad : Nat → Nat} {sz : Nat} {l : Launch} {M : JM} (hY : j_ok Y) {o : Nat} (ho : j_kd Y o = 1) {r : JM} (hE : s_X1_freeAllButKept Y M o = some r) : JMv D Y ty ad sz l yX1_freeAllButKept cX1_freeAllButKept 2 2 42 [.ref (ad o)] M r := by
  refine j_ofV hY (by decide +kernel) (Nat.le_of_ble_eq_true rfl) (fun p e s m below meth c args R Q A hRf hRl hA jc jw kr ls hl => ?_)
  have hx := jc.1
  have hb := jc.2.1
  have hl : lv_has ls 2 [(0, .ref (ad o))] := hl
  unfold s_X1_freeAllButKept at hE
  obtain ⟨G0, eG0, hG0, hE⟩ := j_F0o hE
  refine lv_aload_n hx hb dX1_freeAllButKept_0 rfl (lv_at hl 0 rfl) ?_
  refine jg_1_6 jc jw ho wd_4_67 dX1_freeAllButKept_1 ?_
  have k1 := j_sub hY ho 6 (f := 4) rfl (by decide) (by decide) (by decide)
  obtain ⟨xx2, exx2, hE⟩ := j_lv hE
  try dsimp only at hE
  refine jc_vv [] [] jc jw hA k1 (by decide) rfl (c_X4_clear hY k1 (M := M) exx2.symm) sd_X1_66 rfl hl.1 (j_hR hRf hRl rfl rfl) (Nat.le_of_ble_eq_true rfl) dX1_freeAllButKept_4 (fun H locs jw => ?_)
  refine lv_iconst (v := 0) hx hb dX1_freeAllButKept_7 (by decide) ?_
  refine lv_istore_n (lv' := [(1, .int (0 : Int32)), (0, .ref (ad o))]) hx hb dX1_freeAllButKept_8 rfl hl (by decide) rfl (fun ls hl => ?_)
  obtain ⟨G3, eG3, hG3, hE⟩ := j_ctxB hG0 hE
  have E3_49 : ∀ (mm16 : JM)  (H : Heap) (locs : List Loc) (ls : Array Slot), G3 (some mm16) = some r → JW D Y ty ad A s.heap mm16 H locs → lv_has ls 2 [(0, .ref (ad o))] → W p l e R s m args below meth c H locs 0 0 Q (F0 m 49 ls []) := by
    intro mm16  H locs ls hE jw hl
    replace hE := j_popB eG3 hE
    try dsimp only at hE
    refine lv_aload_n hx hb dX1_freeAllButKept_49 rfl (lv_at hl 0 rfl) ?_
    refine jg_1_7 jc jw ho wd_4_68 dX1_freeAllButKept_50 ?_
    have k17 := j_sub hY ho 7 (f := 4) rfl (by decide) (by decide) (by decide)
    obtain ⟨xx18, exx18, hE⟩ := j_lv hE
    try dsimp only at hE
    refine jc_vv [] [] jc jw hA k17 (by decide) rfl (c_X4_clear hY k17 (M := mm16) exx18.symm) sd_X1_66 rfl hl.1 (j_hR hRf hRl rfl rfl) (Nat.le_of_ble_eq_true rfl) dX1_freeAllButKept_53 (fun H locs jw => ?_)
    refine lv_iconst (v := 0) hx hb dX1_freeAllButKept_56 (by decide) ?_
    refine lv_istore_n (lv' := [(1, .int (0 : Int32)), (0, .ref (ad o))]) hx hb dX1_freeAllButKept_57 rfl hl (by decide) rfl (fun ls hl => ?_)
    obtain ⟨G19, eG19, hG19, hE⟩ := j_ctxB hG0 hE
    have LP19 : ∀ (n : Nat) (vv20 : Int32) (mm21 : JM) (H : Heap) (locs : List Loc) (ls : Array Slot), G19 (lp_X1_freeAllButKept_2 Y o n vv20 mm21) = some r → JW D Y ty ad A s.heap mm21 H locs → lv_has ls 2 [(1, .int vv20), (0, .ref (ad o))] → W p l e R s m args below meth c H locs 0 0 Q (F0 m 58 ls []) := by
      intro n
      induction n with
      | zero => intro vv20 mm21 H locs ls hE jw hl; exact absurd hE (hG19 _)
      | succ n ih =>
        intro vv20 mm21 H locs ls hE jw hl
        rw [lp_X1_freeAllButKept_2] at hE
        refine lv_iload_n hx hb dX1_freeAllButKept_58 rfl (lv_at hl 0 rfl) ?_
        refine lv_aload_n hx hb dX1_freeAllButKept_59 rfl (lv_at hl 1 rfl) ?_
        refine jg_1_1 jc jw ho wd_4_62 dX1_freeAllButKept_60 ?_
        have k22 := j_sub hY ho 1 (f := 4) rfl (by decide) (by decide) (by decide)
        refine jc_vi [] [.int vv20] jc jw hA k22 (by decide) rfl (c_X4_size hY k22 (M := mm21) rfl) sd_X1_74 rfl hl.1 (j_hR hRf hRl rfl rfl) (Nat.le_of_ble_eq_true rfl) dX1_freeAllButKept_63 (fun H locs jw => ?_)
        refine lv_icmp_ge (tgt := 98) hx hb dX1_freeAllButKept_66 (by decide) (fun c23 => ?_) (fun c23 => ?_)
        · rw [if_pos c23] at hE
          replace hE := j_popB eG19 hE
          try dsimp only at hE
          exact kr _ _ _ _ _ (Option.some.inj (j_ret eG0 hE)) jw dX1_freeAllButKept_98
        · rw [if_neg c23] at hE
          refine lv_aload_n hx hb dX1_freeAllButKept_69 rfl (lv_at hl 1 rfl) ?_
          refine jg_1_7 jc jw ho wd_4_68 dX1_freeAllButKept_70 ?_
          refine lv_aload_n hx hb dX1_freeAllButKept_73 rfl (lv_at hl 1 rfl) ?_
          refine jg_1_2 jc jw ho wd_4_63 dX1_freeAllButKept_74 ?_
          have k24 := j_sub hY ho 2 (f := 0) rfl (by decide) (by decide) (by decide)
          refine lv_iload_n hx hb dX1_freeAllButKept_77 rfl (lv_at hl 0 rfl) ?_
          refine jc_vz [.int vv20] [.ref (ad (j_rf Y o 7))] jc jw hA k24 (by decide) rfl (c_X0_isSecondKept hY k24 (M := mm21) rfl) sd_X1_111 rfl hl.1 (j_hR hRf hRl rfl rfl) (Nat.le_of_ble_eq_true rfl) dX1_freeAllButKept_78 (fun H locs jw hz => ?_)
          have z_25 := hz
          obtain ⟨G27, eG27, hE⟩ := j_ctxL hE
          have J27 : ∀ (vv28 : Int32)  (H : Heap) (locs : List Loc) (ls : Array Slot), G27 (vv28) = some r → JW D Y ty ad A s.heap mm21 H locs → lv_has ls 2 [(1, .int vv20), (0, .ref (ad o))] → W p l e R s m args below meth c H locs 0 0 Q (F0 m 89 ls [.int vv28, .ref (ad (j_rf Y o 7))]) := by
            intro vv28  H locs ls hE jw hl
            replace hE := j_popL eG27 hE
            try dsimp only at hE
            obtain ⟨xx29, exx29, hE⟩ := j_lv hE
            try dsimp only at hE
            refine jc_vv [.int vv28] [] jc jw hA k17 (by decide) rfl (c_X4_push hY k17 (M := mm21) exx29.symm) sd_X1_92 rfl hl.1 (j_hR hRf hRl rfl rfl) (Nat.le_of_ble_eq_true rfl) dX1_freeAllButKept_89 (fun H locs jw => ?_)
            obtain ⟨vv30, evv30, hE⟩ := j_lv hE
            try dsimp only at hE
            refine lv_iinc (v := vv30) (lv' := [(1, .int vv30), (0, .ref (ad o))]) hx hb dX1_freeAllButKept_92 hl (k := 0) rfl (by rw [evv30]; rfl) (by decide) rfl (fun ls hl => ?_)
            refine lv_goto (tgt := 58) hx hb dX1_freeAllButKept_95 (by decide) ?_
            exact ih vv30 xx29 H locs ls hE jw (lv_sub hl [0, 1] rfl)
          refine lv_if_eq (tgt := 88) hx hb dX1_freeAllButKept_81 (by decide) (fun c26 => ?_) (fun c26 => ?_)
          · rw [if_pos c26] at hE
            refine lv_iconst (v := 1) hx hb dX1_freeAllButKept_88 (by decide) ?_
            exact J27 (1 : Int32)  H locs ls hE jw (lv_sub hl [0, 1] rfl)
          · rw [if_neg c26] at hE
            refine lv_iconst (v := 0) hx hb dX1_freeAllButKept_84 (by decide) ?_
            refine lv_goto (tgt := 89) hx hb dX1_freeAllButKept_85 (by decide) ?_
            exact J27 (0 : Int32)  H locs ls hE jw (lv_sub hl [0, 1] rfl)
    exact LP19 j_fuel (0 : Int32) xx18 H locs ls hE jw (lv_sub hl [0, 1] rfl)
  have LP3 : ∀ (n : Nat) (vv4 : Int32) (mm5 : JM) (H : Heap) (locs : List Loc) (ls : Array Slot), G3 (lp_X1_freeAllButKept_1 Y o n vv4 mm5) = some r → JW D Y ty ad A s.heap mm5 H locs → lv_has ls 2 [(1, .int vv4), (0, .ref (ad o))] → W p l e R s m args below meth c H locs 0 0 Q (F0 m 9 ls []) := by
    intro n
    induction n with
    | zero => intro vv4 mm5 H locs ls hE jw hl; exact absurd hE (hG3 _)
    | succ n ih =>
      intro vv4 mm5 H locs ls hE jw hl
      rw [lp_X1_freeAllButKept_1] at hE
      refine lv_iload_n hx hb dX1_freeAllButKept_9 rfl (lv_at hl 0 rfl) ?_
      refine lv_aload_n hx hb dX1_freeAllButKept_10 rfl (lv_at hl 1 rfl) ?_
      refine jg_1_0 jc jw ho wd_4_61 dX1_freeAllButKept_11 ?_
      have k6 := j_sub hY ho 0 (f := 4) rfl (by decide) (by decide) (by decide)
      refine jc_vi [] [.int vv4] jc jw hA k6 (by decide) rfl (c_X4_size hY k6 (M := mm5) rfl) sd_X1_74 rfl hl.1 (j_hR hRf hRl rfl rfl) (Nat.le_of_ble_eq_true rfl) dX1_freeAllButKept_14 (fun H locs jw => ?_)
      refine lv_icmp_ge (tgt := 49) hx hb dX1_freeAllButKept_17 (by decide) (fun c7 => ?_) (fun c7 => ?_)
      · rw [if_pos c7] at hE
        exact E3_49 mm5  H locs ls hE jw (lv_sub hl [1] rfl)
      · rw [if_neg c7] at hE
        refine lv_aload_n hx hb dX1_freeAllButKept_20 rfl (lv_at hl 1 rfl) ?_
        refine jg_1_6 jc jw ho wd_4_67 dX1_freeAllButKept_21 ?_
        refine lv_aload_n hx hb dX1_freeAllButKept_24 rfl (lv_at hl 1 rfl) ?_
        refine jg_1_2 jc jw ho wd_4_63 dX1_freeAllButKept_25 ?_
        have k8 := j_sub hY ho 2 (f := 0) rfl (by decide) (by decide) (by decide)
        refine lv_iload_n hx hb dX1_freeAllButKept_28 rfl (lv_at hl 0 rfl) ?_
        refine jc_vz [.int vv4] [.ref (ad (j_rf Y o 6))] jc jw hA k8 (by decide) rfl (c_X0_isFirstKept hY k8 (M := mm5) rfl) sd_X1_77 rfl hl.1 (j_hR hRf hRl rfl rfl) (Nat.le_of_ble_eq_true rfl) dX1_freeAllButKept_29 (fun H locs jw hz => ?_)
        have z_9 := hz
        obtain ⟨G11, eG11, hE⟩ := j_ctxL hE
        have J11 : ∀ (vv12 : Int32)  (H : Heap) (locs : List Loc) (ls : Array Slot), G11 (vv12) = some r → JW D Y ty ad A s.heap mm5 H locs → lv_has ls 2 [(1, .int vv4), (0, .ref (ad o))] → W p l e R s m args below meth c H locs 0 0 Q (F0 m 40 ls [.int vv12, .ref (ad (j_rf Y o 6))]) := by
          intro vv12  H locs ls hE jw hl
          replace hE := j_popL eG11 hE
          try dsimp only at hE
          obtain ⟨xx13, exx13, hE⟩ := j_lv hE
          try dsimp only at hE
          refine jc_vv [.int vv12] [] jc jw hA k1 (by decide) rfl (c_X4_push hY k1 (M := mm5) exx13.symm) sd_X1_92 rfl hl.1 (j_hR hRf hRl rfl rfl) (Nat.le_of_ble_eq_true rfl) dX1_freeAllButKept_40 (fun H locs jw => ?_)
          obtain ⟨vv14, evv14, hE⟩ := j_lv hE
          try dsimp only at hE
          refine lv_iinc (v := vv14) (lv' := [(1, .int vv14), (0, .ref (ad o))]) hx hb dX1_freeAllButKept_43 hl (k := 0) rfl (by rw [evv14]; rfl) (by decide) rfl (fun ls hl => ?_)
          refine lv_goto (tgt := 9) hx hb dX1_freeAllButKept_46 (by decide) ?_
          exact ih vv14 xx13 H locs ls hE jw (lv_sub hl [0, 1] rfl)
        refine lv_if_eq (tgt := 39) hx hb dX1_freeAllButKept_32 (by decide) (fun c10 => ?_) (fun c10 => ?_)
        · rw [if_pos c10] at hE
          refine lv_iconst (v := 1) hx hb dX1_freeAllButKept_39 (by decide) ?_
          exact J11 (1 : Int32)  H locs ls hE jw (lv_sub hl [0, 1] rfl)
        · rw [if_neg c10] at hE
          refine lv_iconst (v := 0) hx hb dX1_freeAllButKept_35 (by decide) ?_
          refine lv_goto (tgt := 40) hx hb dX1_freeAllButKept_36 (by decide) ?_
          exact J11 (0 : Int32)  H locs ls hE jw (lv_sub hl [0, 1] rfl)
  exact LP3 j_fuel (0 : Int32) xx2 H locs ls hE jw (lv_sub hl [0, 1] rfl)
def s_X1_isMovable (Y : JY) (M : JM) (o : Nat) (p1 : Int32) (p2 : Int32) : Int32 := if ¬ ((s_X4_at Y M (j_rf Y o 6) p1) = (1 : Int32)) ∨ ¬ ((s_X4_at Y M (j_rf Y o 7) p2) = (1 : Int32)) ∨ ¬ ((s_X4_at Y M (j_rf Y o 0) p1) = (s_X4_at Y M (j_rf Y o 1) p2)) then ((0 : Int32)) else ((1 : Int32))
set_option maxRecDepth 100000 in
set_option maxHeartbeats 4000000 in
theorem c_X1_isMovable {D : va_G} {Y : JY} {ty : Nat → ClassId} {ad : Nat → Nat} {sz : Nat} {l : Launch} {M : JM} (hY : j_ok Y) {o : Nat} {p1 : Int32} {p2 : Int32} (ho : j_kd Y o = 1) {r : Int32} (hE : s_X1_isMovable Y M o p1 p2 = r) : JMz D Y ty ad sz l yX1_isMovable cX1_isMovable 3 1 21 [.ref (ad o), .int p1, .int p2] M r M := by
  refine j_ofZ hY (by decide +kernel) (Nat.le_of_ble_eq_true rfl) (fun p e s m below meth c args R Q A hRf hRl hA jc jw kr ls hl => ?_)
  have hx := jc.1
  have hb := jc.2.1
  have hl : lv_has ls 3 [(0, .ref (ad o)), (1, .int p1), (2, .int p2)] := hl
  unfold s_X1_isMovable at hE
  obtain ⟨G0, eG0, hE⟩ := j_F0 hE
  refine lv_aload_n hx hb dX1_isMovable_0 rfl (lv_at hl 0 rfl) ?_
  refine jg_1_6 jc jw ho wd_4_67 dX1_isMovable_1 ?_
  have k1 := j_sub hY ho 6 (f := 4) rfl (by decide) (by decide) (by decide)
  refine lv_iload_n hx hb dX1_isMovable_4 rfl (lv_at hl 1 rfl) ?_
  refine jc_vi [.int p1] [] jc jw hA k1 (by decide) rfl (c_X4_at hY k1 (M := M) rfl) sd_X1_89 rfl hl.1 (j_hR hRf hRl rfl rfl) (Nat.le_of_ble_eq_true rfl) dX1_isMovable_5 (fun H locs jw => ?_)
  refine lv_iconst (v := 1) hx hb dX1_isMovable_8 (by decide) ?_
  have B8 : ∀ (H : Heap) (locs : List Loc), JW D Y ty ad A s.heap M H locs → (¬ ((s_X4_at Y M (j_rf Y o 6) p1) = (1 : Int32)) ∨ ¬ ((s_X4_at Y M (j_rf Y o 7) p2) = (1 : Int32)) ∨ ¬ ((s_X4_at Y M (j_rf Y o 0) p1) = (s_X4_at Y M (j_rf Y o 1) p2))) → W p l e R s m args below meth c H locs 0 0 Q (F0 m 47 ls []) := by
    intro H locs jw hcc
    rw [if_pos hcc] at hE
    refine lv_iconst (v := 0) hx hb dX1_isMovable_47 (by decide) ?_
    exact kr _ _ _ _ _ _ (j_ret eG0 hE) rfl (by decide) jw dX1_isMovable_48
  refine lv_icmp_ne (tgt := 47) hx hb dX1_isMovable_9 (by decide) (fun c2 => B8 _ _ jw (Or.inl c2)) (fun c2 => ?_)
  refine lv_aload_n hx hb dX1_isMovable_12 rfl (lv_at hl 0 rfl) ?_
  refine jg_1_7 jc jw ho wd_4_68 dX1_isMovable_13 ?_
  have k3 := j_sub hY ho 7 (f := 4) rfl (by decide) (by decide) (by decide)
  refine lv_iload_n hx hb dX1_isMovable_16 rfl (lv_at hl 2 rfl) ?_
  refine jc_vi [.int p2] [] jc jw hA k3 (by decide) rfl (c_X4_at hY k3 (M := M) rfl) sd_X1_89 rfl hl.1 (j_hR hRf hRl rfl rfl) (Nat.le_of_ble_eq_true rfl) dX1_isMovable_17 (fun H locs jw => ?_)
  refine lv_iconst (v := 1) hx hb dX1_isMovable_20 (by decide) ?_
  refine lv_icmp_ne (tgt := 47) hx hb dX1_isMovable_21 (by decide) (fun c4 => B8 _ _ jw (Or.inr (Or.inl c4))) (fun c4 => ?_)
  refine lv_aload_n hx hb dX1_isMovable_24 rfl (lv_at hl 0 rfl) ?_
  refine jg_1_0 jc jw ho wd_4_61 dX1_isMovable_25 ?_
  have k5 := j_sub hY ho 0 (f := 4) rfl (by decide) (by decide) (by decide)
  refine lv_iload_n hx hb dX1_isMovable_28 rfl (lv_at hl 1 rfl) ?_
  refine jc_vi [.int p1] [] jc jw hA k5 (by decide) rfl (c_X4_at hY k5 (M := M) rfl) sd_X1_89 rfl hl.1 (j_hR hRf hRl rfl rfl) (Nat.le_of_ble_eq_true rfl) dX1_isMovable_29 (fun H locs jw => ?_)
  refine lv_aload_n hx hb dX1_isMovable_32 rfl (lv_at hl 0 rfl) ?_
  refine jg_1_1 jc jw ho wd_4_62 dX1_isMovable_33 ?_
  have k6 := j_sub hY ho 1 (f := 4) rfl (by decide) (by decide) (by decide)
  refine lv_iload_n hx hb dX1_isMovable_36 rfl (lv_at hl 2 rfl) ?_
  refine jc_vi [.int p2] [.int (s_X4_at Y M (j_rf Y o 0) p1)] jc jw hA k6 (by decide) rfl (c_X4_at hY k6 (M := M) rfl) sd_X1_89 rfl hl.1 (j_hR hRf hRl rfl rfl) (Nat.le_of_ble_eq_true rfl) dX1_isMovable_37 (fun H locs jw => ?_)
  refine lv_icmp_ne (tgt := 47) hx hb dX1_isMovable_40 (by decide) (fun c7 => B8 _ _ jw (Or.inr (Or.inr c7))) (fun c7 => ?_)
  rw [if_neg (fun hq => hq.elim (fun hq => (j_absn c2 hq)) (fun hq => hq.elim (fun hq => (j_absn c4 hq)) (fun hq => (j_absn c7 hq))))] at hE
  refine lv_iconst (v := 1) hx hb dX1_isMovable_43 (by decide) ?_
  refine lv_goto (tgt := 48) hx hb dX1_isMovable_44 (by decide) ?_
  exact kr _ _ _ _ _ _ (j_ret eG0 hE) rfl (by decide) jw dX1_isMovable_48
def lp_X1_runLength_1 (Y : JY) (M : JM) (o : Nat) (p1 : Int32) (p2 : Int32) (n : Nat) (vv2 : Int32) : Option (Int32) := match n with
  | 0 => none
  | n + 1 => if (24 : Int32) ≤ vv2 ∨ (s_X1_isMovable Y M o (p1 + vv2) (p2 + vv2)) = 0 then (some vv2) else (lt_ (vv2 + (1 : Int32)) fun vv6 => lp_X1_runLength_1 Y M o p1 p2 n vv6)
def s_X1_runLength (Y : JY) (M : JM) (o : Nat) (p1 : Int32) (p2 : Int32) : Option (Int32) := (lp_X1_runLength_1 Y M o p1 p2 j_fuel (0 : Int32)).bind fun xx8 => some xx8
set_option maxRecDepth 100000 in
set_option maxHeartbeats 4000000 in
theorem c_X1_runLength {D : va_G} {Y : JY} {ty : Nat → ClassId} {ad : Nat → Nat} {sz : Nat} {l : Launch} {M : JM} (hY : j_ok Y) {o : Nat} {p1 : Int32} {p2 : Int32} (ho : j_kd Y o = 1) {r : Int32} (hE : s_X1_runLength Y M o p1 p2 = some r) : JMi D Y ty ad sz l yX1_runLength cX1_runLength 4 (some .int) 2 43 [.ref (ad o), .int p1, .int p2] M r M := by
  refine j_ofI hY (by decide +kernel) (Nat.le_of_ble_eq_true rfl) (fun p e s m below meth c args R Q A hRf hRl hA jc jw kr ls hl => ?_)
  have hx := jc.1
  have hb := jc.2.1
  have hl : lv_has ls 4 [(0, .ref (ad o)), (1, .int p1), (2, .int p2)] := hl
  unfold s_X1_runLength at hE
  obtain ⟨G0, eG0, hG0, hE⟩ := j_F0o hE
  refine lv_iconst (v := 0) hx hb dX1_runLength_0 (by decide) ?_
  refine lv_istore_n (lv' := [(3, .int (0 : Int32)), (0, .ref (ad o)), (1, .int p1), (2, .int p2)]) hx hb dX1_runLength_1 rfl hl (by decide) rfl (fun ls hl => ?_)
  obtain ⟨G1, eG1, hG1, hE⟩ := j_ctxB hG0 hE
  have LP1 : ∀ (n : Nat) (vv2 : Int32) (H : Heap) (locs : List Loc) (ls : Array Slot), G1 (lp_X1_runLength_1 Y M o p1 p2 n vv2) = some r → JW D Y ty ad A s.heap M H locs → lv_has ls 4 [(3, .int vv2), (0, .ref (ad o)), (1, .int p1), (2, .int p2)] → W p l e R s m args below meth c H locs 0 0 Q (F0 m 2 ls []) := by
    intro n
    induction n with
    | zero => intro vv2 H locs ls hE jw hl; exact absurd hE (hG1 _)
    | succ n ih =>
      intro vv2 H locs ls hE jw hl
      rw [lp_X1_runLength_1] at hE
      refine lv_iload_n hx hb dX1_runLength_2 rfl (lv_at hl 0 rfl) ?_
      refine lv_bipush (v := 24) hx hb dX1_runLength_3 (by decide) ?_
      have B7 : ∀ (H : Heap) (locs : List Loc), JW D Y ty ad A s.heap M H locs → ((24 : Int32) ≤ vv2 ∨ (s_X1_isMovable Y M o (p1 + vv2) (p2 + vv2)) = 0) → W p l e R s m args below meth c H locs 0 0 Q (F0 m 27 ls []) := by
        intro H locs jw hcc
        rw [if_pos hcc] at hE
        refine lv_iload_n hx hb dX1_runLength_27 rfl (lv_at hl 0 rfl) ?_
        replace hE := j_popB eG1 hE
        try dsimp only at hE
        exact kr _ _ _ _ _ _ (Option.some.inj (j_ret eG0 hE)) rfl jw dX1_runLength_28
      refine lv_icmp_ge (tgt := 27) hx hb dX1_runLength_5 (by decide) (fun c3 => B7 _ _ jw (Or.inl c3)) (fun c3 => ?_)
      refine lv_aload_n hx hb dX1_runLength_8 rfl (lv_at hl 1 rfl) ?_
      refine lv_iload_n hx hb dX1_runLength_9 rfl (lv_at hl 2 rfl) ?_
      refine lv_iload_n hx hb dX1_runLength_10 rfl (lv_at hl 0 rfl) ?_
      refine lv_iadd hx hb dX1_runLength_11 ?_
      refine lv_iload_n hx hb dX1_runLength_12 rfl (lv_at hl 3 rfl) ?_
      refine lv_iload_n hx hb dX1_runLength_13 rfl (lv_at hl 0 rfl) ?_
      refine lv_iadd hx hb dX1_runLength_14 ?_
      refine jc_vz [.int (p1 + vv2), .int (p2 + vv2)] [] jc jw hA ho (by decide) rfl (c_X1_isMovable hY ho (M := M) rfl) sd_X1_121 rfl hl.1 (j_hR hRf hRl rfl rfl) (Nat.le_of_ble_eq_true rfl) dX1_runLength_15 (fun H locs jw hz => ?_)
      have z_4 := hz
      refine lv_if_eq (tgt := 27) hx hb dX1_runLength_18 (by decide) (fun c5 => B7 _ _ jw (Or.inr c5)) (fun c5 => ?_)
      rw [if_neg (fun hq => hq.elim (fun hq => (j_abs c3 hq)) (fun hq => (j_abs c5 hq)))] at hE
      obtain ⟨vv6, evv6, hE⟩ := j_lv hE
      try dsimp only at hE
      refine lv_iinc (v := vv6) (lv' := [(3, .int vv6), (0, .ref (ad o)), (1, .int p1), (2, .int p2)]) hx hb dX1_runLength_21 hl (k := 0) rfl (by rw [evv6]; rfl) (by decide) rfl (fun ls hl => ?_)
      refine lv_goto (tgt := 2) hx hb dX1_runLength_24 (by decide) ?_
      exact ih vv6 H locs ls hE jw (lv_sub hl [0, 1, 2, 3] rfl)
  exact LP1 j_fuel (0 : Int32) s.heap [] ls hE jw (lv_sub hl [0, 1, 2, 3] rfl)
def lp_X1_addMove_1 (Y : JY) (p3 : Int32) (o : Nat) (p1 : Int32) (p2 : Int32) (n : Nat) (vv8 : Int32) (mm9 : JM) : Option (JM) := match n with
  | 0 => none
  | n + 1 => if p3 ≤ vv8 then (some mm9) else (lt_ (s_X4_put Y mm9 (j_rf Y o 6) (p1 + vv8) (0 : Int32)) fun xx12 => lt_ (s_X4_put Y xx12 (j_rf Y o 7) (p2 + vv8) (0 : Int32)) fun xx14 => lt_ (vv8 + (1 : Int32)) fun vv15 => lp_X1_addMove_1 Y p3 o p1 p2 n vv15 xx14)
def s_X1_addMove (Y : JY) (M : JM) (o : Nat) (p1 : Int32) (p2 : Int32) (p3 : Int32) : Option (JM) := (s_X8_addRow Y M (j_rf Y o 5)).bind fun xx2 => lt_ xx2.1 fun vv3 => lt_ (s_X8_put Y xx2.2 (j_rf Y o 5) vv3 (0 : Int32) p1) fun xx4 => lt_ (s_X8_put Y xx4 (j_rf Y o 5) vv3 (1 : Int32) p2) fun xx5 => lt_ (s_X8_put Y xx5 (j_rf Y o 5) vv3 (2 : Int32) p3) fun xx6 => (lp_X1_addMove_1 Y p3 o p1 p2 j_fuel (0 : Int32) xx6).bind fun xx16 => some xx16
set_option maxRecDepth 100000 in
set_option maxHeartbeats 4000000 in
theorem c_X1_addMove {D : va_G} {Y : JY} {ty : Nat → ClassId} {ad : Nat → Nat} {sz : Nat} {l : Launch} {M : JM} (hY : j_ok Y) {o : Nat} {p1 : Int32} {p2 : Int32} {p3 : Int32} (ho : j_kd Y o = 1) {r : JM} (hE : s_X1_addMove Y M o p1 p2 p3 = some r) : JMv D Y ty ad sz l yX1_addMove cX1_addMove 6 2 47 [.ref (ad o), .int p1, .int p2, .int p3] M r := by
  refine j_ofV hY (by decide +kernel) (Nat.le_of_ble_eq_true rfl) (fun p e s m below meth c args R Q A hRf hRl hA jc jw kr ls hl => ?_)
  have hx := jc.1
  have hb := jc.2.1
  have hl : lv_has ls 6 [(0, .ref (ad o)), (1, .int p1), (2, .int p2), (3, .int p3)] := hl
  unfold s_X1_addMove at hE
  obtain ⟨G0, eG0, hG0, hE⟩ := j_F0o hE
  refine lv_aload_n hx hb dX1_addMove_0 rfl (lv_at hl 0 rfl) ?_
  refine jg_1_5 jc jw ho wd_4_66 dX1_addMove_1 ?_
  have k1 := j_sub hY ho 5 (f := 8) rfl (by decide) (by decide) (by decide)
  obtain ⟨xx2, exx2, hE⟩ := j_bd hG0 hE
  try dsimp only at hE
  refine jc_vi [] [] jc jw hA k1 (by decide) rfl (c_X8_addRow hY k1 (M := M) exx2) sd_X1_95 rfl hl.1 (j_hR hRf hRl rfl rfl) (Nat.le_of_ble_eq_true rfl) dX1_addMove_4 (fun H locs jw => ?_)
  refine lv_topi (fun vv3 evv3 => ?_)
  replace hE := j_lu hE evv3
  try dsimp only at hE
  refine lv_istore (lv' := [(4, .int vv3), (0, .ref (ad o)), (1, .int p1), (2, .int p2), (3, .int p3)]) hx hb dX1_addMove_7 hl (by decide) rfl (fun ls hl => ?_)
  refine lv_aload_n hx hb dX1_addMove_9 rfl (lv_at hl 1 rfl) ?_
  refine jg_1_5 jc jw ho wd_4_66 dX1_addMove_10 ?_
  refine lv_iload hx hb dX1_addMove_13 (lv_at hl 0 rfl) ?_
  refine lv_iconst (v := 0) hx hb dX1_addMove_15 (by decide) ?_
  refine lv_iload_n hx hb dX1_addMove_16 rfl (lv_at hl 2 rfl) ?_
  obtain ⟨xx4, exx4, hE⟩ := j_lv hE
  try dsimp only at hE
  refine jc_vv [.int vv3, .int (0 : Int32), .int p1] [] jc jw hA k1 (by decide) rfl (c_X8_put hY k1 (M := xx2.2) exx4.symm) sd_X1_98 rfl hl.1 (j_hR hRf hRl rfl rfl) (Nat.le_of_ble_eq_true rfl) dX1_addMove_17 (fun H locs jw => ?_)
  refine lv_aload_n hx hb dX1_addMove_20 rfl (lv_at hl 1 rfl) ?_
  refine jg_1_5 jc jw ho wd_4_66 dX1_addMove_21 ?_
  refine lv_iload hx hb dX1_addMove_24 (lv_at hl 0 rfl) ?_
  refine lv_iconst (v := 1) hx hb dX1_addMove_26 (by decide) ?_
  refine lv_iload_n hx hb dX1_addMove_27 rfl (lv_at hl 3 rfl) ?_
  obtain ⟨xx5, exx5, hE⟩ := j_lv hE
  try dsimp only at hE
  refine jc_vv [.int vv3, .int (1 : Int32), .int p2] [] jc jw hA k1 (by decide) rfl (c_X8_put hY k1 (M := xx4) exx5.symm) sd_X1_98 rfl hl.1 (j_hR hRf hRl rfl rfl) (Nat.le_of_ble_eq_true rfl) dX1_addMove_28 (fun H locs jw => ?_)
  refine lv_aload_n hx hb dX1_addMove_31 rfl (lv_at hl 1 rfl) ?_
  refine jg_1_5 jc jw ho wd_4_66 dX1_addMove_32 ?_
  refine lv_iload hx hb dX1_addMove_35 (lv_at hl 0 rfl) ?_
  refine lv_iconst (v := 2) hx hb dX1_addMove_37 (by decide) ?_
  refine lv_iload_n hx hb dX1_addMove_38 rfl (lv_at hl 4 rfl) ?_
  obtain ⟨xx6, exx6, hE⟩ := j_lv hE
  try dsimp only at hE
  refine jc_vv [.int vv3, .int (2 : Int32), .int p3] [] jc jw hA k1 (by decide) rfl (c_X8_put hY k1 (M := xx5) exx6.symm) sd_X1_98 rfl hl.1 (j_hR hRf hRl rfl rfl) (Nat.le_of_ble_eq_true rfl) dX1_addMove_39 (fun H locs jw => ?_)
  refine lv_iconst (v := 0) hx hb dX1_addMove_42 (by decide) ?_
  refine lv_istore (lv' := [(5, .int (0 : Int32)), (4, .int vv3), (0, .ref (ad o)), (1, .int p1), (2, .int p2), (3, .int p3)]) hx hb dX1_addMove_43 hl (by decide) rfl (fun ls hl => ?_)
  obtain ⟨G7, eG7, hG7, hE⟩ := j_ctxB hG0 hE
  have LP7 : ∀ (n : Nat) (vv8 : Int32) (mm9 : JM) (H : Heap) (locs : List Loc) (ls : Array Slot), G7 (lp_X1_addMove_1 Y p3 o p1 p2 n vv8 mm9) = some r → JW D Y ty ad A s.heap mm9 H locs → lv_has ls 6 [(5, .int vv8), (0, .ref (ad o)), (1, .int p1), (2, .int p2), (3, .int p3)] → W p l e R s m args below meth c H locs 0 0 Q (F0 m 45 ls []) := by
    intro n
    induction n with
    | zero => intro vv8 mm9 H locs ls hE jw hl; exact absurd hE (hG7 _)
    | succ n ih =>
      intro vv8 mm9 H locs ls hE jw hl
      rw [lp_X1_addMove_1] at hE
      refine lv_iload hx hb dX1_addMove_45 (lv_at hl 0 rfl) ?_
      refine lv_iload_n hx hb dX1_addMove_47 rfl (lv_at hl 4 rfl) ?_
      refine lv_icmp_ge (tgt := 81) hx hb dX1_addMove_48 (by decide) (fun c10 => ?_) (fun c10 => ?_)
      · rw [if_pos c10] at hE
        replace hE := j_popB eG7 hE
        try dsimp only at hE
        exact kr _ _ _ _ _ (Option.some.inj (j_ret eG0 hE)) jw dX1_addMove_81
      · rw [if_neg c10] at hE
        refine lv_aload_n hx hb dX1_addMove_51 rfl (lv_at hl 1 rfl) ?_
        refine jg_1_6 jc jw ho wd_4_67 dX1_addMove_52 ?_
        have k11 := j_sub hY ho 6 (f := 4) rfl (by decide) (by decide) (by decide)
        refine lv_iload_n hx hb dX1_addMove_55 rfl (lv_at hl 2 rfl) ?_
        refine lv_iload hx hb dX1_addMove_56 (lv_at hl 0 rfl) ?_
        refine lv_iadd hx hb dX1_addMove_58 ?_
        refine lv_iconst (v := 0) hx hb dX1_addMove_59 (by decide) ?_
        obtain ⟨xx12, exx12, hE⟩ := j_lv hE
        try dsimp only at hE
        refine jc_vv [.int (p1 + vv8), .int (0 : Int32)] [] jc jw hA k11 (by decide) rfl (c_X4_put hY k11 (M := mm9) exx12.symm) sd_X1_125 rfl hl.1 (j_hR hRf hRl rfl rfl) (Nat.le_of_ble_eq_true rfl) dX1_addMove_60 (fun H locs jw => ?_)
        refine lv_aload_n hx hb dX1_addMove_63 rfl (lv_at hl 1 rfl) ?_
        refine jg_1_7 jc jw ho wd_4_68 dX1_addMove_64 ?_
        have k13 := j_sub hY ho 7 (f := 4) rfl (by decide) (by decide) (by decide)
        refine lv_iload_n hx hb dX1_addMove_67 rfl (lv_at hl 3 rfl) ?_
        refine lv_iload hx hb dX1_addMove_68 (lv_at hl 0 rfl) ?_
        refine lv_iadd hx hb dX1_addMove_70 ?_
        refine lv_iconst (v := 0) hx hb dX1_addMove_71 (by decide) ?_
        obtain ⟨xx14, exx14, hE⟩ := j_lv hE
        try dsimp only at hE
        refine jc_vv [.int (p2 + vv8), .int (0 : Int32)] [] jc jw hA k13 (by decide) rfl (c_X4_put hY k13 (M := xx12) exx14.symm) sd_X1_125 rfl hl.1 (j_hR hRf hRl rfl rfl) (Nat.le_of_ble_eq_true rfl) dX1_addMove_72 (fun H locs jw => ?_)
        obtain ⟨vv15, evv15, hE⟩ := j_lv hE
        try dsimp only at hE
        refine lv_iinc (v := vv15) (lv' := [(5, .int vv15), (0, .ref (ad o)), (1, .int p1), (2, .int p2), (3, .int p3)]) hx hb dX1_addMove_75 hl (k := 0) rfl (by rw [evv15]; rfl) (by decide) rfl (fun ls hl => ?_)
        refine lv_goto (tgt := 45) hx hb dX1_addMove_78 (by decide) ?_
        exact ih vv15 xx14 H locs ls hE jw (lv_sub hl [0, 1, 2, 3, 4] rfl)
  exact LP7 j_fuel (0 : Int32) xx6 H locs ls hE jw (lv_sub hl [0, 2, 3, 4, 5] rfl)
def lp_X1_addLongestMove_2 (Y : JY) (M : JM) (o : Nat) (vv6 : Int32) (n : Nat) (vv10 : Int32) (vv11 : Int32) (vv12 : Int32) (vv13 : Int32) : Option (Int32 × Int32 × Int32) := match n with
  | 0 => none
  | n + 1 => if (s_X4_size Y M (j_rf Y o 1)) ≤ vv13 then (some (vv10, vv11, vv12)) else ((s_X1_runLength Y M o vv6 vv13).bind fun xx16 => lt_ (if xx16 ≤ vv10 then ((vv10, vv11, vv12)) else ((xx16, vv6, vv13))) fun xx23 => lt_ (vv13 + (1 : Int32)) fun vv22 => lp_X1_addLongestMove_2 Y M o vv6 n xx23.1 xx23.2.1 xx23.2.2 vv22)
def lp_X1_addLongestMove_1 (Y : JY) (M : JM) (o : Nat) (n : Nat) (vv3 : Int32) (vv4 : Int32) (vv5 : Int32) (vv6 : Int32) : Option (Int32 × Int32 × Int32) := match n with
  | 0 => none
  | n + 1 => if (s_X4_size Y M (j_rf Y o 0)) ≤ vv6 then (some (vv3, vv4, vv5)) else ((lp_X1_addLongestMove_2 Y M o vv6 j_fuel vv3 vv4 vv5 (0 : Int32)).bind fun xx28 => lt_ (vv6 + (1 : Int32)) fun vv27 => lp_X1_addLongestMove_1 Y M o n xx28.1 xx28.2.1 xx28.2.2 vv27)
def s_X1_addLongestMove (Y : JY) (M : JM) (o : Nat) (p1 : Int32) : Option (Int32 × JM) := lt_ (p1 - (1 : Int32)) fun vv1 => (lp_X1_addLongestMove_1 Y M o j_fuel vv1 (-1 : Int32) (-1 : Int32) (0 : Int32)).bind fun xx34 => if xx34.2.1 = (-1 : Int32) then (some ((0 : Int32), M)) else ((s_X1_addMove Y M o xx34.2.1 xx34.2.2 xx34.1).bind fun xx33 => some ((1 : Int32), xx33))
set_option maxRecDepth 100000 in
set_option maxHeartbeats 4000000 in
theorem c_X1_addLongestMove {D : va_G} {Y : JY} {ty : Nat → ClassId} {ad : Nat → Nat} {sz : Nat} {l : Launch} {M : JM} (hY : j_ok Y) {o : Nat} {p1 : Int32} (ho : j_kd Y o = 1) {r : Int32 × JM} (hE : s_X1_addLongestMove Y M o p1 = some r) : JMz D Y ty ad sz l yX1_addLongestMove cX1_addLongestMove 8 3 72 [.ref (ad o), .int p1] M r.1 r.2 := by
  refine j_ofZ hY (by decide +kernel) (Nat.le_of_ble_eq_true rfl) (fun p e s m below meth c args R Q A hRf hRl hA jc jw kr ls hl => ?_)
  have hx := jc.1
  have hb := jc.2.1
  have hl : lv_has ls 8 [(0, .ref (ad o)), (1, .int p1)] := hl
  unfold s_X1_addLongestMove at hE
  obtain ⟨G0, eG0, hG0, hE⟩ := j_F0o hE
  refine lv_iload_n hx hb dX1_addLongestMove_0 rfl (lv_at hl 1 rfl) ?_
  refine lv_iconst (v := 1) hx hb dX1_addLongestMove_1 (by decide) ?_
  refine lv_isub hx hb dX1_addLongestMove_2 ?_
  refine lv_topi (fun vv1 evv1 => ?_)
  replace hE := j_lu hE evv1
  try dsimp only at hE
  refine lv_istore_n (lv' := [(2, .int vv1), (0, .ref (ad o)), (1, .int p1)]) hx hb dX1_addLongestMove_3 rfl hl (by decide) rfl (fun ls hl => ?_)
  refine lv_iconst (v := -1) hx hb dX1_addLongestMove_4 (by decide) ?_
  refine lv_istore_n (lv' := [(3, .int (-1 : Int32)), (2, .int vv1), (0, .ref (ad o)), (1, .int p1)]) hx hb dX1_addLongestMove_5 rfl hl (by decide) rfl (fun ls hl => ?_)
  refine lv_iconst (v := -1) hx hb dX1_addLongestMove_6 (by decide) ?_
  refine lv_istore (lv' := [(4, .int (-1 : Int32)), (3, .int (-1 : Int32)), (2, .int vv1), (0, .ref (ad o)), (1, .int p1)]) hx hb dX1_addLongestMove_7 hl (by decide) rfl (fun ls hl => ?_)
  refine lv_iconst (v := 0) hx hb dX1_addLongestMove_9 (by decide) ?_
  refine lv_istore (lv' := [(5, .int (0 : Int32)), (4, .int (-1 : Int32)), (3, .int (-1 : Int32)), (2, .int vv1), (0, .ref (ad o)), (1, .int p1)]) hx hb dX1_addLongestMove_10 hl (by decide) rfl (fun ls hl => ?_)
  obtain ⟨G2, eG2, hG2, hE⟩ := j_ctxB hG0 hE
  have E2_77 : ∀ (vv29 : Int32) (vv30 : Int32) (vv31 : Int32)  (H : Heap) (locs : List Loc) (ls : Array Slot), G2 (some (vv29, vv30, vv31)) = some r → JW D Y ty ad A s.heap M H locs → lv_has ls 8 [(4, .int vv31), (3, .int vv30), (2, .int vv29), (0, .ref (ad o))] → W p l e R s m args below meth c H locs 0 0 Q (F0 m 77 ls []) := by
    intro vv29 vv30 vv31  H locs ls hE jw hl
    replace hE := j_popB eG2 hE
    try dsimp only at hE
    refine lv_iload_n hx hb dX1_addLongestMove_77 rfl (lv_at hl 1 rfl) ?_
    refine lv_iconst (v := -1) hx hb dX1_addLongestMove_78 (by decide) ?_
    refine lv_icmp_ne (tgt := 84) hx hb dX1_addLongestMove_79 (by decide) (fun c32 => ?_) (fun c32 => ?_)
    · rw [if_neg c32] at hE
      refine lv_aload_n hx hb dX1_addLongestMove_84 rfl (lv_at hl 3 rfl) ?_
      refine lv_iload_n hx hb dX1_addLongestMove_85 rfl (lv_at hl 1 rfl) ?_
      refine lv_iload hx hb dX1_addLongestMove_86 (lv_at hl 0 rfl) ?_
      refine lv_iload_n hx hb dX1_addLongestMove_88 rfl (lv_at hl 2 rfl) ?_
      obtain ⟨xx33, exx33, hE⟩ := j_bd hG0 hE
      try dsimp only at hE
      refine jc_vv [.int vv30, .int vv31, .int vv29] [] jc jw hA ho (by decide) rfl (c_X1_addMove hY ho (M := M) exx33) sd_X1_118 rfl hl.1 (j_hR hRf hRl rfl rfl) (Nat.le_of_ble_eq_true rfl) dX1_addLongestMove_89 (fun H locs jw => ?_)
      refine lv_iconst (v := 1) hx hb dX1_addLongestMove_92 (by decide) ?_
      exact kr _ _ _ _ _ _ (j_fst (Option.some.inj (j_ret eG0 hE))) (j_snd (Option.some.inj (j_ret eG0 hE))) (by decide) jw dX1_addLongestMove_93
    · rw [if_pos c32] at hE
      refine lv_iconst (v := 0) hx hb dX1_addLongestMove_82 (by decide) ?_
      exact kr _ _ _ _ _ _ (j_fst (Option.some.inj (j_ret eG0 hE))) (j_snd (Option.some.inj (j_ret eG0 hE))) (by decide) jw dX1_addLongestMove_83
  have LP2 : ∀ (n : Nat) (vv3 : Int32) (vv4 : Int32) (vv5 : Int32) (vv6 : Int32) (H : Heap) (locs : List Loc) (ls : Array Slot), G2 (lp_X1_addLongestMove_1 Y M o n vv3 vv4 vv5 vv6) = some r → JW D Y ty ad A s.heap M H locs → lv_has ls 8 [(5, .int vv6), (4, .int vv5), (3, .int vv4), (2, .int vv3), (0, .ref (ad o))] → W p l e R s m args below meth c H locs 0 0 Q (F0 m 12 ls []) := by
    intro n
    induction n with
    | zero => intro vv3 vv4 vv5 vv6 H locs ls hE jw hl; exact absurd hE (hG2 _)
    | succ n ih =>
      intro vv3 vv4 vv5 vv6 H locs ls hE jw hl
      rw [lp_X1_addLongestMove_1] at hE
      refine lv_iload hx hb dX1_addLongestMove_12 (lv_at hl 0 rfl) ?_
      refine lv_aload_n hx hb dX1_addLongestMove_14 rfl (lv_at hl 4 rfl) ?_
      refine jg_1_0 jc jw ho wd_4_61 dX1_addLongestMove_15 ?_
      have k7 := j_sub hY ho 0 (f := 4) rfl (by decide) (by decide) (by decide)
      refine jc_vi [] [.int vv6] jc jw hA k7 (by decide) rfl (c_X4_size hY k7 (M := M) rfl) sd_X1_74 rfl hl.1 (j_hR hRf hRl rfl rfl) (Nat.le_of_ble_eq_true rfl) dX1_addLongestMove_18 (fun H locs jw => ?_)
      refine lv_icmp_ge (tgt := 77) hx hb dX1_addLongestMove_21 (by decide) (fun c8 => ?_) (fun c8 => ?_)
      · rw [if_pos c8] at hE
        exact E2_77 vv3 vv4 vv5  H locs ls hE jw (lv_sub hl [1, 2, 3, 4] rfl)
      · rw [if_neg c8] at hE
        refine lv_iconst (v := 0) hx hb dX1_addLongestMove_24 (by decide) ?_
        refine lv_istore (lv' := [(6, .int (0 : Int32)), (5, .int vv6), (4, .int vv5), (3, .int vv4), (2, .int vv3), (0, .ref (ad o))]) hx hb dX1_addLongestMove_25 hl (by decide) rfl (fun ls hl => ?_)
        obtain ⟨G9, eG9, hG9, hE⟩ := j_ctxB hG2 hE
        have E9_71 : ∀ (vv24 : Int32) (vv25 : Int32) (vv26 : Int32)  (H : Heap) (locs : List Loc) (ls : Array Slot), G9 (some (vv24, vv25, vv26)) = some r → JW D Y ty ad A s.heap M H locs → lv_has ls 8 [(5, .int vv6), (4, .int vv26), (3, .int vv25), (2, .int vv24), (0, .ref (ad o))] → W p l e R s m args below meth c H locs 0 0 Q (F0 m 71 ls []) := by
          intro vv24 vv25 vv26  H locs ls hE jw hl
          replace hE := j_popB eG9 hE
          try dsimp only at hE
          obtain ⟨vv27, evv27, hE⟩ := j_lv hE
          try dsimp only at hE
          refine lv_iinc (v := vv27) (lv' := [(5, .int vv27), (4, .int vv26), (3, .int vv25), (2, .int vv24), (0, .ref (ad o))]) hx hb dX1_addLongestMove_71 hl (k := 0) rfl (by rw [evv27]; rfl) (by decide) rfl (fun ls hl => ?_)
          refine lv_goto (tgt := 12) hx hb dX1_addLongestMove_74 (by decide) ?_
          exact ih vv24 vv25 vv26 vv27 H locs ls hE jw (lv_sub hl [0, 1, 2, 3, 4] rfl)
        have LP9 : ∀ (n : Nat) (vv10 : Int32) (vv11 : Int32) (vv12 : Int32) (vv13 : Int32) (H : Heap) (locs : List Loc) (ls : Array Slot), G9 (lp_X1_addLongestMove_2 Y M o vv6 n vv10 vv11 vv12 vv13) = some r → JW D Y ty ad A s.heap M H locs → lv_has ls 8 [(6, .int vv13), (5, .int vv6), (4, .int vv12), (3, .int vv11), (2, .int vv10), (0, .ref (ad o))] → W p l e R s m args below meth c H locs 0 0 Q (F0 m 27 ls []) := by
          intro n
          induction n with
          | zero => intro vv10 vv11 vv12 vv13 H locs ls hE jw hl; exact absurd hE (hG9 _)
          | succ n ih =>
            intro vv10 vv11 vv12 vv13 H locs ls hE jw hl
            rw [lp_X1_addLongestMove_2] at hE
            refine lv_iload hx hb dX1_addLongestMove_27 (lv_at hl 0 rfl) ?_
            refine lv_aload_n hx hb dX1_addLongestMove_29 rfl (lv_at hl 5 rfl) ?_
            refine jg_1_1 jc jw ho wd_4_62 dX1_addLongestMove_30 ?_
            have k14 := j_sub hY ho 1 (f := 4) rfl (by decide) (by decide) (by decide)
            refine jc_vi [] [.int vv13] jc jw hA k14 (by decide) rfl (c_X4_size hY k14 (M := M) rfl) sd_X1_74 rfl hl.1 (j_hR hRf hRl rfl rfl) (Nat.le_of_ble_eq_true rfl) dX1_addLongestMove_33 (fun H locs jw => ?_)
            refine lv_icmp_ge (tgt := 71) hx hb dX1_addLongestMove_36 (by decide) (fun c15 => ?_) (fun c15 => ?_)
            · rw [if_pos c15] at hE
              exact E9_71 vv10 vv11 vv12  H locs ls hE jw (lv_sub hl [1, 2, 3, 4, 5] rfl)
            · rw [if_neg c15] at hE
              refine lv_aload_n hx hb dX1_addLongestMove_39 rfl (lv_at hl 5 rfl) ?_
              refine lv_iload hx hb dX1_addLongestMove_40 (lv_at hl 1 rfl) ?_
              refine lv_iload hx hb dX1_addLongestMove_42 (lv_at hl 0 rfl) ?_
              obtain ⟨xx16, exx16, hE⟩ := j_bd hG9 hE
              try dsimp only at hE
              refine jc_vi [.int vv6, .int vv13] [] jc jw hA ho (by decide) rfl (c_X1_runLength hY ho (M := M) exx16) sd_X1_114 rfl hl.1 (j_hR hRf hRl rfl rfl) (Nat.le_of_ble_eq_true rfl) dX1_addLongestMove_44 (fun H locs jw => ?_)
              refine lv_istore (lv' := [(7, .int xx16), (6, .int vv13), (5, .int vv6), (4, .int vv12), (3, .int vv11), (2, .int vv10), (0, .ref (ad o))]) hx hb dX1_addLongestMove_47 hl (by decide) rfl (fun ls hl => ?_)
              refine lv_iload hx hb dX1_addLongestMove_49 (lv_at hl 0 rfl) ?_
              refine lv_iload_n hx hb dX1_addLongestMove_51 rfl (lv_at hl 5 rfl) ?_
              obtain ⟨G18, eG18, hE⟩ := j_ctxL hE
              have J18 : ∀ (vv19 : Int32) (vv20 : Int32) (vv21 : Int32)  (H : Heap) (locs : List Loc) (ls : Array Slot), G18 ((vv19, vv20, vv21)) = some r → JW D Y ty ad A s.heap M H locs → lv_has ls 8 [(6, .int vv13), (5, .int vv6), (4, .int vv21), (3, .int vv20), (2, .int vv19), (0, .ref (ad o))] → W p l e R s m args below meth c H locs 0 0 Q (F0 m 65 ls []) := by
                intro vv19 vv20 vv21  H locs ls hE jw hl
                replace hE := j_popL eG18 hE
                try dsimp only at hE
                obtain ⟨vv22, evv22, hE⟩ := j_lv hE
                try dsimp only at hE
                refine lv_iinc (v := vv22) (lv' := [(6, .int vv22), (5, .int vv6), (4, .int vv21), (3, .int vv20), (2, .int vv19), (0, .ref (ad o))]) hx hb dX1_addLongestMove_65 hl (k := 0) rfl (by rw [evv22]; rfl) (by decide) rfl (fun ls hl => ?_)
                refine lv_goto (tgt := 27) hx hb dX1_addLongestMove_68 (by decide) ?_
                exact ih vv19 vv20 vv21 vv22 H locs ls hE jw (lv_sub hl [0, 1, 2, 3, 4, 5] rfl)
              refine lv_icmp_le (tgt := 65) hx hb dX1_addLongestMove_52 (by decide) (fun c17 => ?_) (fun c17 => ?_)
              · rw [if_pos c17] at hE
                exact J18 vv10 vv11 vv12  H locs ls hE jw (lv_sub hl [1, 2, 3, 4, 5, 6] rfl)
              · rw [if_neg c17] at hE
                refine lv_iload hx hb dX1_addLongestMove_55 (lv_at hl 0 rfl) ?_
                refine lv_istore_n (lv' := [(2, .int xx16), (7, .int xx16), (6, .int vv13), (5, .int vv6), (4, .int vv12), (3, .int vv11), (0, .ref (ad o))]) hx hb dX1_addLongestMove_57 rfl hl (by decide) rfl (fun ls hl => ?_)
                refine lv_iload hx hb dX1_addLongestMove_58 (lv_at hl 3 rfl) ?_
                refine lv_istore_n (lv' := [(3, .int vv6), (2, .int xx16), (7, .int xx16), (6, .int vv13), (5, .int vv6), (4, .int vv12), (0, .ref (ad o))]) hx hb dX1_addLongestMove_60 rfl hl (by decide) rfl (fun ls hl => ?_)
                refine lv_iload hx hb dX1_addLongestMove_61 (lv_at hl 3 rfl) ?_
                refine lv_istore (lv' := [(4, .int vv13), (3, .int vv6), (2, .int xx16), (7, .int xx16), (6, .int vv13), (5, .int vv6), (0, .ref (ad o))]) hx hb dX1_addLongestMove_63 hl (by decide) rfl (fun ls hl => ?_)
                exact J18 xx16 vv6 vv13  H locs ls hE jw (lv_sub hl [4, 5, 0, 1, 2, 6] rfl)
        exact LP9 j_fuel vv3 vv4 vv5 (0 : Int32) H locs ls hE jw (lv_sub hl [0, 1, 2, 3, 4, 5] rfl)
  exact LP2 j_fuel vv1 (-1 : Int32) (-1 : Int32) (0 : Int32) s.heap [] ls hE jw (lv_sub hl [0, 1, 2, 3, 4] rfl)
def lp_X1_searchMoves_1 (Y : JY) (o : Nat) (p1 : Int32) (n : Nat) (vv5 : Int32) (vv6 : Int32) (mm7 : JM) : Option (JM) := match n with
  | 0 => none
  | n + 1 => if vv5 = 0 ∨ (24 : Int32) ≤ vv6 then (some mm7) else ((s_X1_addLongestMove Y mm7 o p1).bind fun xx10 => lt_ xx10.1 fun vv12 => lt_ (vv6 + (1 : Int32)) fun vv13 => lp_X1_searchMoves_1 Y o p1 n vv12 vv13 xx10.2)
def s_X1_searchMoves (Y : JY) (M : JM) (o : Nat) (p1 : Int32) : Option (Int32 × JM) := lt_ (s_X8_clear Y M (j_rf Y o 5)) fun xx2 => (s_X1_freeAllButKept Y xx2 o).bind fun xx3 => (lp_X1_searchMoves_1 Y o p1 j_fuel (1 : Int32) (0 : Int32) xx3).bind fun xx16 => some ((s_X8_rows Y xx16 (j_rf Y o 5)), xx16)
set_option maxRecDepth 100000 in
set_option maxHeartbeats 4000000 in
theorem c_X1_searchMoves {D : va_G} {Y : JY} {ty : Nat → ClassId} {ad : Nat → Nat} {sz : Nat} {l : Launch} {M : JM} (hY : j_ok Y) {o : Nat} {p1 : Int32} (ho : j_kd Y o = 1) {r : Int32 × JM} (hE : s_X1_searchMoves Y M o p1 = some r) : JMi D Y ty ad sz l yX1_searchMoves cX1_searchMoves 4 (some .int) 4 99 [.ref (ad o), .int p1] M r.1 r.2 := by
  refine j_ofI hY (by decide +kernel) (Nat.le_of_ble_eq_true rfl) (fun p e s m below meth c args R Q A hRf hRl hA jc jw kr ls hl => ?_)
  have hx := jc.1
  have hb := jc.2.1
  have hl : lv_has ls 4 [(0, .ref (ad o)), (1, .int p1)] := hl
  unfold s_X1_searchMoves at hE
  obtain ⟨G0, eG0, hG0, hE⟩ := j_F0o hE
  refine lv_aload_n hx hb dX1_searchMoves_0 rfl (lv_at hl 0 rfl) ?_
  refine jg_1_5 jc jw ho wd_4_66 dX1_searchMoves_1 ?_
  have k1 := j_sub hY ho 5 (f := 8) rfl (by decide) (by decide) (by decide)
  obtain ⟨xx2, exx2, hE⟩ := j_lv hE
  try dsimp only at hE
  refine jc_vv [] [] jc jw hA k1 (by decide) rfl (c_X8_clear hY k1 (M := M) exx2.symm) sd_X1_63 rfl hl.1 (j_hR hRf hRl rfl rfl) (Nat.le_of_ble_eq_true rfl) dX1_searchMoves_4 (fun H locs jw => ?_)
  refine lv_aload_n hx hb dX1_searchMoves_7 rfl (lv_at hl 0 rfl) ?_
  obtain ⟨xx3, exx3, hE⟩ := j_bd hG0 hE
  try dsimp only at hE
  refine jc_vv [] [] jc jw hA ho (by decide) rfl (c_X1_freeAllButKept hY ho (M := xx2) exx3) sd_X1_102 rfl hl.1 (j_hR hRf hRl rfl rfl) (Nat.le_of_ble_eq_true rfl) dX1_searchMoves_8 (fun H locs jw => ?_)
  refine lv_iconst (v := 1) hx hb dX1_searchMoves_11 (by decide) ?_
  refine lv_istore_n (lv' := [(2, .int (1 : Int32)), (0, .ref (ad o)), (1, .int p1)]) hx hb dX1_searchMoves_12 rfl hl (by decide) rfl (fun ls hl => ?_)
  refine lv_iconst (v := 0) hx hb dX1_searchMoves_13 (by decide) ?_
  refine lv_istore_n (lv' := [(3, .int (0 : Int32)), (2, .int (1 : Int32)), (0, .ref (ad o)), (1, .int p1)]) hx hb dX1_searchMoves_14 rfl hl (by decide) rfl (fun ls hl => ?_)
  obtain ⟨G4, eG4, hG4, hE⟩ := j_ctxB hG0 hE
  have E4_37 : ∀ (mm15 : JM)  (H : Heap) (locs : List Loc) (ls : Array Slot), G4 (some mm15) = some r → JW D Y ty ad A s.heap mm15 H locs → lv_has ls 4 [(0, .ref (ad o))] → W p l e R s m args below meth c H locs 0 0 Q (F0 m 37 ls []) := by
    intro mm15  H locs ls hE jw hl
    replace hE := j_popB eG4 hE
    try dsimp only at hE
    refine lv_aload_n hx hb dX1_searchMoves_37 rfl (lv_at hl 0 rfl) ?_
    refine jg_1_5 jc jw ho wd_4_66 dX1_searchMoves_38 ?_
    refine jc_vi [] [] jc jw hA k1 (by decide) rfl (c_X8_rows hY k1 (M := mm15) rfl) sd_X1_108 rfl hl.1 (j_hR hRf hRl rfl rfl) (Nat.le_of_ble_eq_true rfl) dX1_searchMoves_41 (fun H locs jw => ?_)
    exact kr _ _ _ _ _ _ (j_fst (Option.some.inj (j_ret eG0 hE))) (j_snd (Option.some.inj (j_ret eG0 hE))) jw dX1_searchMoves_44
  have LP4 : ∀ (n : Nat) (vv5 : Int32) (vv6 : Int32) (mm7 : JM) (H : Heap) (locs : List Loc) (ls : Array Slot), G4 (lp_X1_searchMoves_1 Y o p1 n vv5 vv6 mm7) = some r → JW D Y ty ad A s.heap mm7 H locs → lv_has ls 4 [(3, .int vv6), (2, .int vv5), (0, .ref (ad o)), (1, .int p1)] → W p l e R s m args below meth c H locs 0 0 Q (F0 m 15 ls []) := by
    intro n
    induction n with
    | zero => intro vv5 vv6 mm7 H locs ls hE jw hl; exact absurd hE (hG4 _)
    | succ n ih =>
      intro vv5 vv6 mm7 H locs ls hE jw hl
      rw [lp_X1_searchMoves_1] at hE
      refine lv_iload_n hx hb dX1_searchMoves_15 rfl (lv_at hl 1 rfl) ?_
      have B14 : ∀ (H : Heap) (locs : List Loc), JW D Y ty ad A s.heap mm7 H locs → (vv5 = 0 ∨ (24 : Int32) ≤ vv6) → W p l e R s m args below meth c H locs 0 0 Q (F0 m 37 ls []) := by
        intro H locs jw hcc
        rw [if_pos hcc] at hE
        exact E4_37 mm7  H locs ls hE jw (lv_sub hl [2] rfl)
      refine lv_if_eq (tgt := 37) hx hb dX1_searchMoves_16 (by decide) (fun c8 => B14 _ _ jw (Or.inl c8)) (fun c8 => ?_)
      refine lv_iload_n hx hb dX1_searchMoves_19 rfl (lv_at hl 0 rfl) ?_
      refine lv_bipush (v := 24) hx hb dX1_searchMoves_20 (by decide) ?_
      refine lv_icmp_ge (tgt := 37) hx hb dX1_searchMoves_22 (by decide) (fun c9 => B14 _ _ jw (Or.inr c9)) (fun c9 => ?_)
      rw [if_neg (fun hq => hq.elim (fun hq => (j_abs c8 hq)) (fun hq => (j_abs c9 hq)))] at hE
      refine lv_aload_n hx hb dX1_searchMoves_25 rfl (lv_at hl 2 rfl) ?_
      refine lv_iload_n hx hb dX1_searchMoves_26 rfl (lv_at hl 3 rfl) ?_
      obtain ⟨xx10, exx10, hE⟩ := j_bd hG4 hE
      try dsimp only at hE
      refine jc_vz [.int p1] [] jc jw hA ho (by decide) rfl (c_X1_addLongestMove hY ho (M := mm7) exx10) sd_X1_105 rfl hl.1 (j_hR hRf hRl rfl rfl) (Nat.le_of_ble_eq_true rfl) dX1_searchMoves_27 (fun H locs jw hz => ?_)
      have z_11 := hz
      refine lv_topi (fun vv12 evv12 => ?_)
      replace hE := j_lu hE evv12
      try dsimp only at hE
      have zvv12 : vv12 = 0 ∨ vv12 = 1 := by rw [evv12]; exact z_11
      refine lv_istore_n (lv' := [(2, .int vv12), (3, .int vv6), (0, .ref (ad o)), (1, .int p1)]) hx hb dX1_searchMoves_30 rfl hl (by decide) rfl (fun ls hl => ?_)
      obtain ⟨vv13, evv13, hE⟩ := j_lv hE
      try dsimp only at hE
      refine lv_iinc (v := vv13) (lv' := [(3, .int vv13), (2, .int vv12), (0, .ref (ad o)), (1, .int p1)]) hx hb dX1_searchMoves_31 hl (k := 1) rfl (by rw [evv13]; rfl) (by decide) rfl (fun ls hl => ?_)
      refine lv_goto (tgt := 15) hx hb dX1_searchMoves_34 (by decide) ?_
      exact ih vv12 vv13 xx10.2 H locs ls hE jw (lv_sub hl [0, 1, 2, 3] rfl)
  exact LP4 j_fuel (1 : Int32) (0 : Int32) xx3 H locs ls hE jw (lv_sub hl [0, 1, 2, 3] rfl)

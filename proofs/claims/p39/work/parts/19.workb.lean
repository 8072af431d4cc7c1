def s_X9_findMoves (Y : JY) (M : JM) (o : Nat) (p1 : Int32) : Option (Int32 × JM) := if p1 < (1 : Int32) ∨ ¬ (p1 ≤ (9 : Int32)) then (none) else ((s_X9_requireComparison Y M o).bind fun xx3 => (s_X1_searchMoves Y M (j_rf Y o 6) p1).bind fun xx5 => some (xx5.1, xx5.2))
set_option maxRecDepth 100000 in
set_option maxHeartbeats 4000000 in
theorem c_X9_findMoves {D : va_G} {Y : JY} {ty : Nat → ClassId} {ad : Nat → Nat} {sz : Nat} {l : Launch} {M : JM} (hY : j_ok Y) {o : Nat} {p1 : Int32} (ho : j_kd Y o = 9) {r : Int32 × JM} (hE : s_X9_findMoves Y M o p1 = some r) : JMi D Y ty ad sz l yX9_findMoves cX9_findMoves 2 (some .int) 5 122 [.ref (ad o), .int p1] M r.1 r.2 := by
  refine j_ofI hY (by decide +kernel) (Nat.le_of_ble_eq_true rfl) (fun p e s m below meth c args R Q A hRf hRl hA jc jw kr ls hl => ?_)
  have hx := jc.1
  have hb := jc.2.1
  have hl : lv_has ls 2 [(0, .ref (ad o)), (1, .int p1)] := hl
  unfold s_X9_findMoves at hE
  obtain ⟨G0, eG0, hG0, hE⟩ := j_F0o hE
  refine lv_iload_n hx hb dX9_findMoves_0 rfl (lv_at hl 1 rfl) ?_
  refine lv_iconst (v := 1) hx hb dX9_findMoves_1 (by decide) ?_
  have B6 : ∀ (H : Heap) (locs : List Loc), JW D Y ty ad A s.heap M H locs → (p1 < (1 : Int32) ∨ ¬ (p1 ≤ (9 : Int32))) → W p l e R s m args below meth c H locs 0 0 Q (F0 m 11 ls []) := by
    intro H locs jw hcc
    rw [if_pos hcc] at hE
    exact absurd hE (hG0 _)
  refine lv_icmp_lt (tgt := 11) hx hb dX9_findMoves_2 (by decide) (fun c1 => B6 _ _ jw (Or.inl c1)) (fun c1 => ?_)
  refine lv_iload_n hx hb dX9_findMoves_5 rfl (lv_at hl 1 rfl) ?_
  refine lv_bipush (v := 9) hx hb dX9_findMoves_6 (by decide) ?_
  refine lv_icmp_le (tgt := 21) hx hb dX9_findMoves_8 (by decide) (fun c2 => ?_) (fun c2 => B6 _ _ jw (Or.inr c2))
  rw [if_neg (fun hq => hq.elim (fun hq => (j_abs c1 hq)) (fun hq => (j_absn c2 hq)))] at hE
  refine lv_aload_n hx hb dX9_findMoves_21 rfl (lv_at hl 0 rfl) ?_
  obtain ⟨xx3, exx3, hE⟩ := j_bd hG0 hE
  try dsimp only at hE
  refine jc_vv [] [] jc jw hA ho (by decide) rfl (c_X9_requireComparison hY ho (M := M) exx3) sd_X9_177 rfl hl.1 (j_hR hRf hRl rfl rfl) (Nat.le_of_ble_eq_true rfl) dX9_findMoves_22 (fun H locs jw => ?_)
  refine lv_aload_n hx hb dX9_findMoves_25 rfl (lv_at hl 0 rfl) ?_
  refine jg_9_6 jc jw ho wd_4_171 dX9_findMoves_26 ?_
  have k4 := j_sub hY ho 6 (f := 1) rfl (by decide) (by decide) (by decide)
  refine lv_iload_n hx hb dX9_findMoves_29 rfl (lv_at hl 1 rfl) ?_
  obtain ⟨xx5, exx5, hE⟩ := j_bd hG0 hE
  try dsimp only at hE
  refine jc_vi [.int p1] [] jc jw hA k4 (by decide) rfl (c_X1_searchMoves hY k4 (M := M) exx5) sd_X9_225 rfl hl.1 (j_hR hRf hRl rfl rfl) (Nat.le_of_ble_eq_true rfl) dX9_findMoves_30 (fun H locs jw => ?_)
  exact kr _ _ _ _ _ _ (j_fst (Option.some.inj (j_ret eG0 hE))) (j_snd (Option.some.inj (j_ret eG0 hE))) jw dX9_findMoves_33
def s_X9_property (Y : JY) (M : JM) (q1 : Nat) (p2 : Int32) (p3 : Int32) (p4 : Int32) : Option (Int32) := if (s_X8_hasRow Y M q1 p2) = 0 then (none) else (if p3 < 0 ∨ ¬ (p3 < p4) then (none) else (some (s_X8_at Y M q1 p2 p3)))
set_option maxRecDepth 100000 in
set_option maxHeartbeats 4000000 in
theorem c_X9_property {D : va_G} {Y : JY} {ty : Nat → ClassId} {ad : Nat → Nat} {sz : Nat} {l : Launch} {M : JM} (hY : j_ok Y) {q1 : Nat} {p2 : Int32} {p3 : Int32} {p4 : Int32} (hq1 : j_kd Y q1 = 8) {r : Int32} (hE : s_X9_property Y M q1 p2 p3 p4 = some r) : JMi D Y ty ad sz l yX9_property cX9_property 4 (some .int) 1 24 [.ref (ad q1), .int p2, .int p3, .int p4] M r M := by
  refine j_ofI hY (by decide +kernel) (Nat.le_of_ble_eq_true rfl) (fun p e s m below meth c args R Q A hRf hRl hA jc jw kr ls hl => ?_)
  have hx := jc.1
  have hb := jc.2.1
  have hl : lv_has ls 4 [(0, .ref (ad q1)), (1, .int p2), (2, .int p3), (3, .int p4)] := hl
  unfold s_X9_property at hE
  obtain ⟨G0, eG0, hG0, hE⟩ := j_F0o hE
  refine lv_aload_n hx hb dX9_property_0 rfl (lv_at hl 0 rfl) ?_
  refine lv_iload_n hx hb dX9_property_1 rfl (lv_at hl 1 rfl) ?_
  refine jc_vz [.int p2] [] jc jw hA hq1 (by decide) rfl (c_X8_hasRow hY hq1 (M := M) rfl) sd_X9_289 rfl hl.1 (j_hR hRf hRl rfl rfl) (Nat.le_of_ble_eq_true rfl) dX9_property_2 (fun H locs jw hz => ?_)
  have z_1 := hz
  refine lv_if_ne (tgt := 19) hx hb dX9_property_5 (by decide) (fun c2 => ?_) (fun c2 => ?_)
  · rw [if_neg c2] at hE
    refine lv_iload_n hx hb dX9_property_19 rfl (lv_at hl 2 rfl) ?_
    have B5 : ∀ (H : Heap) (locs : List Loc), JW D Y ty ad A s.heap M H locs → (p3 < 0 ∨ ¬ (p3 < p4)) → W p l e R s m args below meth c H locs 0 0 Q (F0 m 28 ls []) := by
      intro H locs jw hcc
      rw [if_pos hcc] at hE
      exact absurd hE (hG0 _)
    refine lv_if_lt (tgt := 28) hx hb dX9_property_20 (by decide) (fun c3 => B5 _ _ jw (Or.inl c3)) (fun c3 => ?_)
    refine lv_iload_n hx hb dX9_property_23 rfl (lv_at hl 2 rfl) ?_
    refine lv_iload_n hx hb dX9_property_24 rfl (lv_at hl 3 rfl) ?_
    refine lv_icmp_lt (tgt := 39) hx hb dX9_property_25 (by decide) (fun c4 => ?_) (fun c4 => B5 _ _ jw (Or.inr c4))
    rw [if_neg (fun hq => hq.elim (fun hq => (j_abs c3 hq)) (fun hq => (j_absn c4 hq)))] at hE
    refine lv_aload_n hx hb dX9_property_39 rfl (lv_at hl 0 rfl) ?_
    refine lv_iload_n hx hb dX9_property_40 rfl (lv_at hl 1 rfl) ?_
    refine lv_iload_n hx hb dX9_property_41 rfl (lv_at hl 2 rfl) ?_
    refine jc_vi [.int p2, .int p3] [] jc jw hA hq1 (by decide) rfl (c_X8_at hY hq1 (M := M) rfl) sd_X9_296 rfl hl.1 (j_hR hRf hRl rfl rfl) (Nat.le_of_ble_eq_true rfl) dX9_property_42 (fun H locs jw => ?_)
    exact kr _ _ _ _ _ _ (Option.some.inj (j_ret eG0 hE)) rfl jw dX9_property_45
  · rw [if_pos c2] at hE
    exact absurd hE (hG0 _)
def s_X9_move (Y : JY) (M : JM) (o : Nat) (p1 : Int32) (p2 : Int32) : Option (Int32) := (s_X9_property Y M (s_X1_moved Y M (j_rf Y o 6)) p1 p2 (3 : Int32)).bind fun xx3 => some xx3
set_option maxRecDepth 100000 in
set_option maxHeartbeats 4000000 in
theorem c_X9_move {D : va_G} {Y : JY} {ty : Nat → ClassId} {ad : Nat → Nat} {sz : Nat} {l : Launch} {M : JM} (hY : j_ok Y) {o : Nat} {p1 : Int32} {p2 : Int32} (ho : j_kd Y o = 9) {r : Int32} (hE : s_X9_move Y M o p1 p2 = some r) : JMi D Y ty ad sz l yX9_move cX9_move 3 (some .int) 2 47 [.ref (ad o), .int p1, .int p2] M r M := by
  refine j_ofI hY (by decide +kernel) (Nat.le_of_ble_eq_true rfl) (fun p e s m below meth c args R Q A hRf hRl hA jc jw kr ls hl => ?_)
  have hx := jc.1
  have hb := jc.2.1
  have hl : lv_has ls 3 [(0, .ref (ad o)), (1, .int p1), (2, .int p2)] := hl
  unfold s_X9_move at hE
  obtain ⟨G0, eG0, hG0, hE⟩ := j_F0o hE
  refine lv_aload_n hx hb dX9_move_0 rfl (lv_at hl 0 rfl) ?_
  refine jg_9_6 jc jw ho wd_4_171 dX9_move_1 ?_
  have k1 := j_sub hY ho 6 (f := 1) rfl (by decide) (by decide) (by decide)
  refine jc_vr [] [] jc jw hA k1 (by decide) rfl (c_X1_moved hY k1 (M := M) rfl) sd_X9_228 rfl hl.1 (j_hR hRf hRl rfl rfl) (Nat.le_of_ble_eq_true rfl) dX9_move_4 (fun H locs jw hk => ?_)
  have k2 := hk
  refine lv_iload_n hx hb dX9_move_7 rfl (lv_at hl 1 rfl) ?_
  refine lv_iload_n hx hb dX9_move_8 rfl (lv_at hl 2 rfl) ?_
  refine lv_iconst (v := 3) hx hb dX9_move_9 (by decide) ?_
  obtain ⟨xx3, exx3, hE⟩ := j_bd hG0 hE
  try dsimp only at hE
  refine jc_si [.ref (ad (s_X1_moved Y M (j_rf Y o 6))), .int p1, .int p2, .int (3 : Int32)] [] jc jw hA (c_X9_property hY k2 (M := M) exx3) sd_X9_203 rfl hl.1 (j_hR hRf hRl rfl rfl) (Nat.le_of_ble_eq_true rfl) dX9_move_10 (fun H locs jw => ?_)
  exact kr _ _ _ _ _ _ (Option.some.inj (j_ret eG0 hE)) rfl jw dX9_move_13
def s_X9_setShrinking (Y : JY) (M : JM) (o : Nat) (p1 : Int32) : Option (Int32 × JM) := lt_ (j_z (M o 12)) fun vv1 => if p1 = 0 ∨ p1 = 1 then (lt_ (j_up M o 12 p1) fun mm3 => some (vv1, mm3)) else none
set_option maxRecDepth 100000 in
set_option maxHeartbeats 4000000 in
theorem c_X9_setShrinking {D : va_G} {Y : JY} {ty : Nat → ClassId} {ad : Nat → Nat} {sz : Nat} {l : Launch} {M : JM} (hY : j_ok Y) {o : Nat} {p1 : Int32} (ho : j_kd Y o = 9) {r : Int32 × JM} (hE : s_X9_setShrinking Y M o p1 = some r) : JMz D Y ty ad sz l yX9_setShrinking cX9_setShrinking 3 0 0 [.ref (ad o), .int p1] M r.1 r.2 := by
  refine j_ofZ hY (by decide +kernel) (Nat.le_of_ble_eq_true rfl) (fun p e s m below meth c args R Q A hRf hRl hA jc jw kr ls hl => ?_)
  have hx := jc.1
  have hb := jc.2.1
  have hl : lv_has ls 3 [(0, .ref (ad o)), (1, .int p1)] := hl
  unfold s_X9_setShrinking at hE
  obtain ⟨G0, eG0, hG0, hE⟩ := j_F0o hE
  refine lv_aload_n hx hb dX9_setShrinking_0 rfl (lv_at hl 0 rfl) ?_
  refine jg_9_12 jc jw ho wd_4_177 dX9_setShrinking_1 ?_
  refine lv_topi (fun vv1 evv1 => ?_)
  replace hE := j_lu hE evv1
  try dsimp only at hE
  have zvv1 : vv1 = 0 ∨ vv1 = 1 := by rw [evv1]; exact (j_z01 _)
  refine lv_istore_n (lv' := [(2, .int vv1), (0, .ref (ad o)), (1, .int p1)]) hx hb dX9_setShrinking_4 rfl hl (by decide) rfl (fun ls hl => ?_)
  refine lv_aload_n hx hb dX9_setShrinking_5 rfl (lv_at hl 1 rfl) ?_
  refine lv_iload_n hx hb dX9_setShrinking_6 rfl (lv_at hl 2 rfl) ?_
  rcases Classical.em (p1 = 0 ∨ p1 = 1) with g2 | g2
  case inr => rw [if_neg g2] at hE; exact absurd hE (hG0 _)
  rw [if_pos g2] at hE
  refine js_9_12 jc jw ho wd_4_177 g2 dX9_setShrinking_7 (fun H locs jw => ?_)
  obtain ⟨mm3, emm3, hE⟩ := j_lv hE
  rw [← emm3] at jw
  try dsimp only at hE
  refine lv_iload_n hx hb dX9_setShrinking_10 rfl (lv_at hl 0 rfl) ?_
  exact kr _ _ _ _ _ _ (j_fst (Option.some.inj (j_ret eG0 hE))) (j_snd (Option.some.inj (j_ret eG0 hE))) zvv1 jw dX9_setShrinking_11
def s_X9_merge (Y : JY) (M : JM) (o : Nat) (p1 : Int32) (p2 : Int32) (p3 : Int32) : Option (Int32 × JM) := (s_X9_document Y M o p1).bind fun xx1 => (s_X9_document Y M o p2).bind fun xx3 => (s_X9_document Y M o p3).bind fun xx5 => (s_X5_hold Y M (j_rf Y o 7) xx1 xx3 xx5).bind fun xx8 => (s_X5_make Y xx8 (j_rf Y o 7) (xx8 o 9) (j_z (xx8 o 12))).bind fun xx9 => some (xx9.1, xx9.2)
set_option maxRecDepth 100000 in
set_option maxHeartbeats 4000000 in
theorem c_X9_merge {D : va_G} {Y : JY} {ty : Nat → ClassId} {ad : Nat → Nat} {sz : Nat} {l : Launch} {M : JM} (hY : j_ok Y) {o : Nat} {p1 : Int32} {p2 : Int32} {p3 : Int32} (ho : j_kd Y o = 9) {r : Int32 × JM} (hE : s_X9_merge Y M o p1 p2 p3 = some r) : JMi D Y ty ad sz l yX9_merge cX9_merge 7 (some .int) 6 165 [.ref (ad o), .int p1, .int p2, .int p3] M r.1 r.2 := by
  refine j_ofI hY (by decide +kernel) (Nat.le_of_ble_eq_true rfl) (fun p e s m below meth c args R Q A hRf hRl hA jc jw kr ls hl => ?_)
  have hx := jc.1
  have hb := jc.2.1
  have hl : lv_has ls 7 [(0, .ref (ad o)), (1, .int p1), (2, .int p2), (3, .int p3)] := hl
  unfold s_X9_merge at hE
  obtain ⟨G0, eG0, hG0, hE⟩ := j_F0o hE
  refine lv_aload_n hx hb dX9_merge_0 rfl (lv_at hl 0 rfl) ?_
  refine lv_iload_n hx hb dX9_merge_1 rfl (lv_at hl 1 rfl) ?_
  obtain ⟨xx1, exx1, hE⟩ := j_bd hG0 hE
  try dsimp only at hE
  refine jc_vr [.int p1] [] jc jw hA ho (by decide) rfl (c_X9_document hY ho (M := M) exx1) sd_X9_84 rfl hl.1 (j_hR hRf hRl rfl rfl) (Nat.le_of_ble_eq_true rfl) dX9_merge_2 (fun H locs jw hk => ?_)
  have k2 := hk
  refine lv_astore (lv' := [(4, .ref (ad xx1)), (0, .ref (ad o)), (1, .int p1), (2, .int p2), (3, .int p3)]) hx hb dX9_merge_5 hl (by decide) rfl (fun ls hl => ?_)
  refine lv_aload_n hx hb dX9_merge_7 rfl (lv_at hl 1 rfl) ?_
  refine lv_iload_n hx hb dX9_merge_8 rfl (lv_at hl 3 rfl) ?_
  obtain ⟨xx3, exx3, hE⟩ := j_bd hG0 hE
  try dsimp only at hE
  refine jc_vr [.int p2] [] jc jw hA ho (by decide) rfl (c_X9_document hY ho (M := M) exx3) sd_X9_84 rfl hl.1 (j_hR hRf hRl rfl rfl) (Nat.le_of_ble_eq_true rfl) dX9_merge_9 (fun H locs jw hk => ?_)
  have k4 := hk
  refine lv_astore (lv' := [(5, .ref (ad xx3)), (4, .ref (ad xx1)), (0, .ref (ad o)), (1, .int p1), (2, .int p2), (3, .int p3)]) hx hb dX9_merge_12 hl (by decide) rfl (fun ls hl => ?_)
  refine lv_aload_n hx hb dX9_merge_14 rfl (lv_at hl 2 rfl) ?_
  refine lv_iload_n hx hb dX9_merge_15 rfl (lv_at hl 5 rfl) ?_
  obtain ⟨xx5, exx5, hE⟩ := j_bd hG0 hE
  try dsimp only at hE
  refine jc_vr [.int p3] [] jc jw hA ho (by decide) rfl (c_X9_document hY ho (M := M) exx5) sd_X9_84 rfl hl.1 (j_hR hRf hRl rfl rfl) (Nat.le_of_ble_eq_true rfl) dX9_merge_16 (fun H locs jw hk => ?_)
  have k6 := hk
  refine lv_astore (lv' := [(6, .ref (ad xx5)), (5, .ref (ad xx3)), (4, .ref (ad xx1)), (0, .ref (ad o)), (1, .int p1), (2, .int p2), (3, .int p3)]) hx hb dX9_merge_19 hl (by decide) rfl (fun ls hl => ?_)
  refine lv_aload_n hx hb dX9_merge_21 rfl (lv_at hl 3 rfl) ?_
  refine jg_9_7 jc jw ho wd_4_172 dX9_merge_22 ?_
  have k7 := j_sub hY ho 7 (f := 5) rfl (by decide) (by decide) (by decide)
  refine lv_aload hx hb dX9_merge_25 (lv_at hl 2 rfl) ?_
  refine lv_aload hx hb dX9_merge_27 (lv_at hl 1 rfl) ?_
  refine lv_aload hx hb dX9_merge_29 (lv_at hl 0 rfl) ?_
  obtain ⟨xx8, exx8, hE⟩ := j_bd hG0 hE
  try dsimp only at hE
  refine jc_vv [.ref (ad xx1), .ref (ad xx3), .ref (ad xx5)] [] jc jw hA k7 (by decide) rfl (c_X5_hold hY k7 k2 k4 k6 (M := M) exx8) sd_X9_231 rfl hl.1 (j_hR hRf hRl rfl rfl) (Nat.le_of_ble_eq_true rfl) dX9_merge_31 (fun H locs jw => ?_)
  refine lv_aload_n hx hb dX9_merge_34 rfl (lv_at hl 3 rfl) ?_
  refine jg_9_7 jc jw ho wd_4_172 dX9_merge_35 ?_
  refine lv_aload_n hx hb dX9_merge_38 rfl (lv_at hl 3 rfl) ?_
  refine jg_9_9 jc jw ho wd_4_174 dX9_merge_39 ?_
  refine lv_aload_n hx hb dX9_merge_42 rfl (lv_at hl 3 rfl) ?_
  refine jg_9_12 jc jw ho wd_4_177 dX9_merge_43 ?_
  obtain ⟨xx9, exx9, hE⟩ := j_bd hG0 hE
  try dsimp only at hE
  refine jc_vi [.int (xx8 o 9), .int (j_z (xx8 o 12))] [] jc jw hA k7 (by decide) rfl (c_X5_make hY k7 (M := xx8) exx9) sd_X9_235 rfl hl.1 (j_hR hRf hRl rfl rfl) (Nat.le_of_ble_eq_true rfl) dX9_merge_46 (fun H locs jw => ?_)
  exact kr _ _ _ _ _ _ (j_fst (Option.some.inj (j_ret eG0 hE))) (j_snd (Option.some.inj (j_ret eG0 hE))) jw dX9_merge_49
def s_X9_requireMerge (Y : JY) (M : JM) (o : Nat) : Option (Unit) := if (s_X5_exists Y M (j_rf Y o 7)) = 0 then (none) else (some ())
set_option maxRecDepth 100000 in
set_option maxHeartbeats 4000000 in
theorem c_X9_requireMerge {D : va_G} {Y : JY} {ty : Nat → ClassId} {ad : Nat → Nat} {sz : Nat} {l : Launch} {M : JM} (hY : j_ok Y) {o : Nat} (ho : j_kd Y o = 9) {r : Unit} (hE : s_X9_requireMerge Y M o = some r) : JMv D Y ty ad sz l yX9_requireMerge cX9_requireMerge 1 1 20 [.ref (ad o)] M M := by
  refine j_ofV hY (by decide +kernel) (Nat.le_of_ble_eq_true rfl) (fun p e s m below meth c args R Q A hRf hRl hA jc jw kr ls hl => ?_)
  have hx := jc.1
  have hb := jc.2.1
  have hl : lv_has ls 1 [(0, .ref (ad o))] := hl
  unfold s_X9_requireMerge at hE
  obtain ⟨G0, eG0, hG0, hE⟩ := j_F0o hE
  refine lv_aload_n hx hb dX9_requireMerge_0 rfl (lv_at hl 0 rfl) ?_
  refine jg_9_7 jc jw ho wd_4_172 dX9_requireMerge_1 ?_
  have k1 := j_sub hY ho 7 (f := 5) rfl (by decide) (by decide) (by decide)
  refine jc_vz [] [] jc jw hA k1 (by decide) rfl (c_X5_exists hY k1 (M := M) rfl) sd_X9_333 rfl hl.1 (j_hR hRf hRl rfl rfl) (Nat.le_of_ble_eq_true rfl) dX9_requireMerge_4 (fun H locs jw hz => ?_)
  have z_2 := hz
  refine lv_if_ne (tgt := 21) hx hb dX9_requireMerge_7 (by decide) (fun c3 => ?_) (fun c3 => ?_)
  · rw [if_neg c3] at hE
    exact kr _ _ _ _ _ rfl jw dX9_requireMerge_21
  · rw [if_pos c3] at hE
    exact absurd hE (hG0 _)
def s_X9_mergedLength (Y : JY) (M : JM) (o : Nat) : Option (Int32) := (s_X9_requireMerge Y M o).bind fun xx1 => some (s_X4_size Y M (s_X5_outcomeLines Y M (j_rf Y o 7)))
set_option maxRecDepth 100000 in
set_option maxHeartbeats 4000000 in
theorem c_X9_mergedLength {D : va_G} {Y : JY} {ty : Nat → ClassId} {ad : Nat → Nat} {sz : Nat} {l : Launch} {M : JM} (hY : j_ok Y) {o : Nat} (ho : j_kd Y o = 9) {r : Int32} (hE : s_X9_mergedLength Y M o = some r) : JMi D Y ty ad sz l yX9_mergedLength cX9_mergedLength 1 (some .int) 2 40 [.ref (ad o)] M r M := by
  refine j_ofI hY (by decide +kernel) (Nat.le_of_ble_eq_true rfl) (fun p e s m below meth c args R Q A hRf hRl hA jc jw kr ls hl => ?_)
  have hx := jc.1
  have hb := jc.2.1
  have hl : lv_has ls 1 [(0, .ref (ad o))] := hl
  unfold s_X9_mergedLength at hE
  obtain ⟨G0, eG0, hG0, hE⟩ := j_F0o hE
  refine lv_aload_n hx hb dX9_mergedLength_0 rfl (lv_at hl 0 rfl) ?_
  obtain ⟨xx1, exx1, hE⟩ := j_bd hG0 hE
  try dsimp only at hE
  refine jc_vv [] [] jc jw hA ho (by decide) rfl (c_X9_requireMerge hY ho (M := M) exx1) sd_X9_238 rfl hl.1 (j_hR hRf hRl rfl rfl) (Nat.le_of_ble_eq_true rfl) dX9_mergedLength_1 (fun H locs jw => ?_)
  refine lv_aload_n hx hb dX9_mergedLength_4 rfl (lv_at hl 0 rfl) ?_
  refine jg_9_7 jc jw ho wd_4_172 dX9_mergedLength_5 ?_
  have k2 := j_sub hY ho 7 (f := 5) rfl (by decide) (by decide) (by decide)
  refine jc_vr [] [] jc jw hA k2 (by decide) rfl (c_X5_outcomeLines hY k2 (M := M) rfl) sd_X9_256 rfl hl.1 (j_hR hRf hRl rfl rfl) (Nat.le_of_ble_eq_true rfl) dX9_mergedLength_8 (fun H locs jw hk => ?_)
  have k3 := hk
  refine jc_vi [] [] jc jw hA k3 (by decide) rfl (c_X4_size hY k3 (M := M) rfl) sd_X9_102 rfl hl.1 (j_hR hRf hRl rfl rfl) (Nat.le_of_ble_eq_true rfl) dX9_mergedLength_11 (fun H locs jw => ?_)
  exact kr _ _ _ _ _ _ (Option.some.inj (j_ret eG0 hE)) rfl jw dX9_mergedLength_14
def s_X9_makePatch (Y : JY) (M : JM) (o : Nat) (p1 : Int32) : Option (Int32 × JM) := if p1 < 0 ∨ ¬ (p1 ≤ (3 : Int32)) then (none) else ((s_X9_requireComparison Y M o).bind fun xx3 => (s_X6_make Y M (j_rf Y o 8) (j_rf Y o 6) p1).bind fun xx6 => some (xx6.1, xx6.2))
set_option maxRecDepth 100000 in
set_option maxHeartbeats 4000000 in
theorem c_X9_makePatch {D : va_G} {Y : JY} {ty : Nat → ClassId} {ad : Nat → Nat} {sz : Nat} {l : Launch} {M : JM} (hY : j_ok Y) {o : Nat} {p1 : Int32} (ho : j_kd Y o = 9) {r : Int32 × JM} (hE : s_X9_makePatch Y M o p1 = some r) : JMi D Y ty ad sz l yX9_makePatch cX9_makePatch 2 (some .int) 4 103 [.ref (ad o), .int p1] M r.1 r.2 := by
  refine j_ofI hY (by decide +kernel) (Nat.le_of_ble_eq_true rfl) (fun p e s m below meth c args R Q A hRf hRl hA jc jw kr ls hl => ?_)
  have hx := jc.1
  have hb := jc.2.1
  have hl : lv_has ls 2 [(0, .ref (ad o)), (1, .int p1)] := hl
  unfold s_X9_makePatch at hE
  obtain ⟨G0, eG0, hG0, hE⟩ := j_F0o hE
  refine lv_iload_n hx hb dX9_makePatch_0 rfl (lv_at hl 1 rfl) ?_
  have B7 : ∀ (H : Heap) (locs : List Loc), JW D Y ty ad A s.heap M H locs → (p1 < 0 ∨ ¬ (p1 ≤ (3 : Int32))) → W p l e R s m args below meth c H locs 0 0 Q (F0 m 9 ls []) := by
    intro H locs jw hcc
    rw [if_pos hcc] at hE
    exact absurd hE (hG0 _)
  refine lv_if_lt (tgt := 9) hx hb dX9_makePatch_1 (by decide) (fun c1 => B7 _ _ jw (Or.inl c1)) (fun c1 => ?_)
  refine lv_iload_n hx hb dX9_makePatch_4 rfl (lv_at hl 1 rfl) ?_
  refine lv_iconst (v := 3) hx hb dX9_makePatch_5 (by decide) ?_
  refine lv_icmp_le (tgt := 20) hx hb dX9_makePatch_6 (by decide) (fun c2 => ?_) (fun c2 => B7 _ _ jw (Or.inr c2))
  rw [if_neg (fun hq => hq.elim (fun hq => (j_abs c1 hq)) (fun hq => (j_absn c2 hq)))] at hE
  refine lv_aload_n hx hb dX9_makePatch_20 rfl (lv_at hl 0 rfl) ?_
  obtain ⟨xx3, exx3, hE⟩ := j_bd hG0 hE
  try dsimp only at hE
  refine jc_vv [] [] jc jw hA ho (by decide) rfl (c_X9_requireComparison hY ho (M := M) exx3) sd_X9_177 rfl hl.1 (j_hR hRf hRl rfl rfl) (Nat.le_of_ble_eq_true rfl) dX9_makePatch_21 (fun H locs jw => ?_)
  refine lv_aload_n hx hb dX9_makePatch_24 rfl (lv_at hl 0 rfl) ?_
  refine jg_9_8 jc jw ho wd_4_173 dX9_makePatch_25 ?_
  have k4 := j_sub hY ho 8 (f := 6) rfl (by decide) (by decide) (by decide)
  refine lv_aload_n hx hb dX9_makePatch_28 rfl (lv_at hl 0 rfl) ?_
  refine jg_9_6 jc jw ho wd_4_171 dX9_makePatch_29 ?_
  have k5 := j_sub hY ho 6 (f := 1) rfl (by decide) (by decide) (by decide)
  refine lv_iload_n hx hb dX9_makePatch_32 rfl (lv_at hl 1 rfl) ?_
  obtain ⟨xx6, exx6, hE⟩ := j_bd hG0 hE
  try dsimp only at hE
  refine jc_vi [.ref (ad (j_rf Y o 6)), .int p1] [] jc jw hA k4 (by decide) rfl (c_X6_make hY k4 k5 (M := M) exx6) sd_X9_270 rfl hl.1 (j_hR hRf hRl rfl rfl) (Nat.le_of_ble_eq_true rfl) dX9_makePatch_33 (fun H locs jw => ?_)
  exact kr _ _ _ _ _ _ (j_fst (Option.some.inj (j_ret eG0 hE))) (j_snd (Option.some.inj (j_ret eG0 hE))) jw dX9_makePatch_36
def s_X9_requirePatch (Y : JY) (M : JM) (o : Nat) : Option (Unit) := if (s_X6_exists Y M (j_rf Y o 8)) = 0 then (none) else (some ())
set_option maxRecDepth 100000 in
set_option maxHeartbeats 4000000 in
theorem c_X9_requirePatch {D : va_G} {Y : JY} {ty : Nat → ClassId} {ad : Nat → Nat} {sz : Nat} {l : Launch} {M : JM} (hY : j_ok Y) {o : Nat} (ho : j_kd Y o = 9) {r : Unit} (hE : s_X9_requirePatch Y M o = some r) : JMv D Y ty ad sz l yX9_requirePatch cX9_requirePatch 1 1 20 [.ref (ad o)] M M := by
  refine j_ofV hY (by decide +kernel) (Nat.le_of_ble_eq_true rfl) (fun p e s m below meth c args R Q A hRf hRl hA jc jw kr ls hl => ?_)
  have hx := jc.1
  have hb := jc.2.1
  have hl : lv_has ls 1 [(0, .ref (ad o))] := hl
  unfold s_X9_requirePatch at hE
  obtain ⟨G0, eG0, hG0, hE⟩ := j_F0o hE
  refine lv_aload_n hx hb dX9_requirePatch_0 rfl (lv_at hl 0 rfl) ?_
  refine jg_9_8 jc jw ho wd_4_173 dX9_requirePatch_1 ?_
  have k1 := j_sub hY ho 8 (f := 6) rfl (by decide) (by decide) (by decide)
  refine jc_vz [] [] jc jw hA k1 (by decide) rfl (c_X6_exists hY k1 (M := M) rfl) sd_X9_336 rfl hl.1 (j_hR hRf hRl rfl rfl) (Nat.le_of_ble_eq_true rfl) dX9_requirePatch_4 (fun H locs jw hz => ?_)
  have z_2 := hz
  refine lv_if_ne (tgt := 21) hx hb dX9_requirePatch_7 (by decide) (fun c3 => ?_) (fun c3 => ?_)
  · rw [if_neg c3] at hE
    exact kr _ _ _ _ _ rfl jw dX9_requirePatch_21
  · rw [if_pos c3] at hE
    exact absurd hE (hG0 _)
def s_X9_hunk (Y : JY) (M : JM) (o : Nat) (p1 : Int32) (p2 : Int32) : Option (Int32) := (s_X9_requirePatch Y M o).bind fun xx1 => (s_X9_property Y M (s_X6_parts Y M (j_rf Y o 8)) p1 p2 (6 : Int32)).bind fun xx4 => some xx4
set_option maxRecDepth 100000 in
set_option maxHeartbeats 4000000 in
theorem c_X9_hunk {D : va_G} {Y : JY} {ty : Nat → ClassId} {ad : Nat → Nat} {sz : Nat} {l : Launch} {M : JM} (hY : j_ok Y) {o : Nat} {p1 : Int32} {p2 : Int32} (ho : j_kd Y o = 9) {r : Int32} (hE : s_X9_hunk Y M o p1 p2 = some r) : JMi D Y ty ad sz l yX9_hunk cX9_hunk 3 (some .int) 2 47 [.ref (ad o), .int p1, .int p2] M r M := by
  refine j_ofI hY (by decide +kernel) (Nat.le_of_ble_eq_true rfl) (fun p e s m below meth c args R Q A hRf hRl hA jc jw kr ls hl => ?_)
  have hx := jc.1
  have hb := jc.2.1
  have hl : lv_has ls 3 [(0, .ref (ad o)), (1, .int p1), (2, .int p2)] := hl
  unfold s_X9_hunk at hE
  obtain ⟨G0, eG0, hG0, hE⟩ := j_F0o hE
  refine lv_aload_n hx hb dX9_hunk_0 rfl (lv_at hl 0 rfl) ?_
  obtain ⟨xx1, exx1, hE⟩ := j_bd hG0 hE
  try dsimp only at hE
  refine jc_vv [] [] jc jw hA ho (by decide) rfl (c_X9_requirePatch hY ho (M := M) exx1) sd_X9_273 rfl hl.1 (j_hR hRf hRl rfl rfl) (Nat.le_of_ble_eq_true rfl) dX9_hunk_1 (fun H locs jw => ?_)
  refine lv_aload_n hx hb dX9_hunk_4 rfl (lv_at hl 0 rfl) ?_
  refine jg_9_8 jc jw ho wd_4_173 dX9_hunk_5 ?_
  have k2 := j_sub hY ho 8 (f := 6) rfl (by decide) (by decide) (by decide)
  refine jc_vr [] [] jc jw hA k2 (by decide) rfl (c_X6_parts hY k2 (M := M) rfl) sd_X9_276 rfl hl.1 (j_hR hRf hRl rfl rfl) (Nat.le_of_ble_eq_true rfl) dX9_hunk_8 (fun H locs jw hk => ?_)
  have k3 := hk
  refine lv_iload_n hx hb dX9_hunk_11 rfl (lv_at hl 1 rfl) ?_
  refine lv_iload_n hx hb dX9_hunk_12 rfl (lv_at hl 2 rfl) ?_
  refine lv_bipush (v := 6) hx hb dX9_hunk_13 (by decide) ?_
  obtain ⟨xx4, exx4, hE⟩ := j_bd hG0 hE
  try dsimp only at hE
  refine jc_si [.ref (ad (s_X6_parts Y M (j_rf Y o 8))), .int p1, .int p2, .int (6 : Int32)] [] jc jw hA (c_X9_property hY k3 (M := M) exx4) sd_X9_203 rfl hl.1 (j_hR hRf hRl rfl rfl) (Nat.le_of_ble_eq_true rfl) dX9_hunk_15 (fun H locs jw => ?_)
  exact kr _ _ _ _ _ _ (Option.some.inj (j_ret eG0 hE)) rfl jw dX9_hunk_18
def s_X9_apply (Y : JY) (M : JM) (o : Nat) (p1 : Int32) (p2 : Int32) (p3 : Int32) : Option ((Nat × JM) ⊕ (Int32 × JM)) := (s_X9_document Y M o p1).bind fun xx1 => if p2 < 0 ∨ ¬ (p2 ≤ (2 : Int32)) then (some (Sum.inl (0, M))) else ((s_X9_requirePatch Y M o).bind fun xx5 => (s_X6_attempt Y M (j_rf Y o 8) xx1 p2 p3).bind fun xx7 => if (s_X4_size Y xx7.2 xx7.1) ≤ (24 : Int32) then ((s_X9_changeTo Y xx7.2 o p1 xx1 xx7.1).bind fun xx10 => (s_X6_keepOutcomes Y xx10.2 (j_rf Y o 8)).bind fun xx11 => some (Sum.inr (xx11.1, xx11.2))) else (some (Sum.inl (4, xx7.2))))
set_option maxRecDepth 100000 in
set_option maxHeartbeats 4000000 in
theorem c_X9_apply {D : va_G} {Y : JY} {ty : Nat → ClassId} {ad : Nat → Nat} {sz : Nat} {l : Launch} {M : JM} (hl9 : l.stackTraces = false) (hY : j_ok Y) {o : Nat} {p1 : Int32} {p2 : Int32} {p3 : Int32} (ho : j_kd Y o = 9) {r : (Nat × JM) ⊕ (Int32 × JM)} (hE : s_X9_apply Y M o p1 p2 p3 = some r) : JTi D Y ty ad sz l yX9_apply cX9_apply 6 6 153 1 6 [.ref (ad o), .int p1, .int p2, .int p3] M r := by
  refine j_ofTi hl9 hY (by decide +kernel) (Nat.le_of_ble_eq_true rfl) rfl (fun p e s m below meth c args R Q A hRf hRl hRc hRs hA jc jx jw kr kt ls hl => ?_)
  have hx := jc.1
  have hb := jc.2.1
  have hl : lv_has ls 6 [(0, .ref (ad o)), (1, .int p1), (2, .int p2), (3, .int p3)] := hl
  unfold s_X9_apply at hE
  obtain ⟨G0, eG0, hG0, hE⟩ := j_F0o hE
  refine lv_aload_n hx hb dX9_apply_0 rfl (lv_at hl 0 rfl) ?_
  refine lv_iload_n hx hb dX9_apply_1 rfl (lv_at hl 1 rfl) ?_
  obtain ⟨xx1, exx1, hE⟩ := j_bd hG0 hE
  try dsimp only at hE
  refine jc_vr [.int p1] [] jc jw hA ho (by decide) rfl (c_X9_document hY ho (M := M) exx1) sd_X9_84 rfl hl.1 (j_hRT hRf hRl hRc hRs rfl rfl rfl rfl) (Nat.le_of_ble_eq_true rfl) dX9_apply_2 (fun H locs jw hk => ?_)
  have k2 := hk
  refine lv_astore (lv' := [(4, .ref (ad xx1)), (0, .ref (ad o)), (1, .int p1), (2, .int p2), (3, .int p3)]) hx hb dX9_apply_5 hl (by decide) rfl (fun ls hl => ?_)
  refine lv_iload_n hx hb dX9_apply_7 rfl (lv_at hl 3 rfl) ?_
  have B12 : ∀ (H : Heap) (locs : List Loc), JW D Y ty ad A s.heap M H locs → (p2 < 0 ∨ ¬ (p2 ≤ (2 : Int32))) → W p l e R s m args below meth c H locs 0 0 Q (F0 m 16 ls []) := by
    intro H locs jw hcc
    rw [if_pos hcc] at hE
    exact kt.1 _ _ _ _ _ _ 0 168 277 172 "no such fuzz" _ (Option.some.inj (j_ret eG0 hE)) jxt_0_168 (by decide) jw hl.1 dX9_apply_16 dX9_apply_19 (Or.inr ⟨dX9_apply_20, dX9_apply_23, dX9_apply_26⟩) (j_hRN hRf hRl hRc hRs rfl rfl rfl rfl)
  refine lv_if_lt (tgt := 16) hx hb dX9_apply_8 (by decide) (fun c3 => B12 _ _ jw (Or.inl c3)) (fun c3 => ?_)
  refine lv_iload_n hx hb dX9_apply_11 rfl (lv_at hl 3 rfl) ?_
  refine lv_iconst (v := 2) hx hb dX9_apply_12 (by decide) ?_
  refine lv_icmp_le (tgt := 27) hx hb dX9_apply_13 (by decide) (fun c4 => ?_) (fun c4 => B12 _ _ jw (Or.inr c4))
  rw [if_neg (fun hq => hq.elim (fun hq => (j_abs c3 hq)) (fun hq => (j_absn c4 hq)))] at hE
  refine lv_aload_n hx hb dX9_apply_27 rfl (lv_at hl 1 rfl) ?_
  obtain ⟨xx5, exx5, hE⟩ := j_bd hG0 hE
  try dsimp only at hE
  refine jc_vv [] [] jc jw hA ho (by decide) rfl (c_X9_requirePatch hY ho (M := M) exx5) sd_X9_273 rfl hl.1 (j_hRT hRf hRl hRc hRs rfl rfl rfl rfl) (Nat.le_of_ble_eq_true rfl) dX9_apply_28 (fun H locs jw => ?_)
  refine lv_aload_n hx hb dX9_apply_31 rfl (lv_at hl 1 rfl) ?_
  refine jg_9_8 jc jw ho wd_4_173 dX9_apply_32 ?_
  have k6 := j_sub hY ho 8 (f := 6) rfl (by decide) (by decide) (by decide)
  refine lv_aload hx hb dX9_apply_35 (lv_at hl 0 rfl) ?_
  refine lv_iload_n hx hb dX9_apply_37 rfl (lv_at hl 3 rfl) ?_
  refine lv_iload_n hx hb dX9_apply_38 rfl (lv_at hl 4 rfl) ?_
  obtain ⟨xx7, exx7, hE⟩ := j_bd hG0 hE
  try dsimp only at hE
  refine jc_vr [.ref (ad xx1), .int p2, .int p3] [] jc jw hA k6 (by decide) rfl (c_X6_attempt hY k6 k2 (M := M) exx7) sd_X9_279 rfl hl.1 (j_hRT hRf hRl hRc hRs rfl rfl rfl rfl) (Nat.le_of_ble_eq_true rfl) dX9_apply_39 (fun H locs jw hk => ?_)
  have k8 := hk
  refine lv_astore (lv' := [(5, .ref (ad xx7.1)), (4, .ref (ad xx1)), (0, .ref (ad o)), (1, .int p1), (2, .int p2), (3, .int p3)]) hx hb dX9_apply_42 hl (by decide) rfl (fun ls hl => ?_)
  refine lv_aload hx hb dX9_apply_44 (lv_at hl 0 rfl) ?_
  refine jc_vi [] [] jc jw hA k8 (by decide) rfl (c_X4_size hY k8 (M := xx7.2) rfl) sd_X9_102 rfl hl.1 (j_hRT hRf hRl hRc hRs rfl rfl rfl rfl) (Nat.le_of_ble_eq_true rfl) dX9_apply_46 (fun H locs jw => ?_)
  refine lv_bipush (v := 24) hx hb dX9_apply_49 (by decide) ?_
  refine lv_icmp_le (tgt := 64) hx hb dX9_apply_51 (by decide) (fun c9 => ?_) (fun c9 => ?_)
  · rw [if_pos c9] at hE
    refine lv_aload_n hx hb dX9_apply_64 rfl (lv_at hl 2 rfl) ?_
    refine lv_iload_n hx hb dX9_apply_65 rfl (lv_at hl 3 rfl) ?_
    refine lv_aload hx hb dX9_apply_66 (lv_at hl 1 rfl) ?_
    refine lv_aload hx hb dX9_apply_68 (lv_at hl 0 rfl) ?_
    obtain ⟨xx10, exx10, hE⟩ := j_bd hG0 hE
    try dsimp only at hE
    refine jc_vi [.int p1, .ref (ad xx1), .ref (ad xx7.1)] [] jc jw hA ho (by decide) rfl (c_X9_changeTo hY ho k2 k8 (M := xx7.2) exx10) sd_X9_128 rfl hl.1 (j_hRT hRf hRl hRc hRs rfl rfl rfl rfl) (Nat.le_of_ble_eq_true rfl) dX9_apply_70 (fun H locs jw => ?_)
    refine lv_pop hx hb dX9_apply_73 rfl ?_
    refine lv_aload_n hx hb dX9_apply_74 rfl (lv_at hl 2 rfl) ?_
    refine jg_9_8 jc jw ho wd_4_173 dX9_apply_75 ?_
    obtain ⟨xx11, exx11, hE⟩ := j_bd hG0 hE
    try dsimp only at hE
    refine jc_vi [] [] jc jw hA k6 (by decide) rfl (c_X6_keepOutcomes hY k6 (M := xx10.2) exx11) sd_X9_283 rfl hl.1 (j_hRT hRf hRl hRc hRs rfl rfl rfl rfl) (Nat.le_of_ble_eq_true rfl) dX9_apply_78 (fun H locs jw => ?_)
    exact kr _ _ _ _ _ _ _ _ (Option.some.inj (j_ret eG0 hE)) jw (j_cs hRc hRs rfl rfl) dX9_apply_81
  · rw [if_neg c9] at hE
    exact kt.1 _ _ _ _ _ _ 4 263 166 267 "the document would have too many lines" _ (Option.some.inj (j_ret eG0 hE)) jxt_4_263 (by decide) jw hl.1 dX9_apply_54 dX9_apply_57 (Or.inl ⟨dX9_apply_58, dX9_apply_60, dX9_apply_63⟩) (j_hRN hRf hRl hRc hRs rfl rfl rfl rfl)
def s_X9_outcome (Y : JY) (M : JM) (o : Nat) (p1 : Int32) (p2 : Int32) : Option (Int32) := if (s_X8_hasRow Y M (s_X6_outcomes Y M (j_rf Y o 8)) p1) = 0 then (none) else (if p2 < 0 ∨ ¬ (p2 ≤ (1 : Int32)) then (none) else (some (s_X8_at Y M (s_X6_outcomes Y M (j_rf Y o 8)) p1 p2)))
set_option maxRecDepth 100000 in
set_option maxHeartbeats 4000000 in
theorem c_X9_outcome {D : va_G} {Y : JY} {ty : Nat → ClassId} {ad : Nat → Nat} {sz : Nat} {l : Launch} {M : JM} (hY : j_ok Y) {o : Nat} {p1 : Int32} {p2 : Int32} (ho : j_kd Y o = 9) {r : Int32} (hE : s_X9_outcome Y M o p1 p2 = some r) : JMi D Y ty ad sz l yX9_outcome cX9_outcome 3 (some .int) 1 24 [.ref (ad o), .int p1, .int p2] M r M := by
  refine j_ofI hY (by decide +kernel) (Nat.le_of_ble_eq_true rfl) (fun p e s m below meth c args R Q A hRf hRl hA jc jw kr ls hl => ?_)
  have hx := jc.1
  have hb := jc.2.1
  have hl : lv_has ls 3 [(0, .ref (ad o)), (1, .int p1), (2, .int p2)] := hl
  unfold s_X9_outcome at hE
  obtain ⟨G0, eG0, hG0, hE⟩ := j_F0o hE
  refine lv_aload_n hx hb dX9_outcome_0 rfl (lv_at hl 0 rfl) ?_
  refine jg_9_8 jc jw ho wd_4_173 dX9_outcome_1 ?_
  have k1 := j_sub hY ho 8 (f := 6) rfl (by decide) (by decide) (by decide)
  refine jc_vr [] [] jc jw hA k1 (by decide) rfl (c_X6_outcomes hY k1 (M := M) rfl) sd_X9_286 rfl hl.1 (j_hR hRf hRl rfl rfl) (Nat.le_of_ble_eq_true rfl) dX9_outcome_4 (fun H locs jw hk => ?_)
  have k2 := hk
  refine lv_iload_n hx hb dX9_outcome_7 rfl (lv_at hl 1 rfl) ?_
  refine jc_vz [.int p1] [] jc jw hA k2 (by decide) rfl (c_X8_hasRow hY k2 (M := M) rfl) sd_X9_289 rfl hl.1 (j_hR hRf hRl rfl rfl) (Nat.le_of_ble_eq_true rfl) dX9_outcome_8 (fun H locs jw hz => ?_)
  have z_3 := hz
  refine lv_if_ne (tgt := 25) hx hb dX9_outcome_11 (by decide) (fun c4 => ?_) (fun c4 => ?_)
  · rw [if_neg c4] at hE
    refine lv_iload_n hx hb dX9_outcome_25 rfl (lv_at hl 2 rfl) ?_
    have B8 : ∀ (H : Heap) (locs : List Loc), JW D Y ty ad A s.heap M H locs → (p2 < 0 ∨ ¬ (p2 ≤ (1 : Int32))) → W p l e R s m args below meth c H locs 0 0 Q (F0 m 34 ls []) := by
      intro H locs jw hcc
      rw [if_pos hcc] at hE
      exact absurd hE (hG0 _)
    refine lv_if_lt (tgt := 34) hx hb dX9_outcome_26 (by decide) (fun c5 => B8 _ _ jw (Or.inl c5)) (fun c5 => ?_)
    refine lv_iload_n hx hb dX9_outcome_29 rfl (lv_at hl 2 rfl) ?_
    refine lv_iconst (v := 1) hx hb dX9_outcome_30 (by decide) ?_
    refine lv_icmp_le (tgt := 45) hx hb dX9_outcome_31 (by decide) (fun c6 => ?_) (fun c6 => B8 _ _ jw (Or.inr c6))
    rw [if_neg (fun hq => hq.elim (fun hq => (j_abs c5 hq)) (fun hq => (j_absn c6 hq)))] at hE
    refine lv_aload_n hx hb dX9_outcome_45 rfl (lv_at hl 0 rfl) ?_
    refine jg_9_8 jc jw ho wd_4_173 dX9_outcome_46 ?_
    refine jc_vr [] [] jc jw hA k1 (by decide) rfl (c_X6_outcomes hY k1 (M := M) rfl) sd_X9_286 rfl hl.1 (j_hR hRf hRl rfl rfl) (Nat.le_of_ble_eq_true rfl) dX9_outcome_49 (fun H locs jw hk => ?_)
    have k7 := hk
    refine lv_iload_n hx hb dX9_outcome_52 rfl (lv_at hl 1 rfl) ?_
    refine lv_iload_n hx hb dX9_outcome_53 rfl (lv_at hl 2 rfl) ?_
    refine jc_vi [.int p1, .int p2] [] jc jw hA k7 (by decide) rfl (c_X8_at hY k7 (M := M) rfl) sd_X9_296 rfl hl.1 (j_hR hRf hRl rfl rfl) (Nat.le_of_ble_eq_true rfl) dX9_outcome_54 (fun H locs jw => ?_)
    exact kr _ _ _ _ _ _ (Option.some.inj (j_ret eG0 hE)) rfl jw dX9_outcome_57
  · rw [if_pos c4] at hE
    exact absurd hE (hG0 _)
def s_X9_undo (Y : JY) (M : JM) (o : Nat) : Option (Int32 × JM) := if (s_X2_isEmpty Y M (j_rf Y o 2)) = 0 then ((s_X2_takeBack Y M (j_rf Y o 2) (j_rf Y o 0)).bind fun xx5 => some (xx5.1, xx5.2)) else (none)
set_option maxRecDepth 100000 in
set_option maxHeartbeats 4000000 in
theorem c_X9_undo {D : va_G} {Y : JY} {ty : Nat → ClassId} {ad : Nat → Nat} {sz : Nat} {l : Launch} {M : JM} (hY : j_ok Y) {o : Nat} (ho : j_kd Y o = 9) {r : Int32 × JM} (hE : s_X9_undo Y M o = some r) : JMi D Y ty ad sz l yX9_undo cX9_undo 1 (some .int) 4 88 [.ref (ad o)] M r.1 r.2 := by
  refine j_ofI hY (by decide +kernel) (Nat.le_of_ble_eq_true rfl) (fun p e s m below meth c args R Q A hRf hRl hA jc jw kr ls hl => ?_)
  have hx := jc.1
  have hb := jc.2.1
  have hl : lv_has ls 1 [(0, .ref (ad o))] := hl
  unfold s_X9_undo at hE
  obtain ⟨G0, eG0, hG0, hE⟩ := j_F0o hE
  refine lv_aload_n hx hb dX9_undo_0 rfl (lv_at hl 0 rfl) ?_
  refine jg_9_2 jc jw ho wd_4_167 dX9_undo_1 ?_
  have k1 := j_sub hY ho 2 (f := 2) rfl (by decide) (by decide) (by decide)
  refine jc_vz [] [] jc jw hA k1 (by decide) rfl (c_X2_isEmpty hY k1 (M := M) rfl) sd_X9_298 rfl hl.1 (j_hR hRf hRl rfl rfl) (Nat.le_of_ble_eq_true rfl) dX9_undo_4 (fun H locs jw hz => ?_)
  have z_2 := hz
  refine lv_if_eq (tgt := 21) hx hb dX9_undo_7 (by decide) (fun c3 => ?_) (fun c3 => ?_)
  · rw [if_pos c3] at hE
    refine lv_aload_n hx hb dX9_undo_21 rfl (lv_at hl 0 rfl) ?_
    refine jg_9_2 jc jw ho wd_4_167 dX9_undo_22 ?_
    refine lv_aload_n hx hb dX9_undo_25 rfl (lv_at hl 0 rfl) ?_
    refine jg_9_0 jc jw ho wd_4_165 dX9_undo_26 ?_
    have k4 := j_sub hY ho 0 (f := 7) rfl (by decide) (by decide) (by decide)
    obtain ⟨xx5, exx5, hE⟩ := j_bd hG0 hE
    try dsimp only at hE
    refine jc_vi [.ref (ad (j_rf Y o 0))] [] jc jw hA k1 (by decide) rfl (c_X2_takeBack hY k1 k4 (M := M) exx5) sd_X9_303 rfl hl.1 (j_hR hRf hRl rfl rfl) (Nat.le_of_ble_eq_true rfl) dX9_undo_29 (fun H locs jw => ?_)
    exact kr _ _ _ _ _ _ (j_fst (Option.some.inj (j_ret eG0 hE))) (j_snd (Option.some.inj (j_ret eG0 hE))) jw dX9_undo_32
  · rw [if_neg c3] at hE
    exact absurd hE (hG0 _)
def s_X9_save (Y : JY) (M : JM) (o : Nat) : Option (Int32 × JM) := (s_X7_become Y M (j_rf Y o 1) (j_rf Y o 0)).bind fun xx3 => lt_ (j_up xx3 o 10 (xx3 o 9)) fun mm4 => lt_ (j_up mm4 o 11 (1 : Int32)) fun mm5 => (s_X7_allLines Y mm5 (j_rf Y o 1)).bind fun xx6 => some (xx6, mm5)
set_option maxRecDepth 100000 in
set_option maxHeartbeats 4000000 in
theorem c_X9_save {D : va_G} {Y : JY} {ty : Nat → ClassId} {ad : Nat → Nat} {sz : Nat} {l : Launch} {M : JM} (hY : j_ok Y) {o : Nat} (ho : j_kd Y o = 9) {r : Int32 × JM} (hE : s_X9_save Y M o = some r) : JMi D Y ty ad sz l yX9_save cX9_save 1 (some .int) 4 88 [.ref (ad o)] M r.1 r.2 := by
  refine j_ofI hY (by decide +kernel) (Nat.le_of_ble_eq_true rfl) (fun p e s m below meth c args R Q A hRf hRl hA jc jw kr ls hl => ?_)
  have hx := jc.1
  have hb := jc.2.1
  have hl : lv_has ls 1 [(0, .ref (ad o))] := hl
  unfold s_X9_save at hE
  obtain ⟨G0, eG0, hG0, hE⟩ := j_F0o hE
  refine lv_aload_n hx hb dX9_save_0 rfl (lv_at hl 0 rfl) ?_
  refine jg_9_1 jc jw ho wd_4_166 dX9_save_1 ?_
  have k1 := j_sub hY ho 1 (f := 7) rfl (by decide) (by decide) (by decide)
  refine lv_aload_n hx hb dX9_save_4 rfl (lv_at hl 0 rfl) ?_
  refine jg_9_0 jc jw ho wd_4_165 dX9_save_5 ?_
  have k2 := j_sub hY ho 0 (f := 7) rfl (by decide) (by decide) (by decide)
  obtain ⟨xx3, exx3, hE⟩ := j_bd hG0 hE
  try dsimp only at hE
  refine jc_vv [.ref (ad (j_rf Y o 0))] [] jc jw hA k1 (by decide) rfl (c_X7_become hY k1 k2 (M := M) exx3) sd_X9_307 rfl hl.1 (j_hR hRf hRl rfl rfl) (Nat.le_of_ble_eq_true rfl) dX9_save_8 (fun H locs jw => ?_)
  refine lv_aload_n hx hb dX9_save_11 rfl (lv_at hl 0 rfl) ?_
  refine lv_aload_n hx hb dX9_save_12 rfl (lv_at hl 0 rfl) ?_
  refine jg_9_9 jc jw ho wd_4_174 dX9_save_13 ?_
  refine js_9_10 jc jw ho wd_4_175 dX9_save_16 (fun H locs jw => ?_)
  obtain ⟨mm4, emm4, hE⟩ := j_lv hE
  rw [← emm4] at jw
  try dsimp only at hE
  refine lv_aload_n hx hb dX9_save_19 rfl (lv_at hl 0 rfl) ?_
  refine lv_iconst (v := 1) hx hb dX9_save_20 (by decide) ?_
  refine js_9_11 jc jw ho wd_4_176 (by decide) dX9_save_21 (fun H locs jw => ?_)
  obtain ⟨mm5, emm5, hE⟩ := j_lv hE
  rw [← emm5] at jw
  try dsimp only at hE
  refine lv_aload_n hx hb dX9_save_24 rfl (lv_at hl 0 rfl) ?_
  refine jg_9_1 jc jw ho wd_4_166 dX9_save_25 ?_
  obtain ⟨xx6, exx6, hE⟩ := j_bd hG0 hE
  try dsimp only at hE
  refine jc_vi [] [] jc jw hA k1 (by decide) rfl (c_X7_allLines hY k1 (M := mm5) exx6) sd_X9_311 rfl hl.1 (j_hR hRf hRl rfl rfl) (Nat.le_of_ble_eq_true rfl) dX9_save_28 (fun H locs jw => ?_)
  exact kr _ _ _ _ _ _ (j_fst (Option.some.inj (j_ret eG0 hE))) (j_snd (Option.some.inj (j_ret eG0 hE))) jw dX9_save_31
def s_X9_restore (Y : JY) (M : JM) (o : Nat) : Option (Int32 × JM) := if (j_z (M o 11)) = 0 then (none) else ((s_X7_become Y M (j_rf Y o 0) (j_rf Y o 1)).bind fun xx4 => lt_ (j_up xx4 o 9 (xx4 o 10)) fun mm5 => lt_ (s_X2_forget Y mm5 (j_rf Y o 2)) fun xx7 => (s_X7_allLines Y xx7 (j_rf Y o 0)).bind fun xx8 => some (xx8, xx7))
set_option maxRecDepth 100000 in
set_option maxHeartbeats 4000000 in
theorem c_X9_restore {D : va_G} {Y : JY} {ty : Nat → ClassId} {ad : Nat → Nat} {sz : Nat} {l : Launch} {M : JM} (hY : j_ok Y) {o : Nat} (ho : j_kd Y o = 9) {r : Int32 × JM} (hE : s_X9_restore Y M o = some r) : JMi D Y ty ad sz l yX9_restore cX9_restore 1 (some .int) 4 88 [.ref (ad o)] M r.1 r.2 := by
  refine j_ofI hY (by decide +kernel) (Nat.le_of_ble_eq_true rfl) (fun p e s m below meth c args R Q A hRf hRl hA jc jw kr ls hl => ?_)
  have hx := jc.1
  have hb := jc.2.1
  have hl : lv_has ls 1 [(0, .ref (ad o))] := hl
  unfold s_X9_restore at hE
  obtain ⟨G0, eG0, hG0, hE⟩ := j_F0o hE
  refine lv_aload_n hx hb dX9_restore_0 rfl (lv_at hl 0 rfl) ?_
  refine jg_9_11 jc jw ho wd_4_176 dX9_restore_1 ?_
  refine lv_if_ne (tgt := 18) hx hb dX9_restore_4 (by decide) (fun c1 => ?_) (fun c1 => ?_)
  · rw [if_neg c1] at hE
    refine lv_aload_n hx hb dX9_restore_18 rfl (lv_at hl 0 rfl) ?_
    refine jg_9_0 jc jw ho wd_4_165 dX9_restore_19 ?_
    have k2 := j_sub hY ho 0 (f := 7) rfl (by decide) (by decide) (by decide)
    refine lv_aload_n hx hb dX9_restore_22 rfl (lv_at hl 0 rfl) ?_
    refine jg_9_1 jc jw ho wd_4_166 dX9_restore_23 ?_
    have k3 := j_sub hY ho 1 (f := 7) rfl (by decide) (by decide) (by decide)
    obtain ⟨xx4, exx4, hE⟩ := j_bd hG0 hE
    try dsimp only at hE
    refine jc_vv [.ref (ad (j_rf Y o 1))] [] jc jw hA k2 (by decide) rfl (c_X7_become hY k2 k3 (M := M) exx4) sd_X9_307 rfl hl.1 (j_hR hRf hRl rfl rfl) (Nat.le_of_ble_eq_true rfl) dX9_restore_26 (fun H locs jw => ?_)
    refine lv_aload_n hx hb dX9_restore_29 rfl (lv_at hl 0 rfl) ?_
    refine lv_aload_n hx hb dX9_restore_30 rfl (lv_at hl 0 rfl) ?_
    refine jg_9_10 jc jw ho wd_4_175 dX9_restore_31 ?_
    refine js_9_9 jc jw ho wd_4_174 dX9_restore_34 (fun H locs jw => ?_)
    obtain ⟨mm5, emm5, hE⟩ := j_lv hE
    rw [← emm5] at jw
    try dsimp only at hE
    refine lv_aload_n hx hb dX9_restore_37 rfl (lv_at hl 0 rfl) ?_
    refine jg_9_2 jc jw ho wd_4_167 dX9_restore_38 ?_
    have k6 := j_sub hY ho 2 (f := 2) rfl (by decide) (by decide) (by decide)
    obtain ⟨xx7, exx7, hE⟩ := j_lv hE
    try dsimp only at hE
    refine jc_vv [] [] jc jw hA k6 (by decide) rfl (c_X2_forget hY k6 (M := mm5) exx7.symm) sd_X9_316 rfl hl.1 (j_hR hRf hRl rfl rfl) (Nat.le_of_ble_eq_true rfl) dX9_restore_41 (fun H locs jw => ?_)
    refine lv_aload_n hx hb dX9_restore_44 rfl (lv_at hl 0 rfl) ?_
    refine jg_9_0 jc jw ho wd_4_165 dX9_restore_45 ?_
    obtain ⟨xx8, exx8, hE⟩ := j_bd hG0 hE
    try dsimp only at hE
    refine jc_vi [] [] jc jw hA k2 (by decide) rfl (c_X7_allLines hY k2 (M := xx7) exx8) sd_X9_311 rfl hl.1 (j_hR hRf hRl rfl rfl) (Nat.le_of_ble_eq_true rfl) dX9_restore_48 (fun H locs jw => ?_)
    exact kr _ _ _ _ _ _ (j_fst (Option.some.inj (j_ret eG0 hE))) (j_snd (Option.some.inj (j_ret eG0 hE))) jw dX9_restore_51
  · rw [if_pos c1] at hE
    exact absurd hE (hG0 _)

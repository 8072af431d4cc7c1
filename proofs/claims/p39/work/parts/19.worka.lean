def s_X9_document (Y : JY) (M : JM) (o : Nat) (p1 : Int32) : Option (Nat) := if p1 < 0 ∨ ¬ (p1 < (4 : Int32)) then (none) else (some (s_X7_place Y M (j_rf Y o 0) p1))
set_option maxRecDepth 100000 in
set_option maxHeartbeats 4000000 in
theorem c_X9_document {D : va_G} {Y : JY} {ty : Nat → ClassId} {ad : Nat → Nat} {sz : Nat} {l : Launch} {M : JM} (hY : j_ok Y) {o : Nat} {p1 : Int32} (ho : j_kd Y o = 9) {r : Nat} (hE : s_X9_document Y M o p1 = some r) : JMr D Y ty ad sz l yX9_document cX9_document 2 (some (.object "MergeWorkbench$Lines")) 1 22 [.ref (ad o), .int p1] M r M 4 := by
  refine j_ofR hY (by decide +kernel) (Nat.le_of_ble_eq_true rfl) (fun p e s m below meth c args R Q A hRf hRl hA jc jw kr ls hl => ?_)
  have hx := jc.1
  have hb := jc.2.1
  have hl : lv_has ls 2 [(0, .ref (ad o)), (1, .int p1)] := hl
  unfold s_X9_document at hE
  obtain ⟨G0, eG0, hG0, hE⟩ := j_F0o hE
  refine lv_iload_n hx hb dX9_document_0 rfl (lv_at hl 1 rfl) ?_
  have B5 : ∀ (H : Heap) (locs : List Loc), JW D Y ty ad A s.heap M H locs → (p1 < 0 ∨ ¬ (p1 < (4 : Int32))) → W p l e R s m args below meth c H locs 0 0 Q (F0 m 9 ls []) := by
    intro H locs jw hcc
    rw [if_pos hcc] at hE
    exact absurd hE (hG0 _)
  refine lv_if_lt (tgt := 9) hx hb dX9_document_1 (by decide) (fun c1 => B5 _ _ jw (Or.inl c1)) (fun c1 => ?_)
  refine lv_iload_n hx hb dX9_document_4 rfl (lv_at hl 1 rfl) ?_
  refine lv_iconst (v := 4) hx hb dX9_document_5 (by decide) ?_
  refine lv_icmp_lt (tgt := 20) hx hb dX9_document_6 (by decide) (fun c2 => ?_) (fun c2 => B5 _ _ jw (Or.inr c2))
  rw [if_neg (fun hq => hq.elim (fun hq => (j_abs c1 hq)) (fun hq => (j_absn c2 hq)))] at hE
  refine lv_aload_n hx hb dX9_document_20 rfl (lv_at hl 0 rfl) ?_
  refine jg_9_0 jc jw ho wd_4_165 dX9_document_21 ?_
  have k3 := j_sub hY ho 0 (f := 7) rfl (by decide) (by decide) (by decide)
  refine lv_iload_n hx hb dX9_document_24 rfl (lv_at hl 1 rfl) ?_
  refine jc_vr [.int p1] [] jc jw hA k3 (by decide) rfl (c_X7_place hY k3 (M := M) rfl) sd_X9_321 rfl hl.1 (j_hR hRf hRl rfl rfl) (Nat.le_of_ble_eq_true rfl) dX9_document_25 (fun H locs jw hk => ?_)
  have k4 := hk
  exact kr _ _ _ _ _ _ (Option.some.inj (j_ret eG0 hE)) rfl k4 jw dX9_document_28
def s_X9_requireLine (Y : JY) (M : JM) (p1 : Int32) : Option (Unit) := if p1 < 0 ∨ ¬ (p1 ≤ (25 : Int32)) then (none) else (some ())
set_option maxRecDepth 100000 in
set_option maxHeartbeats 4000000 in
theorem c_X9_requireLine {D : va_G} {Y : JY} {ty : Nat → ClassId} {ad : Nat → Nat} {sz : Nat} {l : Launch} {M : JM} (hY : j_ok Y) {p1 : Int32}  {r : Unit} (hE : s_X9_requireLine Y M p1 = some r) : JMv D Y ty ad sz l yX9_requireLine cX9_requireLine 1 0 0 [.int p1] M M := by
  refine j_ofV hY (by decide +kernel) (Nat.le_of_ble_eq_true rfl) (fun p e s m below meth c args R Q A hRf hRl hA jc jw kr ls hl => ?_)
  have hx := jc.1
  have hb := jc.2.1
  have hl : lv_has ls 1 [(0, .int p1)] := hl
  unfold s_X9_requireLine at hE
  obtain ⟨G0, eG0, hG0, hE⟩ := j_F0o hE
  refine lv_iload_n hx hb dX9_requireLine_0 rfl (lv_at hl 0 rfl) ?_
  have B3 : ∀ (H : Heap) (locs : List Loc), JW D Y ty ad A s.heap M H locs → (p1 < 0 ∨ ¬ (p1 ≤ (25 : Int32))) → W p l e R s m args below meth c H locs 0 0 Q (F0 m 10 ls []) := by
    intro H locs jw hcc
    rw [if_pos hcc] at hE
    exact absurd hE (hG0 _)
  refine lv_if_lt (tgt := 10) hx hb dX9_requireLine_1 (by decide) (fun c1 => B3 _ _ jw (Or.inl c1)) (fun c1 => ?_)
  refine lv_iload_n hx hb dX9_requireLine_4 rfl (lv_at hl 0 rfl) ?_
  refine lv_bipush (v := 25) hx hb dX9_requireLine_5 (by decide) ?_
  refine lv_icmp_le (tgt := 21) hx hb dX9_requireLine_7 (by decide) (fun c2 => ?_) (fun c2 => B3 _ _ jw (Or.inr c2))
  rw [if_neg (fun hq => hq.elim (fun hq => (j_abs c1 hq)) (fun hq => (j_absn c2 hq)))] at hE
  exact kr _ _ _ _ _ rfl jw dX9_requireLine_21
def s_X9_requireRoom (Y : JY) (M : JM) (q1 : Nat) : Option (Unit) := if (s_X4_size Y M q1) < (24 : Int32) then (some ()) else (none)
set_option maxRecDepth 100000 in
set_option maxHeartbeats 4000000 in
theorem c_X9_requireRoom {D : va_G} {Y : JY} {ty : Nat → ClassId} {ad : Nat → Nat} {sz : Nat} {l : Launch} {M : JM} (hY : j_ok Y) {q1 : Nat} (hq1 : j_kd Y q1 = 4) {r : Unit} (hE : s_X9_requireRoom Y M q1 = some r) : JMv D Y ty ad sz l yX9_requireRoom cX9_requireRoom 1 1 20 [.ref (ad q1)] M M := by
  refine j_ofV hY (by decide +kernel) (Nat.le_of_ble_eq_true rfl) (fun p e s m below meth c args R Q A hRf hRl hA jc jw kr ls hl => ?_)
  have hx := jc.1
  have hb := jc.2.1
  have hl : lv_has ls 1 [(0, .ref (ad q1))] := hl
  unfold s_X9_requireRoom at hE
  obtain ⟨G0, eG0, hG0, hE⟩ := j_F0o hE
  refine lv_aload_n hx hb dX9_requireRoom_0 rfl (lv_at hl 0 rfl) ?_
  refine jc_vi [] [] jc jw hA hq1 (by decide) rfl (c_X4_size hY hq1 (M := M) rfl) sd_X9_102 rfl hl.1 (j_hR hRf hRl rfl rfl) (Nat.le_of_ble_eq_true rfl) dX9_requireRoom_1 (fun H locs jw => ?_)
  refine lv_bipush (v := 24) hx hb dX9_requireRoom_4 (by decide) ?_
  refine lv_icmp_lt (tgt := 20) hx hb dX9_requireRoom_6 (by decide) (fun c1 => ?_) (fun c1 => ?_)
  · rw [if_pos c1] at hE
    exact kr _ _ _ _ _ rfl jw dX9_requireRoom_20
  · rw [if_neg c1] at hE
    exact absurd hE (hG0 _)
def s_X9_append (Y : JY) (M : JM) (o : Nat) (p1 : Int32) (p2 : Int32) : Option (Int32 × JM) := (s_X9_document Y M o p1).bind fun xx1 => (s_X9_requireLine Y M p2).bind fun xx3 => (s_X9_requireRoom Y M xx1).bind fun xx4 => (s_X2_remember Y M (j_rf Y o 2) p1 xx1).bind fun xx6 => lt_ (s_X4_push Y xx6 xx1 p2) fun xx7 => some ((s_X4_size Y xx7 xx1), xx7)
set_option maxRecDepth 100000 in
set_option maxHeartbeats 4000000 in
theorem c_X9_append {D : va_G} {Y : JY} {ty : Nat → ClassId} {ad : Nat → Nat} {sz : Nat} {l : Launch} {M : JM} (hY : j_ok Y) {o : Nat} {p1 : Int32} {p2 : Int32} (ho : j_kd Y o = 9) {r : Int32 × JM} (hE : s_X9_append Y M o p1 p2 = some r) : JMi D Y ty ad sz l yX9_append cX9_append 4 (some .int) 4 88 [.ref (ad o), .int p1, .int p2] M r.1 r.2 := by
  refine j_ofI hY (by decide +kernel) (Nat.le_of_ble_eq_true rfl) (fun p e s m below meth c args R Q A hRf hRl hA jc jw kr ls hl => ?_)
  have hx := jc.1
  have hb := jc.2.1
  have hl : lv_has ls 4 [(0, .ref (ad o)), (1, .int p1), (2, .int p2)] := hl
  unfold s_X9_append at hE
  obtain ⟨G0, eG0, hG0, hE⟩ := j_F0o hE
  refine lv_aload_n hx hb dX9_append_0 rfl (lv_at hl 0 rfl) ?_
  refine lv_iload_n hx hb dX9_append_1 rfl (lv_at hl 1 rfl) ?_
  obtain ⟨xx1, exx1, hE⟩ := j_bd hG0 hE
  try dsimp only at hE
  refine jc_vr [.int p1] [] jc jw hA ho (by decide) rfl (c_X9_document hY ho (M := M) exx1) sd_X9_84 rfl hl.1 (j_hR hRf hRl rfl rfl) (Nat.le_of_ble_eq_true rfl) dX9_append_2 (fun H locs jw hk => ?_)
  have k2 := hk
  refine lv_astore_n (lv' := [(3, .ref (ad xx1)), (0, .ref (ad o)), (1, .int p1), (2, .int p2)]) hx hb dX9_append_5 rfl hl (by decide) rfl (fun ls hl => ?_)
  refine lv_iload_n hx hb dX9_append_6 rfl (lv_at hl 3 rfl) ?_
  obtain ⟨xx3, exx3, hE⟩ := j_bd hG0 hE
  try dsimp only at hE
  refine jc_sv [.int p2] [] jc jw hA (c_X9_requireLine hY  (M := M) exx3) sd_X9_88 rfl hl.1 (j_hR hRf hRl rfl rfl) (Nat.le_of_ble_eq_true rfl) dX9_append_7 (fun H locs jw => ?_)
  refine lv_aload_n hx hb dX9_append_10 rfl (lv_at hl 0 rfl) ?_
  obtain ⟨xx4, exx4, hE⟩ := j_bd hG0 hE
  try dsimp only at hE
  refine jc_sv [.ref (ad xx1)] [] jc jw hA (c_X9_requireRoom hY k2 (M := M) exx4) sd_X9_91 rfl hl.1 (j_hR hRf hRl rfl rfl) (Nat.le_of_ble_eq_true rfl) dX9_append_11 (fun H locs jw => ?_)
  refine lv_aload_n hx hb dX9_append_14 rfl (lv_at hl 1 rfl) ?_
  refine jg_9_2 jc jw ho wd_4_167 dX9_append_15 ?_
  have k5 := j_sub hY ho 2 (f := 2) rfl (by decide) (by decide) (by decide)
  refine lv_iload_n hx hb dX9_append_18 rfl (lv_at hl 2 rfl) ?_
  refine lv_aload_n hx hb dX9_append_19 rfl (lv_at hl 0 rfl) ?_
  obtain ⟨xx6, exx6, hE⟩ := j_bd hG0 hE
  try dsimp only at hE
  refine jc_vv [.int p1, .ref (ad xx1)] [] jc jw hA k5 (by decide) rfl (c_X2_remember hY k5 k2 (M := M) exx6) sd_X9_95 rfl hl.1 (j_hR hRf hRl rfl rfl) (Nat.le_of_ble_eq_true rfl) dX9_append_20 (fun H locs jw => ?_)
  refine lv_aload_n hx hb dX9_append_23 rfl (lv_at hl 0 rfl) ?_
  refine lv_iload_n hx hb dX9_append_24 rfl (lv_at hl 3 rfl) ?_
  obtain ⟨xx7, exx7, hE⟩ := j_lv hE
  try dsimp only at hE
  refine jc_vv [.int p2] [] jc jw hA k2 (by decide) rfl (c_X4_push hY k2 (M := xx6) exx7.symm) sd_X9_99 rfl hl.1 (j_hR hRf hRl rfl rfl) (Nat.le_of_ble_eq_true rfl) dX9_append_25 (fun H locs jw => ?_)
  refine lv_aload_n hx hb dX9_append_28 rfl (lv_at hl 0 rfl) ?_
  refine jc_vi [] [] jc jw hA k2 (by decide) rfl (c_X4_size hY k2 (M := xx7) rfl) sd_X9_102 rfl hl.1 (j_hR hRf hRl rfl rfl) (Nat.le_of_ble_eq_true rfl) dX9_append_29 (fun H locs jw => ?_)
  exact kr _ _ _ _ _ _ (j_fst (Option.some.inj (j_ret eG0 hE))) (j_snd (Option.some.inj (j_ret eG0 hE))) jw dX9_append_32
def s_X9_insert (Y : JY) (M : JM) (o : Nat) (p1 : Int32) (p2 : Int32) (p3 : Int32) : Option (Int32 × JM) := (s_X9_document Y M o p1).bind fun xx1 => (s_X9_requireLine Y M p3).bind fun xx3 => (s_X9_requireRoom Y M xx1).bind fun xx4 => if p2 < 0 ∨ ¬ (p2 ≤ (s_X4_size Y M xx1)) then (none) else ((s_X2_remember Y M (j_rf Y o 2) p1 xx1).bind fun xx8 => (s_X4_pushAt Y xx8 xx1 p2 p3).bind fun xx9 => some ((s_X4_size Y xx9 xx1), xx9))
set_option maxRecDepth 100000 in
set_option maxHeartbeats 4000000 in
theorem c_X9_insert {D : va_G} {Y : JY} {ty : Nat → ClassId} {ad : Nat → Nat} {sz : Nat} {l : Launch} {M : JM} (hY : j_ok Y) {o : Nat} {p1 : Int32} {p2 : Int32} {p3 : Int32} (ho : j_kd Y o = 9) {r : Int32 × JM} (hE : s_X9_insert Y M o p1 p2 p3 = some r) : JMi D Y ty ad sz l yX9_insert cX9_insert 5 (some .int) 4 88 [.ref (ad o), .int p1, .int p2, .int p3] M r.1 r.2 := by
  refine j_ofI hY (by decide +kernel) (Nat.le_of_ble_eq_true rfl) (fun p e s m below meth c args R Q A hRf hRl hA jc jw kr ls hl => ?_)
  have hx := jc.1
  have hb := jc.2.1
  have hl : lv_has ls 5 [(0, .ref (ad o)), (1, .int p1), (2, .int p2), (3, .int p3)] := hl
  unfold s_X9_insert at hE
  obtain ⟨G0, eG0, hG0, hE⟩ := j_F0o hE
  refine lv_aload_n hx hb dX9_insert_0 rfl (lv_at hl 0 rfl) ?_
  refine lv_iload_n hx hb dX9_insert_1 rfl (lv_at hl 1 rfl) ?_
  obtain ⟨xx1, exx1, hE⟩ := j_bd hG0 hE
  try dsimp only at hE
  refine jc_vr [.int p1] [] jc jw hA ho (by decide) rfl (c_X9_document hY ho (M := M) exx1) sd_X9_84 rfl hl.1 (j_hR hRf hRl rfl rfl) (Nat.le_of_ble_eq_true rfl) dX9_insert_2 (fun H locs jw hk => ?_)
  have k2 := hk
  refine lv_astore (lv' := [(4, .ref (ad xx1)), (0, .ref (ad o)), (1, .int p1), (2, .int p2), (3, .int p3)]) hx hb dX9_insert_5 hl (by decide) rfl (fun ls hl => ?_)
  refine lv_iload_n hx hb dX9_insert_7 rfl (lv_at hl 4 rfl) ?_
  obtain ⟨xx3, exx3, hE⟩ := j_bd hG0 hE
  try dsimp only at hE
  refine jc_sv [.int p3] [] jc jw hA (c_X9_requireLine hY  (M := M) exx3) sd_X9_88 rfl hl.1 (j_hR hRf hRl rfl rfl) (Nat.le_of_ble_eq_true rfl) dX9_insert_8 (fun H locs jw => ?_)
  refine lv_aload hx hb dX9_insert_11 (lv_at hl 0 rfl) ?_
  obtain ⟨xx4, exx4, hE⟩ := j_bd hG0 hE
  try dsimp only at hE
  refine jc_sv [.ref (ad xx1)] [] jc jw hA (c_X9_requireRoom hY k2 (M := M) exx4) sd_X9_91 rfl hl.1 (j_hR hRf hRl rfl rfl) (Nat.le_of_ble_eq_true rfl) dX9_insert_13 (fun H locs jw => ?_)
  refine lv_iload_n hx hb dX9_insert_16 rfl (lv_at hl 3 rfl) ?_
  have B10 : ∀ (H : Heap) (locs : List Loc), JW D Y ty ad A s.heap M H locs → (p2 < 0 ∨ ¬ (p2 ≤ (s_X4_size Y M xx1))) → W p l e R s m args below meth c H locs 0 0 Q (F0 m 29 ls []) := by
    intro H locs jw hcc
    rw [if_pos hcc] at hE
    exact absurd hE (hG0 _)
  refine lv_if_lt (tgt := 29) hx hb dX9_insert_17 (by decide) (fun c5 => B10 _ _ jw (Or.inl c5)) (fun c5 => ?_)
  refine lv_iload_n hx hb dX9_insert_20 rfl (lv_at hl 3 rfl) ?_
  refine lv_aload hx hb dX9_insert_21 (lv_at hl 0 rfl) ?_
  refine jc_vi [] [.int p2] jc jw hA k2 (by decide) rfl (c_X4_size hY k2 (M := M) rfl) sd_X9_102 rfl hl.1 (j_hR hRf hRl rfl rfl) (Nat.le_of_ble_eq_true rfl) dX9_insert_23 (fun H locs jw => ?_)
  refine lv_icmp_le (tgt := 39) hx hb dX9_insert_26 (by decide) (fun c6 => ?_) (fun c6 => B10 _ _ jw (Or.inr c6))
  rw [if_neg (fun hq => hq.elim (fun hq => (j_abs c5 hq)) (fun hq => (j_absn c6 hq)))] at hE
  refine lv_aload_n hx hb dX9_insert_39 rfl (lv_at hl 1 rfl) ?_
  refine jg_9_2 jc jw ho wd_4_167 dX9_insert_40 ?_
  have k7 := j_sub hY ho 2 (f := 2) rfl (by decide) (by decide) (by decide)
  refine lv_iload_n hx hb dX9_insert_43 rfl (lv_at hl 2 rfl) ?_
  refine lv_aload hx hb dX9_insert_44 (lv_at hl 0 rfl) ?_
  obtain ⟨xx8, exx8, hE⟩ := j_bd hG0 hE
  try dsimp only at hE
  refine jc_vv [.int p1, .ref (ad xx1)] [] jc jw hA k7 (by decide) rfl (c_X2_remember hY k7 k2 (M := M) exx8) sd_X9_95 rfl hl.1 (j_hR hRf hRl rfl rfl) (Nat.le_of_ble_eq_true rfl) dX9_insert_46 (fun H locs jw => ?_)
  refine lv_aload hx hb dX9_insert_49 (lv_at hl 0 rfl) ?_
  refine lv_iload_n hx hb dX9_insert_51 rfl (lv_at hl 3 rfl) ?_
  refine lv_iload_n hx hb dX9_insert_52 rfl (lv_at hl 4 rfl) ?_
  obtain ⟨xx9, exx9, hE⟩ := j_bd hG0 hE
  try dsimp only at hE
  refine jc_vv [.int p2, .int p3] [] jc jw hA k2 (by decide) rfl (c_X4_pushAt hY k2 (M := xx8) exx9) sd_X9_113 rfl hl.1 (j_hR hRf hRl rfl rfl) (Nat.le_of_ble_eq_true rfl) dX9_insert_53 (fun H locs jw => ?_)
  refine lv_aload hx hb dX9_insert_56 (lv_at hl 0 rfl) ?_
  refine jc_vi [] [] jc jw hA k2 (by decide) rfl (c_X4_size hY k2 (M := xx9) rfl) sd_X9_102 rfl hl.1 (j_hR hRf hRl rfl rfl) (Nat.le_of_ble_eq_true rfl) dX9_insert_58 (fun H locs jw => ?_)
  exact kr _ _ _ _ _ _ (j_fst (Option.some.inj (j_ret eG0 hE))) (j_snd (Option.some.inj (j_ret eG0 hE))) jw dX9_insert_61
def s_X9_delete (Y : JY) (M : JM) (o : Nat) (p1 : Int32) (p2 : Int32) : Option (Int32 × JM) := (s_X9_document Y M o p1).bind fun xx1 => if (s_X4_has Y M xx1 p2) = 0 then (none) else ((s_X2_remember Y M (j_rf Y o 2) p1 xx1).bind fun xx6 => (s_X4_removeAt Y xx6 xx1 p2).bind fun xx7 => some (xx7.1, xx7.2))
set_option maxRecDepth 100000 in
set_option maxHeartbeats 4000000 in
theorem c_X9_delete {D : va_G} {Y : JY} {ty : Nat → ClassId} {ad : Nat → Nat} {sz : Nat} {l : Launch} {M : JM} (hY : j_ok Y) {o : Nat} {p1 : Int32} {p2 : Int32} (ho : j_kd Y o = 9) {r : Int32 × JM} (hE : s_X9_delete Y M o p1 p2 = some r) : JMi D Y ty ad sz l yX9_delete cX9_delete 4 (some .int) 4 88 [.ref (ad o), .int p1, .int p2] M r.1 r.2 := by
  refine j_ofI hY (by decide +kernel) (Nat.le_of_ble_eq_true rfl) (fun p e s m below meth c args R Q A hRf hRl hA jc jw kr ls hl => ?_)
  have hx := jc.1
  have hb := jc.2.1
  have hl : lv_has ls 4 [(0, .ref (ad o)), (1, .int p1), (2, .int p2)] := hl
  unfold s_X9_delete at hE
  obtain ⟨G0, eG0, hG0, hE⟩ := j_F0o hE
  refine lv_aload_n hx hb dX9_delete_0 rfl (lv_at hl 0 rfl) ?_
  refine lv_iload_n hx hb dX9_delete_1 rfl (lv_at hl 1 rfl) ?_
  obtain ⟨xx1, exx1, hE⟩ := j_bd hG0 hE
  try dsimp only at hE
  refine jc_vr [.int p1] [] jc jw hA ho (by decide) rfl (c_X9_document hY ho (M := M) exx1) sd_X9_84 rfl hl.1 (j_hR hRf hRl rfl rfl) (Nat.le_of_ble_eq_true rfl) dX9_delete_2 (fun H locs jw hk => ?_)
  have k2 := hk
  refine lv_astore_n (lv' := [(3, .ref (ad xx1)), (0, .ref (ad o)), (1, .int p1), (2, .int p2)]) hx hb dX9_delete_5 rfl hl (by decide) rfl (fun ls hl => ?_)
  refine lv_aload_n hx hb dX9_delete_6 rfl (lv_at hl 0 rfl) ?_
  refine lv_iload_n hx hb dX9_delete_7 rfl (lv_at hl 3 rfl) ?_
  refine jc_vz [.int p2] [] jc jw hA k2 (by decide) rfl (c_X4_has hY k2 (M := M) rfl) sd_X9_117 rfl hl.1 (j_hR hRf hRl rfl rfl) (Nat.le_of_ble_eq_true rfl) dX9_delete_8 (fun H locs jw hz => ?_)
  have z_3 := hz
  refine lv_if_ne (tgt := 24) hx hb dX9_delete_11 (by decide) (fun c4 => ?_) (fun c4 => ?_)
  · rw [if_neg c4] at hE
    refine lv_aload_n hx hb dX9_delete_24 rfl (lv_at hl 1 rfl) ?_
    refine jg_9_2 jc jw ho wd_4_167 dX9_delete_25 ?_
    have k5 := j_sub hY ho 2 (f := 2) rfl (by decide) (by decide) (by decide)
    refine lv_iload_n hx hb dX9_delete_28 rfl (lv_at hl 2 rfl) ?_
    refine lv_aload_n hx hb dX9_delete_29 rfl (lv_at hl 0 rfl) ?_
    obtain ⟨xx6, exx6, hE⟩ := j_bd hG0 hE
    try dsimp only at hE
    refine jc_vv [.int p1, .ref (ad xx1)] [] jc jw hA k5 (by decide) rfl (c_X2_remember hY k5 k2 (M := M) exx6) sd_X9_95 rfl hl.1 (j_hR hRf hRl rfl rfl) (Nat.le_of_ble_eq_true rfl) dX9_delete_30 (fun H locs jw => ?_)
    refine lv_aload_n hx hb dX9_delete_33 rfl (lv_at hl 0 rfl) ?_
    refine lv_iload_n hx hb dX9_delete_34 rfl (lv_at hl 3 rfl) ?_
    obtain ⟨xx7, exx7, hE⟩ := j_bd hG0 hE
    try dsimp only at hE
    refine jc_vi [.int p2] [] jc jw hA k2 (by decide) rfl (c_X4_removeAt hY k2 (M := xx6) exx7) sd_X9_121 rfl hl.1 (j_hR hRf hRl rfl rfl) (Nat.le_of_ble_eq_true rfl) dX9_delete_35 (fun H locs jw => ?_)
    exact kr _ _ _ _ _ _ (j_fst (Option.some.inj (j_ret eG0 hE))) (j_snd (Option.some.inj (j_ret eG0 hE))) jw dX9_delete_38
  · rw [if_pos c4] at hE
    exact absurd hE (hG0 _)
def s_X9_length (Y : JY) (M : JM) (o : Nat) (p1 : Int32) : Option (Int32) := (s_X9_document Y M o p1).bind fun xx1 => some (s_X4_size Y M xx1)
set_option maxRecDepth 100000 in
set_option maxHeartbeats 4000000 in
theorem c_X9_length {D : va_G} {Y : JY} {ty : Nat → ClassId} {ad : Nat → Nat} {sz : Nat} {l : Launch} {M : JM} (hY : j_ok Y) {o : Nat} {p1 : Int32} (ho : j_kd Y o = 9) {r : Int32} (hE : s_X9_length Y M o p1 = some r) : JMi D Y ty ad sz l yX9_length cX9_length 2 (some .int) 2 43 [.ref (ad o), .int p1] M r M := by
  refine j_ofI hY (by decide +kernel) (Nat.le_of_ble_eq_true rfl) (fun p e s m below meth c args R Q A hRf hRl hA jc jw kr ls hl => ?_)
  have hx := jc.1
  have hb := jc.2.1
  have hl : lv_has ls 2 [(0, .ref (ad o)), (1, .int p1)] := hl
  unfold s_X9_length at hE
  obtain ⟨G0, eG0, hG0, hE⟩ := j_F0o hE
  refine lv_aload_n hx hb dX9_length_0 rfl (lv_at hl 0 rfl) ?_
  refine lv_iload_n hx hb dX9_length_1 rfl (lv_at hl 1 rfl) ?_
  obtain ⟨xx1, exx1, hE⟩ := j_bd hG0 hE
  try dsimp only at hE
  refine jc_vr [.int p1] [] jc jw hA ho (by decide) rfl (c_X9_document hY ho (M := M) exx1) sd_X9_84 rfl hl.1 (j_hR hRf hRl rfl rfl) (Nat.le_of_ble_eq_true rfl) dX9_length_2 (fun H locs jw hk => ?_)
  have k2 := hk
  refine jc_vi [] [] jc jw hA k2 (by decide) rfl (c_X4_size hY k2 (M := M) rfl) sd_X9_102 rfl hl.1 (j_hR hRf hRl rfl rfl) (Nat.le_of_ble_eq_true rfl) dX9_length_5 (fun H locs jw => ?_)
  exact kr _ _ _ _ _ _ (Option.some.inj (j_ret eG0 hE)) rfl jw dX9_length_8
def s_X9_line (Y : JY) (M : JM) (o : Nat) (p1 : Int32) (p2 : Int32) : Option (Int32) := (s_X9_document Y M o p1).bind fun xx1 => if (s_X4_has Y M xx1 p2) = 0 then (none) else (some (s_X4_at Y M xx1 p2))
set_option maxRecDepth 100000 in
set_option maxHeartbeats 4000000 in
theorem c_X9_line {D : va_G} {Y : JY} {ty : Nat → ClassId} {ad : Nat → Nat} {sz : Nat} {l : Launch} {M : JM} (hY : j_ok Y) {o : Nat} {p1 : Int32} {p2 : Int32} (ho : j_kd Y o = 9) {r : Int32} (hE : s_X9_line Y M o p1 p2 = some r) : JMi D Y ty ad sz l yX9_line cX9_line 4 (some .int) 2 43 [.ref (ad o), .int p1, .int p2] M r M := by
  refine j_ofI hY (by decide +kernel) (Nat.le_of_ble_eq_true rfl) (fun p e s m below meth c args R Q A hRf hRl hA jc jw kr ls hl => ?_)
  have hx := jc.1
  have hb := jc.2.1
  have hl : lv_has ls 4 [(0, .ref (ad o)), (1, .int p1), (2, .int p2)] := hl
  unfold s_X9_line at hE
  obtain ⟨G0, eG0, hG0, hE⟩ := j_F0o hE
  refine lv_aload_n hx hb dX9_line_0 rfl (lv_at hl 0 rfl) ?_
  refine lv_iload_n hx hb dX9_line_1 rfl (lv_at hl 1 rfl) ?_
  obtain ⟨xx1, exx1, hE⟩ := j_bd hG0 hE
  try dsimp only at hE
  refine jc_vr [.int p1] [] jc jw hA ho (by decide) rfl (c_X9_document hY ho (M := M) exx1) sd_X9_84 rfl hl.1 (j_hR hRf hRl rfl rfl) (Nat.le_of_ble_eq_true rfl) dX9_line_2 (fun H locs jw hk => ?_)
  have k2 := hk
  refine lv_astore_n (lv' := [(3, .ref (ad xx1)), (0, .ref (ad o)), (1, .int p1), (2, .int p2)]) hx hb dX9_line_5 rfl hl (by decide) rfl (fun ls hl => ?_)
  refine lv_aload_n hx hb dX9_line_6 rfl (lv_at hl 0 rfl) ?_
  refine lv_iload_n hx hb dX9_line_7 rfl (lv_at hl 3 rfl) ?_
  refine jc_vz [.int p2] [] jc jw hA k2 (by decide) rfl (c_X4_has hY k2 (M := M) rfl) sd_X9_117 rfl hl.1 (j_hR hRf hRl rfl rfl) (Nat.le_of_ble_eq_true rfl) dX9_line_8 (fun H locs jw hz => ?_)
  have z_3 := hz
  refine lv_if_ne (tgt := 24) hx hb dX9_line_11 (by decide) (fun c4 => ?_) (fun c4 => ?_)
  · rw [if_neg c4] at hE
    refine lv_aload_n hx hb dX9_line_24 rfl (lv_at hl 0 rfl) ?_
    refine lv_iload_n hx hb dX9_line_25 rfl (lv_at hl 3 rfl) ?_
    refine jc_vi [.int p2] [] jc jw hA k2 (by decide) rfl (c_X4_at hY k2 (M := M) rfl) sd_X9_125 rfl hl.1 (j_hR hRf hRl rfl rfl) (Nat.le_of_ble_eq_true rfl) dX9_line_26 (fun H locs jw => ?_)
    exact kr _ _ _ _ _ _ (Option.some.inj (j_ret eG0 hE)) rfl jw dX9_line_29
  · rw [if_pos c4] at hE
    exact absurd hE (hG0 _)
def s_X9_changeTo (Y : JY) (M : JM) (o : Nat) (p1 : Int32) (q2 : Nat) (q3 : Nat) : Option (Int32 × JM) := (s_X2_remember Y M (j_rf Y o 2) p1 q2).bind fun xx2 => (s_X4_become Y xx2 q2 q3).bind fun xx3 => some ((s_X4_size Y xx3 q2), xx3)
set_option maxRecDepth 100000 in
set_option maxHeartbeats 4000000 in
theorem c_X9_changeTo {D : va_G} {Y : JY} {ty : Nat → ClassId} {ad : Nat → Nat} {sz : Nat} {l : Launch} {M : JM} (hY : j_ok Y) {o : Nat} {p1 : Int32} {q2 : Nat} {q3 : Nat} (ho : j_kd Y o = 9) (hq2 : j_kd Y q2 = 4) (hq3 : j_kd Y q3 = 4) {r : Int32 × JM} (hE : s_X9_changeTo Y M o p1 q2 q3 = some r) : JMi D Y ty ad sz l yX9_changeTo cX9_changeTo 4 (some .int) 4 88 [.ref (ad o), .int p1, .ref (ad q2), .ref (ad q3)] M r.1 r.2 := by
  refine j_ofI hY (by decide +kernel) (Nat.le_of_ble_eq_true rfl) (fun p e s m below meth c args R Q A hRf hRl hA jc jw kr ls hl => ?_)
  have hx := jc.1
  have hb := jc.2.1
  have hl : lv_has ls 4 [(0, .ref (ad o)), (1, .int p1), (2, .ref (ad q2)), (3, .ref (ad q3))] := hl
  unfold s_X9_changeTo at hE
  obtain ⟨G0, eG0, hG0, hE⟩ := j_F0o hE
  refine lv_aload_n hx hb dX9_changeTo_0 rfl (lv_at hl 0 rfl) ?_
  refine jg_9_2 jc jw ho wd_4_167 dX9_changeTo_1 ?_
  have k1 := j_sub hY ho 2 (f := 2) rfl (by decide) (by decide) (by decide)
  refine lv_iload_n hx hb dX9_changeTo_4 rfl (lv_at hl 1 rfl) ?_
  refine lv_aload_n hx hb dX9_changeTo_5 rfl (lv_at hl 2 rfl) ?_
  obtain ⟨xx2, exx2, hE⟩ := j_bd hG0 hE
  try dsimp only at hE
  refine jc_vv [.int p1, .ref (ad q2)] [] jc jw hA k1 (by decide) rfl (c_X2_remember hY k1 hq2 (M := M) exx2) sd_X9_95 rfl hl.1 (j_hR hRf hRl rfl rfl) (Nat.le_of_ble_eq_true rfl) dX9_changeTo_6 (fun H locs jw => ?_)
  refine lv_aload_n hx hb dX9_changeTo_9 rfl (lv_at hl 2 rfl) ?_
  refine lv_aload_n hx hb dX9_changeTo_10 rfl (lv_at hl 3 rfl) ?_
  obtain ⟨xx3, exx3, hE⟩ := j_bd hG0 hE
  try dsimp only at hE
  refine jc_vv [.ref (ad q3)] [] jc jw hA hq2 (by decide) rfl (c_X4_become hY hq2 hq3 (M := xx2) exx3) sd_X9_339 rfl hl.1 (j_hR hRf hRl rfl rfl) (Nat.le_of_ble_eq_true rfl) dX9_changeTo_11 (fun H locs jw => ?_)
  refine lv_aload_n hx hb dX9_changeTo_14 rfl (lv_at hl 2 rfl) ?_
  refine jc_vi [] [] jc jw hA hq2 (by decide) rfl (c_X4_size hY hq2 (M := xx3) rfl) sd_X9_102 rfl hl.1 (j_hR hRf hRl rfl rfl) (Nat.le_of_ble_eq_true rfl) dX9_changeTo_15 (fun H locs jw => ?_)
  exact kr _ _ _ _ _ _ (j_fst (Option.some.inj (j_ret eG0 hE))) (j_snd (Option.some.inj (j_ret eG0 hE))) jw dX9_changeTo_18
def s_X9_copy (Y : JY) (M : JM) (o : Nat) (p1 : Int32) (p2 : Int32) : Option (Int32 × JM) := (s_X9_document Y M o p1).bind fun xx1 => (s_X9_document Y M o p2).bind fun xx3 => (s_X9_changeTo Y M o p2 xx3 xx1).bind fun xx5 => some (xx5.1, xx5.2)
set_option maxRecDepth 100000 in
set_option maxHeartbeats 4000000 in
theorem c_X9_copy {D : va_G} {Y : JY} {ty : Nat → ClassId} {ad : Nat → Nat} {sz : Nat} {l : Launch} {M : JM} (hY : j_ok Y) {o : Nat} {p1 : Int32} {p2 : Int32} (ho : j_kd Y o = 9) {r : Int32 × JM} (hE : s_X9_copy Y M o p1 p2 = some r) : JMi D Y ty ad sz l yX9_copy cX9_copy 4 (some .int) 5 111 [.ref (ad o), .int p1, .int p2] M r.1 r.2 := by
  refine j_ofI hY (by decide +kernel) (Nat.le_of_ble_eq_true rfl) (fun p e s m below meth c args R Q A hRf hRl hA jc jw kr ls hl => ?_)
  have hx := jc.1
  have hb := jc.2.1
  have hl : lv_has ls 4 [(0, .ref (ad o)), (1, .int p1), (2, .int p2)] := hl
  unfold s_X9_copy at hE
  obtain ⟨G0, eG0, hG0, hE⟩ := j_F0o hE
  refine lv_aload_n hx hb dX9_copy_0 rfl (lv_at hl 0 rfl) ?_
  refine lv_iload_n hx hb dX9_copy_1 rfl (lv_at hl 1 rfl) ?_
  obtain ⟨xx1, exx1, hE⟩ := j_bd hG0 hE
  try dsimp only at hE
  refine jc_vr [.int p1] [] jc jw hA ho (by decide) rfl (c_X9_document hY ho (M := M) exx1) sd_X9_84 rfl hl.1 (j_hR hRf hRl rfl rfl) (Nat.le_of_ble_eq_true rfl) dX9_copy_2 (fun H locs jw hk => ?_)
  have k2 := hk
  refine lv_astore_n (lv' := [(3, .ref (ad xx1)), (0, .ref (ad o)), (1, .int p1), (2, .int p2)]) hx hb dX9_copy_5 rfl hl (by decide) rfl (fun ls hl => ?_)
  refine lv_aload_n hx hb dX9_copy_6 rfl (lv_at hl 1 rfl) ?_
  refine lv_iload_n hx hb dX9_copy_7 rfl (lv_at hl 3 rfl) ?_
  refine lv_aload_n hx hb dX9_copy_8 rfl (lv_at hl 1 rfl) ?_
  refine lv_iload_n hx hb dX9_copy_9 rfl (lv_at hl 3 rfl) ?_
  obtain ⟨xx3, exx3, hE⟩ := j_bd hG0 hE
  try dsimp only at hE
  refine jc_vr [.int p2] [.int p2, .ref (ad o)] jc jw hA ho (by decide) rfl (c_X9_document hY ho (M := M) exx3) sd_X9_84 rfl hl.1 (j_hR hRf hRl rfl rfl) (Nat.le_of_ble_eq_true rfl) dX9_copy_10 (fun H locs jw hk => ?_)
  have k4 := hk
  refine lv_aload_n hx hb dX9_copy_13 rfl (lv_at hl 0 rfl) ?_
  obtain ⟨xx5, exx5, hE⟩ := j_bd hG0 hE
  try dsimp only at hE
  refine jc_vi [.int p2, .ref (ad xx3), .ref (ad xx1)] [] jc jw hA ho (by decide) rfl (c_X9_changeTo hY ho k4 k2 (M := M) exx5) sd_X9_128 rfl hl.1 (j_hR hRf hRl rfl rfl) (Nat.le_of_ble_eq_true rfl) dX9_copy_14 (fun H locs jw => ?_)
  exact kr _ _ _ _ _ _ (j_fst (Option.some.inj (j_ret eG0 hE))) (j_snd (Option.some.inj (j_ret eG0 hE))) jw dX9_copy_17
def s_X9_feed (Y : JY) (M : JM) (o : Nat) (p1 : Int32) : Option (Int32 × JM) := if (s_X3_isFull Y M (j_rf Y o 3)) = 0 then (lt_ (s_X3_take Y M (j_rf Y o 3) p1) fun xx4 => some (xx4.1, xx4.2)) else (none)
set_option maxRecDepth 100000 in
set_option maxHeartbeats 4000000 in
theorem c_X9_feed {D : va_G} {Y : JY} {ty : Nat → ClassId} {ad : Nat → Nat} {sz : Nat} {l : Launch} {M : JM} (hY : j_ok Y) {o : Nat} {p1 : Int32} (ho : j_kd Y o = 9) {r : Int32 × JM} (hE : s_X9_feed Y M o p1 = some r) : JMi D Y ty ad sz l yX9_feed cX9_feed 2 (some .int) 2 42 [.ref (ad o), .int p1] M r.1 r.2 := by
  refine j_ofI hY (by decide +kernel) (Nat.le_of_ble_eq_true rfl) (fun p e s m below meth c args R Q A hRf hRl hA jc jw kr ls hl => ?_)
  have hx := jc.1
  have hb := jc.2.1
  have hl : lv_has ls 2 [(0, .ref (ad o)), (1, .int p1)] := hl
  unfold s_X9_feed at hE
  obtain ⟨G0, eG0, hG0, hE⟩ := j_F0o hE
  refine lv_aload_n hx hb dX9_feed_0 rfl (lv_at hl 0 rfl) ?_
  refine jg_9_3 jc jw ho wd_4_168 dX9_feed_1 ?_
  have k1 := j_sub hY ho 3 (f := 3) rfl (by decide) (by decide) (by decide)
  refine jc_vz [] [] jc jw hA k1 (by decide) rfl (c_X3_isFull hY k1 (M := M) rfl) sd_X9_143 rfl hl.1 (j_hR hRf hRl rfl rfl) (Nat.le_of_ble_eq_true rfl) dX9_feed_4 (fun H locs jw hz => ?_)
  have z_2 := hz
  refine lv_if_eq (tgt := 20) hx hb dX9_feed_7 (by decide) (fun c3 => ?_) (fun c3 => ?_)
  · rw [if_pos c3] at hE
    refine lv_aload_n hx hb dX9_feed_20 rfl (lv_at hl 0 rfl) ?_
    refine jg_9_3 jc jw ho wd_4_168 dX9_feed_21 ?_
    refine lv_iload_n hx hb dX9_feed_24 rfl (lv_at hl 1 rfl) ?_
    obtain ⟨xx4, exx4, hE⟩ := j_lv hE
    try dsimp only at hE
    refine jc_vi [.int p1] [] jc jw hA k1 (by decide) rfl (c_X3_take hY k1 (M := M) exx4.symm) sd_X9_152 rfl hl.1 (j_hR hRf hRl rfl rfl) (Nat.le_of_ble_eq_true rfl) dX9_feed_25 (fun H locs jw => ?_)
    exact kr _ _ _ _ _ _ (j_fst (Option.some.inj (j_ret eG0 hE))) (j_snd (Option.some.inj (j_ret eG0 hE))) jw dX9_feed_28
  · rw [if_neg c3] at hE
    exact absurd hE (hG0 _)
def s_X9_readDocument (Y : JY) (M : JM) (o : Nat) (p1 : Int32) : Option (Int32 × JM) := (s_X3_errorPosition Y M (j_rf Y o 3)).bind fun xx2 => (if xx2 = (-1 : Int32) then ((s_X3_expandInto Y M (j_rf Y o 3) (j_rf Y o 4)).bind fun xx6 => if xx6.1 = 0 then (some ((0 : Int32), xx6.2)) else (some ((1 : Int32), xx6.2))) else (some ((0 : Int32), M))).bind fun xx18 => lt_ (s_X3_discard Y xx18.2 (j_rf Y o 3)) fun xx11 => (s_X9_document Y xx11 o p1).bind fun xx12 => if xx2 = (-1 : Int32) then (if xx18.1 = 0 then (none) else ((s_X9_changeTo Y xx11 o p1 xx12 (j_rf Y o 4)).bind fun xx17 => some (xx17.1, xx17.2))) else (some (((-100 : Int32) - xx2), xx11))
set_option maxRecDepth 100000 in
set_option maxHeartbeats 4000000 in
theorem c_X9_readDocument {D : va_G} {Y : JY} {ty : Nat → ClassId} {ad : Nat → Nat} {sz : Nat} {l : Launch} {M : JM} (hY : j_ok Y) {o : Nat} {p1 : Int32} (ho : j_kd Y o = 9) {r : Int32 × JM} (hE : s_X9_readDocument Y M o p1 = some r) : JMi D Y ty ad sz l yX9_readDocument cX9_readDocument 5 (some .int) 5 111 [.ref (ad o), .int p1] M r.1 r.2 := by
  refine j_ofI hY (by decide +kernel) (Nat.le_of_ble_eq_true rfl) (fun p e s m below meth c args R Q A hRf hRl hA jc jw kr ls hl => ?_)
  have hx := jc.1
  have hb := jc.2.1
  have hl : lv_has ls 5 [(0, .ref (ad o)), (1, .int p1)] := hl
  unfold s_X9_readDocument at hE
  obtain ⟨G0, eG0, hG0, hE⟩ := j_F0o hE
  refine lv_aload_n hx hb dX9_readDocument_0 rfl (lv_at hl 0 rfl) ?_
  refine jg_9_3 jc jw ho wd_4_168 dX9_readDocument_1 ?_
  have k1 := j_sub hY ho 3 (f := 3) rfl (by decide) (by decide) (by decide)
  obtain ⟨xx2, exx2, hE⟩ := j_bd hG0 hE
  try dsimp only at hE
  refine jc_vi [] [] jc jw hA k1 (by decide) rfl (c_X3_errorPosition hY k1 (M := M) exx2) sd_X9_156 rfl hl.1 (j_hR hRf hRl rfl rfl) (Nat.le_of_ble_eq_true rfl) dX9_readDocument_4 (fun H locs jw => ?_)
  refine lv_istore_n (lv' := [(2, .int xx2), (0, .ref (ad o)), (1, .int p1)]) hx hb dX9_readDocument_7 rfl hl (by decide) rfl (fun ls hl => ?_)
  refine lv_iload_n hx hb dX9_readDocument_8 rfl (lv_at hl 0 rfl) ?_
  refine lv_iconst (v := -1) hx hb dX9_readDocument_9 (by decide) ?_
  obtain ⟨G4, eG4, hG4, hE⟩ := j_ctxB hG0 hE
  have J4 : ∀ (vv9 : Int32) (mm10 : JM)  (H : Heap) (locs : List Loc) (ls : Array Slot), G4 (some (vv9, mm10)) = some r → JW D Y ty ad A s.heap mm10 H locs → lv_has ls 5 [(2, .int xx2), (0, .ref (ad o)), (1, .int p1)] → W p l e R s m args below meth c H locs 0 0 Q (F0 m 32 ls [.int vv9]) := by
    intro vv9 mm10  H locs ls hE jw hl
    replace hE := j_popB eG4 hE
    try dsimp only at hE
    refine lv_istore_n (lv' := [(3, .int vv9), (2, .int xx2), (0, .ref (ad o)), (1, .int p1)]) hx hb dX9_readDocument_32 rfl hl (by decide) rfl (fun ls hl => ?_)
    refine lv_aload_n hx hb dX9_readDocument_33 rfl (lv_at hl 2 rfl) ?_
    refine jg_9_3 jc jw ho wd_4_168 dX9_readDocument_34 ?_
    obtain ⟨xx11, exx11, hE⟩ := j_lv hE
    try dsimp only at hE
    refine jc_vv [] [] jc jw hA k1 (by decide) rfl (c_X3_discard hY k1 (M := mm10) exx11.symm) sd_X9_163 rfl hl.1 (j_hR hRf hRl rfl rfl) (Nat.le_of_ble_eq_true rfl) dX9_readDocument_37 (fun H locs jw => ?_)
    refine lv_aload_n hx hb dX9_readDocument_40 rfl (lv_at hl 2 rfl) ?_
    refine lv_iload_n hx hb dX9_readDocument_41 rfl (lv_at hl 3 rfl) ?_
    obtain ⟨xx12, exx12, hE⟩ := j_bd hG0 hE
    try dsimp only at hE
    refine jc_vr [.int p1] [] jc jw hA ho (by decide) rfl (c_X9_document hY ho (M := xx11) exx12) sd_X9_84 rfl hl.1 (j_hR hRf hRl rfl rfl) (Nat.le_of_ble_eq_true rfl) dX9_readDocument_42 (fun H locs jw hk => ?_)
    have k13 := hk
    refine lv_astore (lv' := [(4, .ref (ad xx12)), (3, .int vv9), (2, .int xx2), (0, .ref (ad o)), (1, .int p1)]) hx hb dX9_readDocument_45 hl (by decide) rfl (fun ls hl => ?_)
    refine lv_iload_n hx hb dX9_readDocument_47 rfl (lv_at hl 2 rfl) ?_
    refine lv_iconst (v := -1) hx hb dX9_readDocument_48 (by decide) ?_
    refine lv_icmp_eq (tgt := 57) hx hb dX9_readDocument_49 (by decide) (fun c14 => ?_) (fun c14 => ?_)
    · rw [if_pos c14] at hE
      refine lv_iload_n hx hb dX9_readDocument_57 rfl (lv_at hl 1 rfl) ?_
      refine lv_if_ne (tgt := 71) hx hb dX9_readDocument_58 (by decide) (fun c15 => ?_) (fun c15 => ?_)
      · rw [if_neg c15] at hE
        refine lv_aload_n hx hb dX9_readDocument_71 rfl (lv_at hl 3 rfl) ?_
        refine lv_iload_n hx hb dX9_readDocument_72 rfl (lv_at hl 4 rfl) ?_
        refine lv_aload hx hb dX9_readDocument_73 (lv_at hl 0 rfl) ?_
        refine lv_aload_n hx hb dX9_readDocument_75 rfl (lv_at hl 3 rfl) ?_
        refine jg_9_4 jc jw ho wd_4_169 dX9_readDocument_76 ?_
        have k16 := j_sub hY ho 4 (f := 4) rfl (by decide) (by decide) (by decide)
        obtain ⟨xx17, exx17, hE⟩ := j_bd hG0 hE
        try dsimp only at hE
        refine jc_vi [.int p1, .ref (ad xx12), .ref (ad (j_rf Y o 4))] [] jc jw hA ho (by decide) rfl (c_X9_changeTo hY ho k13 k16 (M := xx11) exx17) sd_X9_128 rfl hl.1 (j_hR hRf hRl rfl rfl) (Nat.le_of_ble_eq_true rfl) dX9_readDocument_79 (fun H locs jw => ?_)
        exact kr _ _ _ _ _ _ (j_fst (Option.some.inj (j_ret eG0 hE))) (j_snd (Option.some.inj (j_ret eG0 hE))) jw dX9_readDocument_82
      · rw [if_pos c15] at hE
        exact absurd hE (hG0 _)
    · rw [if_neg c14] at hE
      refine lv_bipush (v := -100) hx hb dX9_readDocument_52 (by decide) ?_
      refine lv_iload_n hx hb dX9_readDocument_54 rfl (lv_at hl 2 rfl) ?_
      refine lv_isub hx hb dX9_readDocument_55 ?_
      exact kr _ _ _ _ _ _ (j_fst (Option.some.inj (j_ret eG0 hE))) (j_snd (Option.some.inj (j_ret eG0 hE))) jw dX9_readDocument_56
  refine lv_icmp_ne (tgt := 31) hx hb dX9_readDocument_10 (by decide) (fun c3 => ?_) (fun c3 => ?_)
  · rw [if_neg c3] at hE
    refine lv_iconst (v := 0) hx hb dX9_readDocument_31 (by decide) ?_
    exact J4 (0 : Int32) M  H locs ls hE jw (lv_sub hl [0, 1, 2] rfl)
  · rw [if_pos c3] at hE
    refine lv_aload_n hx hb dX9_readDocument_13 rfl (lv_at hl 1 rfl) ?_
    refine jg_9_3 jc jw ho wd_4_168 dX9_readDocument_14 ?_
    refine lv_aload_n hx hb dX9_readDocument_17 rfl (lv_at hl 1 rfl) ?_
    refine jg_9_4 jc jw ho wd_4_169 dX9_readDocument_18 ?_
    have k5 := j_sub hY ho 4 (f := 4) rfl (by decide) (by decide) (by decide)
    obtain ⟨xx6, exx6, hE⟩ := j_bd hG4 hE
    try dsimp only at hE
    refine jc_vz [.ref (ad (j_rf Y o 4))] [] jc jw hA k1 (by decide) rfl (c_X3_expandInto hY k1 k5 (M := M) exx6) sd_X9_159 rfl hl.1 (j_hR hRf hRl rfl rfl) (Nat.le_of_ble_eq_true rfl) dX9_readDocument_21 (fun H locs jw hz => ?_)
    have z_7 := hz
    refine lv_if_eq (tgt := 31) hx hb dX9_readDocument_24 (by decide) (fun c8 => ?_) (fun c8 => ?_)
    · rw [if_pos c8] at hE
      refine lv_iconst (v := 0) hx hb dX9_readDocument_31 (by decide) ?_
      exact J4 (0 : Int32) xx6.2  H locs ls hE jw (lv_sub hl [0, 1, 2] rfl)
    · rw [if_neg c8] at hE
      refine lv_iconst (v := 1) hx hb dX9_readDocument_27 (by decide) ?_
      refine lv_goto (tgt := 32) hx hb dX9_readDocument_28 (by decide) ?_
      exact J4 (1 : Int32) xx6.2  H locs ls hE jw (lv_sub hl [0, 1, 2] rfl)
def s_X9_setMode (Y : JY) (M : JM) (o : Nat) (p1 : Int32) : Option (Int32 × JM) := if p1 = 0 ∨ p1 = (1 : Int32) then (lt_ (M o 9) fun vv3 => lt_ (j_up M o 9 p1) fun mm4 => some (vv3, mm4)) else (none)
set_option maxRecDepth 100000 in
set_option maxHeartbeats 4000000 in
theorem c_X9_setMode {D : va_G} {Y : JY} {ty : Nat → ClassId} {ad : Nat → Nat} {sz : Nat} {l : Launch} {M : JM} (hY : j_ok Y) {o : Nat} {p1 : Int32} (ho : j_kd Y o = 9) {r : Int32 × JM} (hE : s_X9_setMode Y M o p1 = some r) : JMi D Y ty ad sz l yX9_setMode cX9_setMode 3 (some .int) 0 0 [.ref (ad o), .int p1] M r.1 r.2 := by
  refine j_ofI hY (by decide +kernel) (Nat.le_of_ble_eq_true rfl) (fun p e s m below meth c args R Q A hRf hRl hA jc jw kr ls hl => ?_)
  have hx := jc.1
  have hb := jc.2.1
  have hl : lv_has ls 3 [(0, .ref (ad o)), (1, .int p1)] := hl
  unfold s_X9_setMode at hE
  obtain ⟨G0, eG0, hG0, hE⟩ := j_F0o hE
  refine lv_iload_n hx hb dX9_setMode_0 rfl (lv_at hl 1 rfl) ?_
  have B5 : ∀ (H : Heap) (locs : List Loc), JW D Y ty ad A s.heap M H locs → (p1 = 0 ∨ p1 = (1 : Int32)) → W p l e R s m args below meth c H locs 0 0 Q (F0 m 19 ls []) := by
    intro H locs jw hcc
    rw [if_pos hcc] at hE
    refine lv_aload_n hx hb dX9_setMode_19 rfl (lv_at hl 0 rfl) ?_
    refine jg_9_9 jc jw ho wd_4_174 dX9_setMode_20 ?_
    refine lv_topi (fun vv3 evv3 => ?_)
    replace hE := j_lu hE evv3
    try dsimp only at hE
    refine lv_istore_n (lv' := [(2, .int vv3), (0, .ref (ad o)), (1, .int p1)]) hx hb dX9_setMode_23 rfl hl (by decide) rfl (fun ls hl => ?_)
    refine lv_aload_n hx hb dX9_setMode_24 rfl (lv_at hl 1 rfl) ?_
    refine lv_iload_n hx hb dX9_setMode_25 rfl (lv_at hl 2 rfl) ?_
    refine js_9_9 jc jw ho wd_4_174 dX9_setMode_26 (fun H locs jw => ?_)
    obtain ⟨mm4, emm4, hE⟩ := j_lv hE
    rw [← emm4] at jw
    try dsimp only at hE
    refine lv_iload_n hx hb dX9_setMode_29 rfl (lv_at hl 0 rfl) ?_
    exact kr _ _ _ _ _ _ (j_fst (Option.some.inj (j_ret eG0 hE))) (j_snd (Option.some.inj (j_ret eG0 hE))) jw dX9_setMode_30
  refine lv_if_eq (tgt := 19) hx hb dX9_setMode_1 (by decide) (fun c1 => B5 _ _ jw (Or.inl c1)) (fun c1 => ?_)
  refine lv_iload_n hx hb dX9_setMode_4 rfl (lv_at hl 1 rfl) ?_
  refine lv_iconst (v := 1) hx hb dX9_setMode_5 (by decide) ?_
  refine lv_icmp_eq (tgt := 19) hx hb dX9_setMode_6 (by decide) (fun c2 => B5 _ _ jw (Or.inr c2)) (fun c2 => ?_)
  rw [if_neg (fun hq => hq.elim (fun hq => (j_abs c1 hq)) (fun hq => (j_abs c2 hq)))] at hE
  exact absurd hE (hG0 _)
def s_X9_compare (Y : JY) (M : JM) (o : Nat) (p1 : Int32) (p2 : Int32) : Option (Int32 × JM) := (s_X9_document Y M o p1).bind fun xx1 => (s_X9_document Y M o p2).bind fun xx3 => (s_X1_make Y M (j_rf Y o 6) xx1 xx3 (M o 9)).bind fun xx6 => some (xx6.1, xx6.2)
set_option maxRecDepth 100000 in
set_option maxHeartbeats 4000000 in
theorem c_X9_compare {D : va_G} {Y : JY} {ty : Nat → ClassId} {ad : Nat → Nat} {sz : Nat} {l : Launch} {M : JM} (hY : j_ok Y) {o : Nat} {p1 : Int32} {p2 : Int32} (ho : j_kd Y o = 9) {r : Int32 × JM} (hE : s_X9_compare Y M o p1 p2 = some r) : JMi D Y ty ad sz l yX9_compare cX9_compare 5 (some .int) 6 160 [.ref (ad o), .int p1, .int p2] M r.1 r.2 := by
  refine j_ofI hY (by decide +kernel) (Nat.le_of_ble_eq_true rfl) (fun p e s m below meth c args R Q A hRf hRl hA jc jw kr ls hl => ?_)
  have hx := jc.1
  have hb := jc.2.1
  have hl : lv_has ls 5 [(0, .ref (ad o)), (1, .int p1), (2, .int p2)] := hl
  unfold s_X9_compare at hE
  obtain ⟨G0, eG0, hG0, hE⟩ := j_F0o hE
  refine lv_aload_n hx hb dX9_compare_0 rfl (lv_at hl 0 rfl) ?_
  refine lv_iload_n hx hb dX9_compare_1 rfl (lv_at hl 1 rfl) ?_
  obtain ⟨xx1, exx1, hE⟩ := j_bd hG0 hE
  try dsimp only at hE
  refine jc_vr [.int p1] [] jc jw hA ho (by decide) rfl (c_X9_document hY ho (M := M) exx1) sd_X9_84 rfl hl.1 (j_hR hRf hRl rfl rfl) (Nat.le_of_ble_eq_true rfl) dX9_compare_2 (fun H locs jw hk => ?_)
  have k2 := hk
  refine lv_astore_n (lv' := [(3, .ref (ad xx1)), (0, .ref (ad o)), (1, .int p1), (2, .int p2)]) hx hb dX9_compare_5 rfl hl (by decide) rfl (fun ls hl => ?_)
  refine lv_aload_n hx hb dX9_compare_6 rfl (lv_at hl 1 rfl) ?_
  refine lv_iload_n hx hb dX9_compare_7 rfl (lv_at hl 3 rfl) ?_
  obtain ⟨xx3, exx3, hE⟩ := j_bd hG0 hE
  try dsimp only at hE
  refine jc_vr [.int p2] [] jc jw hA ho (by decide) rfl (c_X9_document hY ho (M := M) exx3) sd_X9_84 rfl hl.1 (j_hR hRf hRl rfl rfl) (Nat.le_of_ble_eq_true rfl) dX9_compare_8 (fun H locs jw hk => ?_)
  have k4 := hk
  refine lv_astore (lv' := [(4, .ref (ad xx3)), (3, .ref (ad xx1)), (0, .ref (ad o)), (1, .int p1), (2, .int p2)]) hx hb dX9_compare_11 hl (by decide) rfl (fun ls hl => ?_)
  refine lv_aload_n hx hb dX9_compare_13 rfl (lv_at hl 2 rfl) ?_
  refine jg_9_6 jc jw ho wd_4_171 dX9_compare_14 ?_
  have k5 := j_sub hY ho 6 (f := 1) rfl (by decide) (by decide) (by decide)
  refine lv_aload_n hx hb dX9_compare_17 rfl (lv_at hl 1 rfl) ?_
  refine lv_aload hx hb dX9_compare_18 (lv_at hl 0 rfl) ?_
  refine lv_aload_n hx hb dX9_compare_20 rfl (lv_at hl 2 rfl) ?_
  refine jg_9_9 jc jw ho wd_4_174 dX9_compare_21 ?_
  obtain ⟨xx6, exx6, hE⟩ := j_bd hG0 hE
  try dsimp only at hE
  refine jc_vi [.ref (ad xx1), .ref (ad xx3), .int (M o 9)] [] jc jw hA k5 (by decide) rfl (c_X1_make hY k5 k2 k4 (M := M) exx6) sd_X9_173 rfl hl.1 (j_hR hRf hRl rfl rfl) (Nat.le_of_ble_eq_true rfl) dX9_compare_24 (fun H locs jw => ?_)
  exact kr _ _ _ _ _ _ (j_fst (Option.some.inj (j_ret eG0 hE))) (j_snd (Option.some.inj (j_ret eG0 hE))) jw dX9_compare_27
def s_X9_requireComparison (Y : JY) (M : JM) (o : Nat) : Option (Unit) := if (s_X1_exists Y M (j_rf Y o 6)) = 0 then (none) else (some ())
set_option maxRecDepth 100000 in
set_option maxHeartbeats 4000000 in
theorem c_X9_requireComparison {D : va_G} {Y : JY} {ty : Nat → ClassId} {ad : Nat → Nat} {sz : Nat} {l : Launch} {M : JM} (hY : j_ok Y) {o : Nat} (ho : j_kd Y o = 9) {r : Unit} (hE : s_X9_requireComparison Y M o = some r) : JMv D Y ty ad sz l yX9_requireComparison cX9_requireComparison 1 1 20 [.ref (ad o)] M M := by
  refine j_ofV hY (by decide +kernel) (Nat.le_of_ble_eq_true rfl) (fun p e s m below meth c args R Q A hRf hRl hA jc jw kr ls hl => ?_)
  have hx := jc.1
  have hb := jc.2.1
  have hl : lv_has ls 1 [(0, .ref (ad o))] := hl
  unfold s_X9_requireComparison at hE
  obtain ⟨G0, eG0, hG0, hE⟩ := j_F0o hE
  refine lv_aload_n hx hb dX9_requireComparison_0 rfl (lv_at hl 0 rfl) ?_
  refine jg_9_6 jc jw ho wd_4_171 dX9_requireComparison_1 ?_
  have k1 := j_sub hY ho 6 (f := 1) rfl (by decide) (by decide) (by decide)
  refine jc_vz [] [] jc jw hA k1 (by decide) rfl (c_X1_exists hY k1 (M := M) rfl) sd_X9_328 rfl hl.1 (j_hR hRf hRl rfl rfl) (Nat.le_of_ble_eq_true rfl) dX9_requireComparison_4 (fun H locs jw hz => ?_)
  have z_2 := hz
  refine lv_if_ne (tgt := 21) hx hb dX9_requireComparison_7 (by decide) (fun c3 => ?_) (fun c3 => ?_)
  · rw [if_neg c3] at hE
    exact kr _ _ _ _ _ rfl jw dX9_requireComparison_21
  · rw [if_pos c3] at hE
    exact absurd hE (hG0 _)
def s_X9_partner (Y : JY) (M : JM) (o : Nat) (p1 : Int32) : Option (Int32) := (s_X9_requireComparison Y M o).bind fun xx1 => if (s_X4_has Y M (s_X1_first Y M (j_rf Y o 6)) p1) = 0 then (none) else (some (s_X0_partnerOf Y M (s_X1_alignment Y M (j_rf Y o 6)) p1))
set_option maxRecDepth 100000 in
set_option maxHeartbeats 4000000 in
theorem c_X9_partner {D : va_G} {Y : JY} {ty : Nat → ClassId} {ad : Nat → Nat} {sz : Nat} {l : Launch} {M : JM} (hY : j_ok Y) {o : Nat} {p1 : Int32} (ho : j_kd Y o = 9) {r : Int32} (hE : s_X9_partner Y M o p1 = some r) : JMi D Y ty ad sz l yX9_partner cX9_partner 2 (some .int) 2 42 [.ref (ad o), .int p1] M r M := by
  refine j_ofI hY (by decide +kernel) (Nat.le_of_ble_eq_true rfl) (fun p e s m below meth c args R Q A hRf hRl hA jc jw kr ls hl => ?_)
  have hx := jc.1
  have hb := jc.2.1
  have hl : lv_has ls 2 [(0, .ref (ad o)), (1, .int p1)] := hl
  unfold s_X9_partner at hE
  obtain ⟨G0, eG0, hG0, hE⟩ := j_F0o hE
  refine lv_aload_n hx hb dX9_partner_0 rfl (lv_at hl 0 rfl) ?_
  obtain ⟨xx1, exx1, hE⟩ := j_bd hG0 hE
  try dsimp only at hE
  refine jc_vv [] [] jc jw hA ho (by decide) rfl (c_X9_requireComparison hY ho (M := M) exx1) sd_X9_177 rfl hl.1 (j_hR hRf hRl rfl rfl) (Nat.le_of_ble_eq_true rfl) dX9_partner_1 (fun H locs jw => ?_)
  refine lv_aload_n hx hb dX9_partner_4 rfl (lv_at hl 0 rfl) ?_
  refine jg_9_6 jc jw ho wd_4_171 dX9_partner_5 ?_
  have k2 := j_sub hY ho 6 (f := 1) rfl (by decide) (by decide) (by decide)
  refine jc_vr [] [] jc jw hA k2 (by decide) rfl (c_X1_first hY k2 (M := M) rfl) sd_X9_180 rfl hl.1 (j_hR hRf hRl rfl rfl) (Nat.le_of_ble_eq_true rfl) dX9_partner_8 (fun H locs jw hk => ?_)
  have k3 := hk
  refine lv_iload_n hx hb dX9_partner_11 rfl (lv_at hl 1 rfl) ?_
  refine jc_vz [.int p1] [] jc jw hA k3 (by decide) rfl (c_X4_has hY k3 (M := M) rfl) sd_X9_117 rfl hl.1 (j_hR hRf hRl rfl rfl) (Nat.le_of_ble_eq_true rfl) dX9_partner_12 (fun H locs jw hz => ?_)
  have z_4 := hz
  refine lv_if_ne (tgt := 28) hx hb dX9_partner_15 (by decide) (fun c5 => ?_) (fun c5 => ?_)
  · rw [if_neg c5] at hE
    refine lv_aload_n hx hb dX9_partner_28 rfl (lv_at hl 0 rfl) ?_
    refine jg_9_6 jc jw ho wd_4_171 dX9_partner_29 ?_
    refine jc_vr [] [] jc jw hA k2 (by decide) rfl (c_X1_alignment hY k2 (M := M) rfl) sd_X9_184 rfl hl.1 (j_hR hRf hRl rfl rfl) (Nat.le_of_ble_eq_true rfl) dX9_partner_32 (fun H locs jw hk => ?_)
    have k6 := hk
    refine lv_iload_n hx hb dX9_partner_35 rfl (lv_at hl 1 rfl) ?_
    refine jc_vi [.int p1] [] jc jw hA k6 (by decide) rfl (c_X0_partnerOf hY k6 (M := M) rfl) sd_X9_188 rfl hl.1 (j_hR hRf hRl rfl rfl) (Nat.le_of_ble_eq_true rfl) dX9_partner_36 (fun H locs jw => ?_)
    exact kr _ _ _ _ _ _ (Option.some.inj (j_ret eG0 hE)) rfl jw dX9_partner_39
  · rw [if_pos c5] at hE
    exact absurd hE (hG0 _)

def s_X3_isFull (Y : JY) (M : JM) (o : Nat) : Int32 := (s_X4_isFull Y M (j_rf Y o 0))
set_option maxRecDepth 100000 in
set_option maxHeartbeats 4000000 in
theorem c_X3_isFull {D : va_G} {Y : JY} {ty : Nat → ClassId} {ad : Nat → Nat} {sz : Nat} {l : Launch} {M : JM} (hY : j_ok Y) {o : Nat} (ho : j_kd Y o = 3) {r : Int32} (hE : s_X3_isFull Y M o = r) : JMz D Y ty ad sz l yX3_isFull cX3_isFull 1 1 20 [.ref (ad o)] M r M := by
  refine j_ofZ hY (by decide +kernel) (Nat.le_of_ble_eq_true rfl) (fun p e s m below meth c args R Q A hRf hRl hA jc jw kr ls hl => ?_)
  have hx := jc.1
  have hb := jc.2.1
  have hl : lv_has ls 1 [(0, .ref (ad o))] := hl
  unfold s_X3_isFull at hE
  obtain ⟨G0, eG0, hE⟩ := j_F0 hE
  refine lv_aload_n hx hb dX3_isFull_0 rfl (lv_at hl 0 rfl) ?_
  refine jg_3_0 jc jw ho wd_3_235 dX3_isFull_1 ?_
  have k1 := j_sub hY ho 0 (f := 4) rfl (by decide) (by decide) (by decide)
  refine jc_vz [] [] jc jw hA k1 (by decide) rfl (c_X4_isFull hY k1 (M := M) rfl) sd_X3_23 rfl hl.1 (j_hR hRf hRl rfl rfl) (Nat.le_of_ble_eq_true rfl) dX3_isFull_4 (fun H locs jw hz => ?_)
  have z_2 := hz
  exact kr _ _ _ _ _ _ (j_ret eG0 hE) rfl z_2 jw dX3_isFull_7
def s_X3_take (Y : JY) (M : JM) (o : Nat) (p1 : Int32) : Int32 × JM := lt_ (s_X4_push Y M (j_rf Y o 0) p1) fun xx2 => ((s_X4_size Y xx2 (j_rf Y o 0)), xx2)
set_option maxRecDepth 100000 in
set_option maxHeartbeats 4000000 in
theorem c_X3_take {D : va_G} {Y : JY} {ty : Nat → ClassId} {ad : Nat → Nat} {sz : Nat} {l : Launch} {M : JM} (hY : j_ok Y) {o : Nat} {p1 : Int32} (ho : j_kd Y o = 3) {r : Int32 × JM} (hE : s_X3_take Y M o p1 = r) : JMi D Y ty ad sz l yX3_take cX3_take 2 (some .int) 1 21 [.ref (ad o), .int p1] M r.1 r.2 := by
  refine j_ofI hY (by decide +kernel) (Nat.le_of_ble_eq_true rfl) (fun p e s m below meth c args R Q A hRf hRl hA jc jw kr ls hl => ?_)
  have hx := jc.1
  have hb := jc.2.1
  have hl : lv_has ls 2 [(0, .ref (ad o)), (1, .int p1)] := hl
  unfold s_X3_take at hE
  obtain ⟨G0, eG0, hE⟩ := j_F0 hE
  refine lv_aload_n hx hb dX3_take_0 rfl (lv_at hl 0 rfl) ?_
  refine jg_3_0 jc jw ho wd_3_235 dX3_take_1 ?_
  have k1 := j_sub hY ho 0 (f := 4) rfl (by decide) (by decide) (by decide)
  refine lv_iload_n hx hb dX3_take_4 rfl (lv_at hl 1 rfl) ?_
  obtain ⟨xx2, exx2, hE⟩ := j_lv hE
  try dsimp only at hE
  refine jc_vv [.int p1] [] jc jw hA k1 (by decide) rfl (c_X4_push hY k1 (M := M) exx2.symm) sd_X3_27 rfl hl.1 (j_hR hRf hRl rfl rfl) (Nat.le_of_ble_eq_true rfl) dX3_take_5 (fun H locs jw => ?_)
  refine lv_aload_n hx hb dX3_take_8 rfl (lv_at hl 0 rfl) ?_
  refine jg_3_0 jc jw ho wd_3_235 dX3_take_9 ?_
  refine jc_vi [] [] jc jw hA k1 (by decide) rfl (c_X4_size hY k1 (M := xx2) rfl) sd_X3_30 rfl hl.1 (j_hR hRf hRl rfl rfl) (Nat.le_of_ble_eq_true rfl) dX3_take_12 (fun H locs jw => ?_)
  exact kr _ _ _ _ _ _ (j_fst (j_ret eG0 hE)) (j_snd (j_ret eG0 hE)) jw dX3_take_15
def s_X3_discard (Y : JY) (M : JM) (o : Nat) : JM := lt_ (s_X4_clear Y M (j_rf Y o 0)) fun xx2 => xx2
set_option maxRecDepth 100000 in
set_option maxHeartbeats 4000000 in
theorem c_X3_discard {D : va_G} {Y : JY} {ty : Nat → ClassId} {ad : Nat → Nat} {sz : Nat} {l : Launch} {M : JM} (hY : j_ok Y) {o : Nat} (ho : j_kd Y o = 3) {r : JM} (hE : s_X3_discard Y M o = r) : JMv D Y ty ad sz l yX3_discard cX3_discard 1 1 20 [.ref (ad o)] M r := by
  refine j_ofV hY (by decide +kernel) (Nat.le_of_ble_eq_true rfl) (fun p e s m below meth c args R Q A hRf hRl hA jc jw kr ls hl => ?_)
  have hx := jc.1
  have hb := jc.2.1
  have hl : lv_has ls 1 [(0, .ref (ad o))] := hl
  unfold s_X3_discard at hE
  obtain ⟨G0, eG0, hE⟩ := j_F0 hE
  refine lv_aload_n hx hb dX3_discard_0 rfl (lv_at hl 0 rfl) ?_
  refine jg_3_0 jc jw ho wd_3_235 dX3_discard_1 ?_
  have k1 := j_sub hY ho 0 (f := 4) rfl (by decide) (by decide) (by decide)
  obtain ⟨xx2, exx2, hE⟩ := j_lv hE
  try dsimp only at hE
  refine jc_vv [] [] jc jw hA k1 (by decide) rfl (c_X4_clear hY k1 (M := M) exx2.symm) sd_X3_34 rfl hl.1 (j_hR hRf hRl rfl rfl) (Nat.le_of_ble_eq_true rfl) dX3_discard_4 (fun H locs jw => ?_)
  exact kr _ _ _ _ _ (j_ret eG0 hE) jw dX3_discard_7
def s_X3_isDigit (Y : JY) (M : JM) (p1 : Int32) : Int32 := if p1 < (50 : Int32) ∨ (57 : Int32) < p1 then ((0 : Int32)) else ((1 : Int32))
set_option maxRecDepth 100000 in
set_option maxHeartbeats 4000000 in
theorem c_X3_isDigit {D : va_G} {Y : JY} {ty : Nat → ClassId} {ad : Nat → Nat} {sz : Nat} {l : Launch} {M : JM} (hY : j_ok Y) {p1 : Int32}  {r : Int32} (hE : s_X3_isDigit Y M p1 = r) : JMz D Y ty ad sz l yX3_isDigit cX3_isDigit 1 0 0 [.int p1] M r M := by
  refine j_ofZ hY (by decide +kernel) (Nat.le_of_ble_eq_true rfl) (fun p e s m below meth c args R Q A hRf hRl hA jc jw kr ls hl => ?_)
  have hx := jc.1
  have hb := jc.2.1
  have hl : lv_has ls 1 [(0, .int p1)] := hl
  unfold s_X3_isDigit at hE
  obtain ⟨G0, eG0, hE⟩ := j_F0 hE
  refine lv_iload_n hx hb dX3_isDigit_0 rfl (lv_at hl 0 rfl) ?_
  refine lv_bipush (v := 50) hx hb dX3_isDigit_1 (by decide) ?_
  have B3 : ∀ (H : Heap) (locs : List Loc), JW D Y ty ad A s.heap M H locs → (p1 < (50 : Int32) ∨ (57 : Int32) < p1) → W p l e R s m args below meth c H locs 0 0 Q (F0 m 16 ls []) := by
    intro H locs jw hcc
    rw [if_pos hcc] at hE
    refine lv_iconst (v := 0) hx hb dX3_isDigit_16 (by decide) ?_
    exact kr _ _ _ _ _ _ (j_ret eG0 hE) rfl (by decide) jw dX3_isDigit_17
  refine lv_icmp_lt (tgt := 16) hx hb dX3_isDigit_3 (by decide) (fun c1 => B3 _ _ jw (Or.inl c1)) (fun c1 => ?_)
  refine lv_iload_n hx hb dX3_isDigit_6 rfl (lv_at hl 0 rfl) ?_
  refine lv_bipush (v := 57) hx hb dX3_isDigit_7 (by decide) ?_
  refine lv_icmp_gt (tgt := 16) hx hb dX3_isDigit_9 (by decide) (fun c2 => B3 _ _ jw (Or.inr c2)) (fun c2 => ?_)
  rw [if_neg (fun hq => hq.elim (fun hq => (j_abs c1 hq)) (fun hq => (j_abs c2 hq)))] at hE
  refine lv_iconst (v := 1) hx hb dX3_isDigit_12 (by decide) ?_
  refine lv_goto (tgt := 17) hx hb dX3_isDigit_13 (by decide) ?_
  exact kr _ _ _ _ _ _ (j_ret eG0 hE) rfl (by decide) jw dX3_isDigit_17
def s_X3_isLetter (Y : JY) (M : JM) (p1 : Int32) : Int32 := if p1 < (97 : Int32) ∨ (122 : Int32) < p1 then ((0 : Int32)) else ((1 : Int32))
set_option maxRecDepth 100000 in
set_option maxHeartbeats 4000000 in
theorem c_X3_isLetter {D : va_G} {Y : JY} {ty : Nat → ClassId} {ad : Nat → Nat} {sz : Nat} {l : Launch} {M : JM} (hY : j_ok Y) {p1 : Int32}  {r : Int32} (hE : s_X3_isLetter Y M p1 = r) : JMz D Y ty ad sz l yX3_isLetter cX3_isLetter 1 0 0 [.int p1] M r M := by
  refine j_ofZ hY (by decide +kernel) (Nat.le_of_ble_eq_true rfl) (fun p e s m below meth c args R Q A hRf hRl hA jc jw kr ls hl => ?_)
  have hx := jc.1
  have hb := jc.2.1
  have hl : lv_has ls 1 [(0, .int p1)] := hl
  unfold s_X3_isLetter at hE
  obtain ⟨G0, eG0, hE⟩ := j_F0 hE
  refine lv_iload_n hx hb dX3_isLetter_0 rfl (lv_at hl 0 rfl) ?_
  refine lv_bipush (v := 97) hx hb dX3_isLetter_1 (by decide) ?_
  have B3 : ∀ (H : Heap) (locs : List Loc), JW D Y ty ad A s.heap M H locs → (p1 < (97 : Int32) ∨ (122 : Int32) < p1) → W p l e R s m args below meth c H locs 0 0 Q (F0 m 16 ls []) := by
    intro H locs jw hcc
    rw [if_pos hcc] at hE
    refine lv_iconst (v := 0) hx hb dX3_isLetter_16 (by decide) ?_
    exact kr _ _ _ _ _ _ (j_ret eG0 hE) rfl (by decide) jw dX3_isLetter_17
  refine lv_icmp_lt (tgt := 16) hx hb dX3_isLetter_3 (by decide) (fun c1 => B3 _ _ jw (Or.inl c1)) (fun c1 => ?_)
  refine lv_iload_n hx hb dX3_isLetter_6 rfl (lv_at hl 0 rfl) ?_
  refine lv_bipush (v := 122) hx hb dX3_isLetter_7 (by decide) ?_
  refine lv_icmp_gt (tgt := 16) hx hb dX3_isLetter_9 (by decide) (fun c2 => B3 _ _ jw (Or.inr c2)) (fun c2 => ?_)
  rw [if_neg (fun hq => hq.elim (fun hq => (j_abs c1 hq)) (fun hq => (j_abs c2 hq)))] at hE
  refine lv_iconst (v := 1) hx hb dX3_isLetter_12 (by decide) ?_
  refine lv_goto (tgt := 17) hx hb dX3_isLetter_13 (by decide) ?_
  exact kr _ _ _ _ _ _ (j_ret eG0 hE) rfl (by decide) jw dX3_isLetter_17
def s_X3_mayFollow (Y : JY) (M : JM) (p1 : Int32) (p2 : Int32) (p3 : Int32) : Int32 := if p2 = (40 : Int32) then (if (4 : Int32) ≤ p3 then ((0 : Int32)) else ((1 : Int32))) else (if p2 = (41 : Int32) then (if p3 ≤ 0 ∨ p1 = (40 : Int32) then ((0 : Int32)) else ((1 : Int32))) else (if (s_X3_isDigit Y M p2) = 0 then ((s_X3_isLetter Y M p2)) else (if ¬ ((s_X3_isLetter Y M p1) = 0) ∨ p1 = (41 : Int32) then ((1 : Int32)) else ((0 : Int32)))))
set_option maxRecDepth 100000 in
set_option maxHeartbeats 4000000 in
theorem c_X3_mayFollow {D : va_G} {Y : JY} {ty : Nat → ClassId} {ad : Nat → Nat} {sz : Nat} {l : Launch} {M : JM} (hY : j_ok Y) {p1 : Int32} {p2 : Int32} {p3 : Int32}  {r : Int32} (hE : s_X3_mayFollow Y M p1 p2 p3 = r) : JMz D Y ty ad sz l yX3_mayFollow cX3_mayFollow 3 1 20 [.int p1, .int p2, .int p3] M r M := by
  refine j_ofZ hY (by decide +kernel) (Nat.le_of_ble_eq_true rfl) (fun p e s m below meth c args R Q A hRf hRl hA jc jw kr ls hl => ?_)
  have hx := jc.1
  have hb := jc.2.1
  have hl : lv_has ls 3 [(0, .int p1), (1, .int p2), (2, .int p3)] := hl
  unfold s_X3_mayFollow at hE
  obtain ⟨G0, eG0, hE⟩ := j_F0 hE
  refine lv_iload_n hx hb dX3_mayFollow_0 rfl (lv_at hl 1 rfl) ?_
  refine lv_bipush (v := 40) hx hb dX3_mayFollow_1 (by decide) ?_
  refine lv_icmp_ne (tgt := 17) hx hb dX3_mayFollow_3 (by decide) (fun c1 => ?_) (fun c1 => ?_)
  · rw [if_neg c1] at hE
    refine lv_iload_n hx hb dX3_mayFollow_17 rfl (lv_at hl 1 rfl) ?_
    refine lv_bipush (v := 41) hx hb dX3_mayFollow_18 (by decide) ?_
    refine lv_icmp_ne (tgt := 39) hx hb dX3_mayFollow_20 (by decide) (fun c3 => ?_) (fun c3 => ?_)
    · rw [if_neg c3] at hE
      refine lv_iload_n hx hb dX3_mayFollow_39 rfl (lv_at hl 1 rfl) ?_
      refine jc_sz [.int p2] [] jc jw hA (c_X3_isDigit hY  (M := M) rfl) sd_X3_45 rfl hl.1 (j_hR hRf hRl rfl rfl) (Nat.le_of_ble_eq_true rfl) dX3_mayFollow_40 (fun H locs jw hz => ?_)
      have z_7 := hz
      refine lv_if_eq (tgt := 65) hx hb dX3_mayFollow_43 (by decide) (fun c8 => ?_) (fun c8 => ?_)
      · rw [if_pos c8] at hE
        refine lv_iload_n hx hb dX3_mayFollow_65 rfl (lv_at hl 1 rfl) ?_
        refine jc_sz [.int p2] [] jc jw hA (c_X3_isLetter hY  (M := M) rfl) sd_X3_49 rfl hl.1 (j_hR hRf hRl rfl rfl) (Nat.le_of_ble_eq_true rfl) dX3_mayFollow_66 (fun H locs jw hz => ?_)
        have z_9 := hz
        exact kr _ _ _ _ _ _ (j_ret eG0 hE) rfl z_9 jw dX3_mayFollow_69
      · rw [if_neg c8] at hE
        refine lv_iload_n hx hb dX3_mayFollow_46 rfl (lv_at hl 0 rfl) ?_
        refine jc_sz [.int p1] [] jc jw hA (c_X3_isLetter hY  (M := M) rfl) sd_X3_49 rfl hl.1 (j_hR hRf hRl rfl rfl) (Nat.le_of_ble_eq_true rfl) dX3_mayFollow_47 (fun H locs jw hz => ?_)
        have z_10 := hz
        have B13 : ∀ (H : Heap) (locs : List Loc), JW D Y ty ad A s.heap M H locs → (¬ ((s_X3_isLetter Y M p1) = 0) ∨ p1 = (41 : Int32)) → W p l e R s m args below meth c H locs 0 0 Q (F0 m 59 ls []) := by
          intro H locs jw hcc
          rw [if_pos hcc] at hE
          refine lv_iconst (v := 1) hx hb dX3_mayFollow_59 (by decide) ?_
          refine lv_goto (tgt := 64) hx hb dX3_mayFollow_60 (by decide) ?_
          exact kr _ _ _ _ _ _ (j_ret eG0 hE) rfl (by decide) jw dX3_mayFollow_64
        refine lv_if_ne (tgt := 59) hx hb dX3_mayFollow_50 (by decide) (fun c11 => B13 _ _ jw (Or.inl c11)) (fun c11 => ?_)
        refine lv_iload_n hx hb dX3_mayFollow_53 rfl (lv_at hl 0 rfl) ?_
        refine lv_bipush (v := 41) hx hb dX3_mayFollow_54 (by decide) ?_
        refine lv_icmp_ne (tgt := 63) hx hb dX3_mayFollow_56 (by decide) (fun c12 => ?_) (fun c12 => B13 _ _ jw (Or.inr c12))
        rw [if_neg (fun hq => hq.elim (fun hq => (j_absn c11 hq)) (fun hq => (j_abs c12 hq)))] at hE
        refine lv_iconst (v := 0) hx hb dX3_mayFollow_63 (by decide) ?_
        exact kr _ _ _ _ _ _ (j_ret eG0 hE) rfl (by decide) jw dX3_mayFollow_64
    · rw [if_pos c3] at hE
      refine lv_iload_n hx hb dX3_mayFollow_23 rfl (lv_at hl 2 rfl) ?_
      have B6 : ∀ (H : Heap) (locs : List Loc), JW D Y ty ad A s.heap M H locs → (p3 ≤ 0 ∨ p1 = (40 : Int32)) → W p l e R s m args below meth c H locs 0 0 Q (F0 m 37 ls []) := by
        intro H locs jw hcc
        rw [if_pos hcc] at hE
        refine lv_iconst (v := 0) hx hb dX3_mayFollow_37 (by decide) ?_
        exact kr _ _ _ _ _ _ (j_ret eG0 hE) rfl (by decide) jw dX3_mayFollow_38
      refine lv_if_le (tgt := 37) hx hb dX3_mayFollow_24 (by decide) (fun c4 => B6 _ _ jw (Or.inl c4)) (fun c4 => ?_)
      refine lv_iload_n hx hb dX3_mayFollow_27 rfl (lv_at hl 0 rfl) ?_
      refine lv_bipush (v := 40) hx hb dX3_mayFollow_28 (by decide) ?_
      refine lv_icmp_eq (tgt := 37) hx hb dX3_mayFollow_30 (by decide) (fun c5 => B6 _ _ jw (Or.inr c5)) (fun c5 => ?_)
      rw [if_neg (fun hq => hq.elim (fun hq => (j_abs c4 hq)) (fun hq => (j_abs c5 hq)))] at hE
      refine lv_iconst (v := 1) hx hb dX3_mayFollow_33 (by decide) ?_
      refine lv_goto (tgt := 38) hx hb dX3_mayFollow_34 (by decide) ?_
      exact kr _ _ _ _ _ _ (j_ret eG0 hE) rfl (by decide) jw dX3_mayFollow_38
  · rw [if_pos c1] at hE
    refine lv_iload_n hx hb dX3_mayFollow_6 rfl (lv_at hl 2 rfl) ?_
    refine lv_iconst (v := 4) hx hb dX3_mayFollow_7 (by decide) ?_
    refine lv_icmp_ge (tgt := 15) hx hb dX3_mayFollow_8 (by decide) (fun c2 => ?_) (fun c2 => ?_)
    · rw [if_pos c2] at hE
      refine lv_iconst (v := 0) hx hb dX3_mayFollow_15 (by decide) ?_
      exact kr _ _ _ _ _ _ (j_ret eG0 hE) rfl (by decide) jw dX3_mayFollow_16
    · rw [if_neg c2] at hE
      refine lv_iconst (v := 1) hx hb dX3_mayFollow_11 (by decide) ?_
      refine lv_goto (tgt := 16) hx hb dX3_mayFollow_12 (by decide) ?_
      exact kr _ _ _ _ _ _ (j_ret eG0 hE) rfl (by decide) jw dX3_mayFollow_16
def lp_X3_errorPosition_1 (Y : JY) (M : JM) (o : Nat) (n : Nat) (vv2 : Int32) (vv3 : Int32) (vv4 : Int32) : Option ((Int32) ⊕ (Int32)) := match n with
  | 0 => none
  | n + 1 => if (s_X4_size Y M (j_rf Y o 0)) ≤ vv4 then (some (Sum.inl vv2)) else (lt_ (s_X4_at Y M (j_rf Y o 0) vv4) fun vv7 => if (s_X3_mayFollow Y M vv3 vv7 vv2) = 0 then (some (Sum.inr vv4)) else (lt_ (if vv7 = (40 : Int32) then (lt_ (vv2 + (1 : Int32)) fun vv12 => vv12) else (if vv7 = (41 : Int32) then (lt_ (vv2 + (-1 : Int32)) fun vv14 => vv14) else (vv2))) fun xx17 => lt_ (vv4 + (1 : Int32)) fun vv16 => lp_X3_errorPosition_1 Y M o n xx17 vv7 vv16))
def s_X3_errorPosition (Y : JY) (M : JM) (o : Nat) : Option (Int32) := (lp_X3_errorPosition_1 Y M o j_fuel (0 : Int32) (-1 : Int32) (0 : Int32)).bind fun xx21 => match xx21 with | Sum.inl xx21a => (if xx21a ≤ 0 then (some (-1 : Int32)) else (some (s_X4_size Y M (j_rf Y o 0)))) | Sum.inr xx21a => (some xx21a)
set_option maxRecDepth 100000 in
set_option maxHeartbeats 4000000 in
theorem c_X3_errorPosition {D : va_G} {Y : JY} {ty : Nat → ClassId} {ad : Nat → Nat} {sz : Nat} {l : Launch} {M : JM} (hY : j_ok Y) {o : Nat} (ho : j_kd Y o = 3) {r : Int32} (hE : s_X3_errorPosition Y M o = some r) : JMi D Y ty ad sz l yX3_errorPosition cX3_errorPosition 5 (some .int) 2 42 [.ref (ad o)] M r M := by
  refine j_ofI hY (by decide +kernel) (Nat.le_of_ble_eq_true rfl) (fun p e s m below meth c args R Q A hRf hRl hA jc jw kr ls hl => ?_)
  have hx := jc.1
  have hb := jc.2.1
  have hl : lv_has ls 5 [(0, .ref (ad o))] := hl
  unfold s_X3_errorPosition at hE
  obtain ⟨G0, eG0, hG0, hE⟩ := j_F0o hE
  refine lv_iconst (v := 0) hx hb dX3_errorPosition_0 (by decide) ?_
  refine lv_istore_n (lv' := [(1, .int (0 : Int32)), (0, .ref (ad o))]) hx hb dX3_errorPosition_1 rfl hl (by decide) rfl (fun ls hl => ?_)
  refine lv_iconst (v := -1) hx hb dX3_errorPosition_2 (by decide) ?_
  refine lv_istore_n (lv' := [(2, .int (-1 : Int32)), (1, .int (0 : Int32)), (0, .ref (ad o))]) hx hb dX3_errorPosition_3 rfl hl (by decide) rfl (fun ls hl => ?_)
  refine lv_iconst (v := 0) hx hb dX3_errorPosition_4 (by decide) ?_
  refine lv_istore_n (lv' := [(3, .int (0 : Int32)), (2, .int (-1 : Int32)), (1, .int (0 : Int32)), (0, .ref (ad o))]) hx hb dX3_errorPosition_5 rfl hl (by decide) rfl (fun ls hl => ?_)
  obtain ⟨G1, eG1, hG1, hE⟩ := j_ctxB hG0 hE
  have E1_71 : ∀ (vv18 : Int32)  (H : Heap) (locs : List Loc) (ls : Array Slot), G1 (some (Sum.inl vv18)) = some r → JW D Y ty ad A s.heap M H locs → lv_has ls 5 [(1, .int vv18), (0, .ref (ad o))] → W p l e R s m args below meth c H locs 0 0 Q (F0 m 71 ls []) := by
    intro vv18  H locs ls hE jw hl
    replace hE := j_popB eG1 hE
    try dsimp only at hE
    refine lv_iload_n hx hb dX3_errorPosition_71 rfl (lv_at hl 0 rfl) ?_
    refine lv_if_le (tgt := 85) hx hb dX3_errorPosition_72 (by decide) (fun c19 => ?_) (fun c19 => ?_)
    · rw [if_pos c19] at hE
      refine lv_iconst (v := -1) hx hb dX3_errorPosition_85 (by decide) ?_
      exact kr _ _ _ _ _ _ (Option.some.inj (j_ret eG0 hE)) rfl jw dX3_errorPosition_86
    · rw [if_neg c19] at hE
      refine lv_aload_n hx hb dX3_errorPosition_75 rfl (lv_at hl 1 rfl) ?_
      refine jg_3_0 jc jw ho wd_3_235 dX3_errorPosition_76 ?_
      have k20 := j_sub hY ho 0 (f := 4) rfl (by decide) (by decide) (by decide)
      refine jc_vi [] [] jc jw hA k20 (by decide) rfl (c_X4_size hY k20 (M := M) rfl) sd_X3_30 rfl hl.1 (j_hR hRf hRl rfl rfl) (Nat.le_of_ble_eq_true rfl) dX3_errorPosition_79 (fun H locs jw => ?_)
      refine lv_goto (tgt := 86) hx hb dX3_errorPosition_82 (by decide) ?_
      exact kr _ _ _ _ _ _ (Option.some.inj (j_ret eG0 hE)) rfl jw dX3_errorPosition_86
  have LP1 : ∀ (n : Nat) (vv2 : Int32) (vv3 : Int32) (vv4 : Int32) (H : Heap) (locs : List Loc) (ls : Array Slot), G1 (lp_X3_errorPosition_1 Y M o n vv2 vv3 vv4) = some r → JW D Y ty ad A s.heap M H locs → lv_has ls 5 [(3, .int vv4), (2, .int vv3), (1, .int vv2), (0, .ref (ad o))] → W p l e R s m args below meth c H locs 0 0 Q (F0 m 6 ls []) := by
    intro n
    induction n with
    | zero => intro vv2 vv3 vv4 H locs ls hE jw hl; exact absurd hE (hG1 _)
    | succ n ih =>
      intro vv2 vv3 vv4 H locs ls hE jw hl
      rw [lp_X3_errorPosition_1] at hE
      refine lv_iload_n hx hb dX3_errorPosition_6 rfl (lv_at hl 0 rfl) ?_
      refine lv_aload_n hx hb dX3_errorPosition_7 rfl (lv_at hl 3 rfl) ?_
      refine jg_3_0 jc jw ho wd_3_235 dX3_errorPosition_8 ?_
      have k5 := j_sub hY ho 0 (f := 4) rfl (by decide) (by decide) (by decide)
      refine jc_vi [] [.int vv4] jc jw hA k5 (by decide) rfl (c_X4_size hY k5 (M := M) rfl) sd_X3_30 rfl hl.1 (j_hR hRf hRl rfl rfl) (Nat.le_of_ble_eq_true rfl) dX3_errorPosition_11 (fun H locs jw => ?_)
      refine lv_icmp_ge (tgt := 71) hx hb dX3_errorPosition_14 (by decide) (fun c6 => ?_) (fun c6 => ?_)
      · rw [if_pos c6] at hE
        exact E1_71 vv2  H locs ls hE jw (lv_sub hl [2, 3] rfl)
      · rw [if_neg c6] at hE
        refine lv_aload_n hx hb dX3_errorPosition_17 rfl (lv_at hl 3 rfl) ?_
        refine jg_3_0 jc jw ho wd_3_235 dX3_errorPosition_18 ?_
        refine lv_iload_n hx hb dX3_errorPosition_21 rfl (lv_at hl 0 rfl) ?_
        refine jc_vi [.int vv4] [] jc jw hA k5 (by decide) rfl (c_X4_at hY k5 (M := M) rfl) sd_X3_37 rfl hl.1 (j_hR hRf hRl rfl rfl) (Nat.le_of_ble_eq_true rfl) dX3_errorPosition_22 (fun H locs jw => ?_)
        refine lv_topi (fun vv7 evv7 => ?_)
        replace hE := j_lu hE evv7
        try dsimp only at hE
        refine lv_istore (lv' := [(4, .int vv7), (3, .int vv4), (2, .int vv3), (1, .int vv2), (0, .ref (ad o))]) hx hb dX3_errorPosition_25 hl (by decide) rfl (fun ls hl => ?_)
        refine lv_iload_n hx hb dX3_errorPosition_27 rfl (lv_at hl 2 rfl) ?_
        refine lv_iload hx hb dX3_errorPosition_28 (lv_at hl 0 rfl) ?_
        refine lv_iload_n hx hb dX3_errorPosition_30 rfl (lv_at hl 3 rfl) ?_
        refine jc_sz [.int vv3, .int vv7, .int vv2] [] jc jw hA (c_X3_mayFollow hY  (M := M) rfl) sd_X3_41 rfl hl.1 (j_hR hRf hRl rfl rfl) (Nat.le_of_ble_eq_true rfl) dX3_errorPosition_31 (fun H locs jw hz => ?_)
        have z_8 := hz
        refine lv_if_ne (tgt := 39) hx hb dX3_errorPosition_34 (by decide) (fun c9 => ?_) (fun c9 => ?_)
        · rw [if_neg c9] at hE
          refine lv_iload hx hb dX3_errorPosition_39 (lv_at hl 0 rfl) ?_
          refine lv_bipush (v := 40) hx hb dX3_errorPosition_41 (by decide) ?_
          obtain ⟨G11, eG11, hE⟩ := j_ctxL hE
          have J11 : ∀ (vv15 : Int32)  (H : Heap) (locs : List Loc) (ls : Array Slot), G11 (vv15) = some r → JW D Y ty ad A s.heap M H locs → lv_has ls 5 [(4, .int vv7), (3, .int vv4), (1, .int vv15), (0, .ref (ad o))] → W p l e R s m args below meth c H locs 0 0 Q (F0 m 62 ls []) := by
            intro vv15  H locs ls hE jw hl
            replace hE := j_popL eG11 hE
            try dsimp only at hE
            refine lv_iload hx hb dX3_errorPosition_62 (lv_at hl 0 rfl) ?_
            refine lv_istore_n (lv' := [(2, .int vv7), (4, .int vv7), (3, .int vv4), (1, .int vv15), (0, .ref (ad o))]) hx hb dX3_errorPosition_64 rfl hl (by decide) rfl (fun ls hl => ?_)
            obtain ⟨vv16, evv16, hE⟩ := j_lv hE
            try dsimp only at hE
            refine lv_iinc (v := vv16) (lv' := [(3, .int vv16), (2, .int vv7), (4, .int vv7), (1, .int vv15), (0, .ref (ad o))]) hx hb dX3_errorPosition_65 hl (k := 2) rfl (by rw [evv16]; rfl) (by decide) rfl (fun ls hl => ?_)
            refine lv_goto (tgt := 6) hx hb dX3_errorPosition_68 (by decide) ?_
            exact ih vv15 vv7 vv16 H locs ls hE jw (lv_sub hl [0, 1, 3, 4] rfl)
          refine lv_icmp_ne (tgt := 52) hx hb dX3_errorPosition_43 (by decide) (fun c10 => ?_) (fun c10 => ?_)
          · rw [if_neg c10] at hE
            refine lv_iload hx hb dX3_errorPosition_52 (lv_at hl 0 rfl) ?_
            refine lv_bipush (v := 41) hx hb dX3_errorPosition_54 (by decide) ?_
            refine lv_icmp_ne (tgt := 62) hx hb dX3_errorPosition_56 (by decide) (fun c13 => ?_) (fun c13 => ?_)
            · rw [if_neg c13] at hE
              exact J11 vv2  H locs ls hE jw (lv_sub hl [0, 1, 3, 4] rfl)
            · rw [if_pos c13] at hE
              obtain ⟨vv14, evv14, hE⟩ := j_lv hE
              try dsimp only at hE
              refine lv_iinc (v := vv14) (lv' := [(1, .int vv14), (4, .int vv7), (3, .int vv4), (2, .int vv3), (0, .ref (ad o))]) hx hb dX3_errorPosition_59 hl (k := 3) rfl (by rw [evv14]; rfl) (by decide) rfl (fun ls hl => ?_)
              exact J11 vv14  H locs ls hE jw (lv_sub hl [1, 2, 0, 4] rfl)
          · rw [if_pos c10] at hE
            obtain ⟨vv12, evv12, hE⟩ := j_lv hE
            try dsimp only at hE
            refine lv_iinc (v := vv12) (lv' := [(1, .int vv12), (4, .int vv7), (3, .int vv4), (2, .int vv3), (0, .ref (ad o))]) hx hb dX3_errorPosition_46 hl (k := 3) rfl (by rw [evv12]; rfl) (by decide) rfl (fun ls hl => ?_)
            refine lv_goto (tgt := 62) hx hb dX3_errorPosition_49 (by decide) ?_
            exact J11 vv12  H locs ls hE jw (lv_sub hl [1, 2, 0, 4] rfl)
        · rw [if_pos c9] at hE
          refine lv_iload_n hx hb dX3_errorPosition_37 rfl (lv_at hl 1 rfl) ?_
          replace hE := j_popB eG1 hE
          try dsimp only at hE
          exact kr _ _ _ _ _ _ (Option.some.inj (j_ret eG0 hE)) rfl jw dX3_errorPosition_38
  exact LP1 j_fuel (0 : Int32) (-1 : Int32) (0 : Int32) s.heap [] ls hE jw (lv_sub hl [0, 1, 2, 3] rfl)
def lp_X3_repeatEnd_1 (Y : JY) (p3 : Int32) (q1 : Nat) (p2 : Int32) (vv1 : Int32) (n : Nat) (vv4 : Int32) (mm5 : JM) : Option (Int32 × JM) := match n with
  | 0 => none
  | n + 1 => if p3 ≤ vv4 then (some ((1 : Int32), mm5)) else ((s_X4_pushPart Y mm5 q1 q1 p2 vv1).bind fun xx7 => lt_ (vv4 + (1 : Int32)) fun vv8 => lp_X3_repeatEnd_1 Y p3 q1 p2 vv1 n vv8 xx7)
def s_X3_repeatEnd (Y : JY) (M : JM) (q1 : Nat) (p2 : Int32) (p3 : Int32) : Option (Int32 × JM) := lt_ (s_X4_size Y M q1) fun vv1 => if (p2 + ((vv1 - p2) * p3)) ≤ (24 : Int32) then ((lp_X3_repeatEnd_1 Y p3 q1 p2 vv1 j_fuel (1 : Int32) M).bind fun xx9 => some (xx9.1, xx9.2)) else (some ((0 : Int32), M))
set_option maxRecDepth 100000 in
set_option maxHeartbeats 4000000 in
theorem c_X3_repeatEnd {D : va_G} {Y : JY} {ty : Nat → ClassId} {ad : Nat → Nat} {sz : Nat} {l : Launch} {M : JM} (hY : j_ok Y) {q1 : Nat} {p2 : Int32} {p3 : Int32} (hq1 : j_kd Y q1 = 4) {r : Int32 × JM} (hE : s_X3_repeatEnd Y M q1 p2 p3 = some r) : JMz D Y ty ad sz l yX3_repeatEnd cX3_repeatEnd 5 2 45 [.ref (ad q1), .int p2, .int p3] M r.1 r.2 := by
  refine j_ofZ hY (by decide +kernel) (Nat.le_of_ble_eq_true rfl) (fun p e s m below meth c args R Q A hRf hRl hA jc jw kr ls hl => ?_)
  have hx := jc.1
  have hb := jc.2.1
  have hl : lv_has ls 5 [(0, .ref (ad q1)), (1, .int p2), (2, .int p3)] := hl
  unfold s_X3_repeatEnd at hE
  obtain ⟨G0, eG0, hG0, hE⟩ := j_F0o hE
  refine lv_aload_n hx hb dX3_repeatEnd_0 rfl (lv_at hl 0 rfl) ?_
  refine jc_vi [] [] jc jw hA hq1 (by decide) rfl (c_X4_size hY hq1 (M := M) rfl) sd_X3_30 rfl hl.1 (j_hR hRf hRl rfl rfl) (Nat.le_of_ble_eq_true rfl) dX3_repeatEnd_1 (fun H locs jw => ?_)
  refine lv_topi (fun vv1 evv1 => ?_)
  replace hE := j_lu hE evv1
  try dsimp only at hE
  refine lv_istore_n (lv' := [(3, .int vv1), (0, .ref (ad q1)), (1, .int p2), (2, .int p3)]) hx hb dX3_repeatEnd_4 rfl hl (by decide) rfl (fun ls hl => ?_)
  refine lv_iload_n hx hb dX3_repeatEnd_5 rfl (lv_at hl 2 rfl) ?_
  refine lv_iload_n hx hb dX3_repeatEnd_6 rfl (lv_at hl 0 rfl) ?_
  refine lv_iload_n hx hb dX3_repeatEnd_7 rfl (lv_at hl 2 rfl) ?_
  refine lv_isub hx hb dX3_repeatEnd_8 ?_
  refine lv_iload_n hx hb dX3_repeatEnd_9 rfl (lv_at hl 3 rfl) ?_
  refine lv_imul hx hb dX3_repeatEnd_10 ?_
  refine lv_iadd hx hb dX3_repeatEnd_11 ?_
  refine lv_bipush (v := 24) hx hb dX3_repeatEnd_12 (by decide) ?_
  refine lv_icmp_le (tgt := 19) hx hb dX3_repeatEnd_14 (by decide) (fun c2 => ?_) (fun c2 => ?_)
  · rw [if_pos c2] at hE
    refine lv_iconst (v := 1) hx hb dX3_repeatEnd_19 (by decide) ?_
    refine lv_istore (lv' := [(4, .int (1 : Int32)), (3, .int vv1), (0, .ref (ad q1)), (1, .int p2), (2, .int p3)]) hx hb dX3_repeatEnd_20 hl (by decide) rfl (fun ls hl => ?_)
    obtain ⟨G3, eG3, hG3, hE⟩ := j_ctxB hG0 hE
    have LP3 : ∀ (n : Nat) (vv4 : Int32) (mm5 : JM) (H : Heap) (locs : List Loc) (ls : Array Slot), G3 (lp_X3_repeatEnd_1 Y p3 q1 p2 vv1 n vv4 mm5) = some r → JW D Y ty ad A s.heap mm5 H locs → lv_has ls 5 [(4, .int vv4), (3, .int vv1), (0, .ref (ad q1)), (1, .int p2), (2, .int p3)] → W p l e R s m args below meth c H locs 0 0 Q (F0 m 22 ls []) := by
      intro n
      induction n with
      | zero => intro vv4 mm5 H locs ls hE jw hl; exact absurd hE (hG3 _)
      | succ n ih =>
        intro vv4 mm5 H locs ls hE jw hl
        rw [lp_X3_repeatEnd_1] at hE
        refine lv_iload hx hb dX3_repeatEnd_22 (lv_at hl 0 rfl) ?_
        refine lv_iload_n hx hb dX3_repeatEnd_24 rfl (lv_at hl 4 rfl) ?_
        refine lv_icmp_ge (tgt := 41) hx hb dX3_repeatEnd_25 (by decide) (fun c6 => ?_) (fun c6 => ?_)
        · rw [if_pos c6] at hE
          refine lv_iconst (v := 1) hx hb dX3_repeatEnd_41 (by decide) ?_
          replace hE := j_popB eG3 hE
          try dsimp only at hE
          exact kr _ _ _ _ _ _ (j_fst (Option.some.inj (j_ret eG0 hE))) (j_snd (Option.some.inj (j_ret eG0 hE))) (by decide) jw dX3_repeatEnd_42
        · rw [if_neg c6] at hE
          refine lv_aload_n hx hb dX3_repeatEnd_28 rfl (lv_at hl 2 rfl) ?_
          refine lv_aload_n hx hb dX3_repeatEnd_29 rfl (lv_at hl 2 rfl) ?_
          refine lv_iload_n hx hb dX3_repeatEnd_30 rfl (lv_at hl 3 rfl) ?_
          refine lv_iload_n hx hb dX3_repeatEnd_31 rfl (lv_at hl 1 rfl) ?_
          obtain ⟨xx7, exx7, hE⟩ := j_bd hG3 hE
          try dsimp only at hE
          refine jc_vv [.ref (ad q1), .int p2, .int vv1] [] jc jw hA hq1 (by decide) rfl (c_X4_pushPart hY hq1 hq1 (M := mm5) exx7) sd_X3_59 rfl hl.1 (j_hR hRf hRl rfl rfl) (Nat.le_of_ble_eq_true rfl) dX3_repeatEnd_32 (fun H locs jw => ?_)
          obtain ⟨vv8, evv8, hE⟩ := j_lv hE
          try dsimp only at hE
          refine lv_iinc (v := vv8) (lv' := [(4, .int vv8), (3, .int vv1), (0, .ref (ad q1)), (1, .int p2), (2, .int p3)]) hx hb dX3_repeatEnd_35 hl (k := 0) rfl (by rw [evv8]; rfl) (by decide) rfl (fun ls hl => ?_)
          refine lv_goto (tgt := 22) hx hb dX3_repeatEnd_38 (by decide) ?_
          exact ih vv8 xx7 H locs ls hE jw (lv_sub hl [0, 1, 2, 3, 4] rfl)
    exact LP3 j_fuel (1 : Int32) M H locs ls hE jw (lv_sub hl [0, 1, 2, 3, 4] rfl)
  · rw [if_neg c2] at hE
    refine lv_iconst (v := 0) hx hb dX3_repeatEnd_17 (by decide) ?_
    exact kr _ _ _ _ _ _ (j_fst (Option.some.inj (j_ret eG0 hE))) (j_snd (Option.some.inj (j_ret eG0 hE))) (by decide) jw dX3_repeatEnd_18
def lp_X3_expandInto_1 (Y : JY) (o : Nat) (q1 : Nat) (n : Nat) (vv5 : Int32) (vv6 : Int32) (mm7 : JM) : Option (Int32 × JM) := match n with
  | 0 => none
  | n + 1 => if (s_X4_size Y mm7 (j_rf Y o 0)) ≤ vv6 then (some ((1 : Int32), mm7)) else (lt_ (s_X4_at Y mm7 (j_rf Y o 0) vv6) fun vv10 => (if vv10 = (40 : Int32) then (lt_ (s_X4_push Y mm7 (j_rf Y o 1) (s_X4_size Y mm7 q1)) fun xx13 => some (Sum.inl (vv5, (1 : Int32), xx13))) else (if vv10 = (41 : Int32) then ((s_X4_removeAt Y mm7 (j_rf Y o 1) ((s_X4_size Y mm7 (j_rf Y o 1)) - (1 : Int32))).bind fun xx15 => lt_ xx15.1 fun vv16 => some (Sum.inl (vv16, (1 : Int32), xx15.2))) else (if (s_X3_isLetter Y mm7 vv10) = 0 then (lt_ (vv10 - (48 : Int32)) fun vv19 => some (Sum.inl (vv5, vv19, mm7))) else (lt_ (s_X4_size Y mm7 q1) fun vv20 => if (s_X4_isFull Y mm7 q1) = 0 then (lt_ (s_X4_push Y mm7 q1 (vv10 - (97 : Int32))) fun xx23 => some (Sum.inl (vv20, (1 : Int32), xx23))) else (some (Sum.inr ((0 : Int32), mm7))))))).bind fun xx31 => match xx31 with | Sum.inl yy31 => ((s_X3_repeatEnd Y yy31.2.2 q1 yy31.1 yy31.2.1).bind fun xx27 => if xx27.1 = 0 then (some ((0 : Int32), xx27.2)) else (lt_ (vv6 + (1 : Int32)) fun vv30 => lp_X3_expandInto_1 Y o q1 n yy31.1 vv30 xx27.2)) | Sum.inr yy31 => (some (yy31.1, yy31.2)))
def s_X3_expandInto (Y : JY) (M : JM) (o : Nat) (q1 : Nat) : Option (Int32 × JM) := lt_ (s_X4_clear Y M q1) fun xx1 => lt_ (s_X4_clear Y xx1 (j_rf Y o 1)) fun xx3 => (lp_X3_expandInto_1 Y o q1 j_fuel (0 : Int32) (0 : Int32) xx3).bind fun xx32 => some (xx32.1, xx32.2)
set_option maxRecDepth 100000 in
set_option maxHeartbeats 4000000 in
theorem c_X3_expandInto {D : va_G} {Y : JY} {ty : Nat → ClassId} {ad : Nat → Nat} {sz : Nat} {l : Launch} {M : JM} (hY : j_ok Y) {o : Nat} {q1 : Nat} (ho : j_kd Y o = 3) (hq1 : j_kd Y q1 = 4) {r : Int32 × JM} (hE : s_X3_expandInto Y M o q1 = some r) : JMz D Y ty ad sz l yX3_expandInto cX3_expandInto 6 3 69 [.ref (ad o), .ref (ad q1)] M r.1 r.2 := by
  refine j_ofZ hY (by decide +kernel) (Nat.le_of_ble_eq_true rfl) (fun p e s m below meth c args R Q A hRf hRl hA jc jw kr ls hl => ?_)
  have hx := jc.1
  have hb := jc.2.1
  have hl : lv_has ls 6 [(0, .ref (ad o)), (1, .ref (ad q1))] := hl
  unfold s_X3_expandInto at hE
  obtain ⟨G0, eG0, hG0, hE⟩ := j_F0o hE
  refine lv_aload_n hx hb dX3_expandInto_0 rfl (lv_at hl 1 rfl) ?_
  obtain ⟨xx1, exx1, hE⟩ := j_lv hE
  try dsimp only at hE
  refine jc_vv [] [] jc jw hA hq1 (by decide) rfl (c_X4_clear hY hq1 (M := M) exx1.symm) sd_X3_34 rfl hl.1 (j_hR hRf hRl rfl rfl) (Nat.le_of_ble_eq_true rfl) dX3_expandInto_1 (fun H locs jw => ?_)
  refine lv_aload_n hx hb dX3_expandInto_4 rfl (lv_at hl 0 rfl) ?_
  refine jg_3_1 jc jw ho wd_3_236 dX3_expandInto_5 ?_
  have k2 := j_sub hY ho 1 (f := 4) rfl (by decide) (by decide) (by decide)
  obtain ⟨xx3, exx3, hE⟩ := j_lv hE
  try dsimp only at hE
  refine jc_vv [] [] jc jw hA k2 (by decide) rfl (c_X4_clear hY k2 (M := xx1) exx3.symm) sd_X3_34 rfl hl.1 (j_hR hRf hRl rfl rfl) (Nat.le_of_ble_eq_true rfl) dX3_expandInto_8 (fun H locs jw => ?_)
  refine lv_iconst (v := 0) hx hb dX3_expandInto_11 (by decide) ?_
  refine lv_istore_n (lv' := [(2, .int (0 : Int32)), (0, .ref (ad o)), (1, .ref (ad q1))]) hx hb dX3_expandInto_12 rfl hl (by decide) rfl (fun ls hl => ?_)
  refine lv_iconst (v := 0) hx hb dX3_expandInto_13 (by decide) ?_
  refine lv_istore_n (lv' := [(3, .int (0 : Int32)), (2, .int (0 : Int32)), (0, .ref (ad o)), (1, .ref (ad q1))]) hx hb dX3_expandInto_14 rfl hl (by decide) rfl (fun ls hl => ?_)
  obtain ⟨G4, eG4, hG4, hE⟩ := j_ctxB hG0 hE
  have LP4 : ∀ (n : Nat) (vv5 : Int32) (vv6 : Int32) (mm7 : JM) (H : Heap) (locs : List Loc) (ls : Array Slot), G4 (lp_X3_expandInto_1 Y o q1 n vv5 vv6 mm7) = some r → JW D Y ty ad A s.heap mm7 H locs → lv_has ls 6 [(3, .int vv6), (2, .int vv5), (0, .ref (ad o)), (1, .ref (ad q1))] → W p l e R s m args below meth c H locs 0 0 Q (F0 m 15 ls []) := by
    intro n
    induction n with
    | zero => intro vv5 vv6 mm7 H locs ls hE jw hl; exact absurd hE (hG4 _)
    | succ n ih =>
      intro vv5 vv6 mm7 H locs ls hE jw hl
      rw [lp_X3_expandInto_1] at hE
      refine lv_iload_n hx hb dX3_expandInto_15 rfl (lv_at hl 0 rfl) ?_
      refine lv_aload_n hx hb dX3_expandInto_16 rfl (lv_at hl 2 rfl) ?_
      refine jg_3_0 jc jw ho wd_3_235 dX3_expandInto_17 ?_
      have k8 := j_sub hY ho 0 (f := 4) rfl (by decide) (by decide) (by decide)
      refine jc_vi [] [.int vv6] jc jw hA k8 (by decide) rfl (c_X4_size hY k8 (M := mm7) rfl) sd_X3_30 rfl hl.1 (j_hR hRf hRl rfl rfl) (Nat.le_of_ble_eq_true rfl) dX3_expandInto_20 (fun H locs jw => ?_)
      refine lv_icmp_ge (tgt := 146) hx hb dX3_expandInto_23 (by decide) (fun c9 => ?_) (fun c9 => ?_)
      · rw [if_pos c9] at hE
        refine lv_iconst (v := 1) hx hb dX3_expandInto_146 (by decide) ?_
        replace hE := j_popB eG4 hE
        try dsimp only at hE
        exact kr _ _ _ _ _ _ (j_fst (Option.some.inj (j_ret eG0 hE))) (j_snd (Option.some.inj (j_ret eG0 hE))) (by decide) jw dX3_expandInto_147
      · rw [if_neg c9] at hE
        refine lv_aload_n hx hb dX3_expandInto_26 rfl (lv_at hl 2 rfl) ?_
        refine jg_3_0 jc jw ho wd_3_235 dX3_expandInto_27 ?_
        refine lv_iload_n hx hb dX3_expandInto_30 rfl (lv_at hl 0 rfl) ?_
        refine jc_vi [.int vv6] [] jc jw hA k8 (by decide) rfl (c_X4_at hY k8 (M := mm7) rfl) sd_X3_37 rfl hl.1 (j_hR hRf hRl rfl rfl) (Nat.le_of_ble_eq_true rfl) dX3_expandInto_31 (fun H locs jw => ?_)
        refine lv_topi (fun vv10 evv10 => ?_)
        replace hE := j_lu hE evv10
        try dsimp only at hE
        refine lv_istore (lv' := [(4, .int vv10), (3, .int vv6), (2, .int vv5), (0, .ref (ad o)), (1, .ref (ad q1))]) hx hb dX3_expandInto_34 hl (by decide) rfl (fun ls hl => ?_)
        refine lv_iconst (v := 1) hx hb dX3_expandInto_36 (by decide) ?_
        refine lv_istore (lv' := [(5, .int (1 : Int32)), (4, .int vv10), (3, .int vv6), (2, .int vv5), (0, .ref (ad o)), (1, .ref (ad q1))]) hx hb dX3_expandInto_37 hl (by decide) rfl (fun ls hl => ?_)
        refine lv_iload hx hb dX3_expandInto_39 (lv_at hl 1 rfl) ?_
        refine lv_bipush (v := 40) hx hb dX3_expandInto_41 (by decide) ?_
        obtain ⟨G12, eG12, hG12, hE⟩ := j_ctxB hG4 hE
        have J12 : ∀ (vv24 : Int32) (vv25 : Int32) (mm26 : JM)  (H : Heap) (locs : List Loc) (ls : Array Slot), G12 (some (Sum.inl (vv24, vv25, mm26))) = some r → JW D Y ty ad A s.heap mm26 H locs → lv_has ls 6 [(5, .int vv25), (3, .int vv6), (2, .int vv24), (0, .ref (ad o)), (1, .ref (ad q1))] → W p l e R s m args below meth c H locs 0 0 Q (F0 m 128 ls []) := by
          intro vv24 vv25 mm26  H locs ls hE jw hl
          replace hE := j_popB eG12 hE
          try dsimp only at hE
          refine lv_aload_n hx hb dX3_expandInto_128 rfl (lv_at hl 4 rfl) ?_
          refine lv_iload_n hx hb dX3_expandInto_129 rfl (lv_at hl 2 rfl) ?_
          refine lv_iload hx hb dX3_expandInto_130 (lv_at hl 0 rfl) ?_
          obtain ⟨xx27, exx27, hE⟩ := j_bd hG4 hE
          try dsimp only at hE
          refine jc_sz [.ref (ad q1), .int vv24, .int vv25] [] jc jw hA (c_X3_repeatEnd hY hq1 (M := mm26) exx27) sd_X3_55 rfl hl.1 (j_hR hRf hRl rfl rfl) (Nat.le_of_ble_eq_true rfl) dX3_expandInto_132 (fun H locs jw hz => ?_)
          have z_28 := hz
          refine lv_if_ne (tgt := 140) hx hb dX3_expandInto_135 (by decide) (fun c29 => ?_) (fun c29 => ?_)
          · rw [if_neg c29] at hE
            obtain ⟨vv30, evv30, hE⟩ := j_lv hE
            try dsimp only at hE
            refine lv_iinc (v := vv30) (lv' := [(3, .int vv30), (5, .int vv25), (2, .int vv24), (0, .ref (ad o)), (1, .ref (ad q1))]) hx hb dX3_expandInto_140 hl (k := 1) rfl (by rw [evv30]; rfl) (by decide) rfl (fun ls hl => ?_)
            refine lv_goto (tgt := 15) hx hb dX3_expandInto_143 (by decide) ?_
            exact ih vv24 vv30 xx27.2 H locs ls hE jw (lv_sub hl [0, 2, 3, 4] rfl)
          · rw [if_pos c29] at hE
            refine lv_iconst (v := 0) hx hb dX3_expandInto_138 (by decide) ?_
            replace hE := j_popB eG4 hE
            try dsimp only at hE
            exact kr _ _ _ _ _ _ (j_fst (Option.some.inj (j_ret eG0 hE))) (j_snd (Option.some.inj (j_ret eG0 hE))) (by decide) jw dX3_expandInto_139
        refine lv_icmp_ne (tgt := 60) hx hb dX3_expandInto_43 (by decide) (fun c11 => ?_) (fun c11 => ?_)
        · rw [if_neg c11] at hE
          refine lv_iload hx hb dX3_expandInto_60 (lv_at hl 1 rfl) ?_
          refine lv_bipush (v := 41) hx hb dX3_expandInto_62 (by decide) ?_
          refine lv_icmp_ne (tgt := 87) hx hb dX3_expandInto_64 (by decide) (fun c14 => ?_) (fun c14 => ?_)
          · rw [if_neg c14] at hE
            refine lv_iload hx hb dX3_expandInto_87 (lv_at hl 1 rfl) ?_
            refine jc_sz [.int vv10] [] jc jw hA (c_X3_isLetter hY  (M := mm7) rfl) sd_X3_49 rfl hl.1 (j_hR hRf hRl rfl rfl) (Nat.le_of_ble_eq_true rfl) dX3_expandInto_89 (fun H locs jw hz => ?_)
            have z_17 := hz
            refine lv_if_eq (tgt := 121) hx hb dX3_expandInto_92 (by decide) (fun c18 => ?_) (fun c18 => ?_)
            · rw [if_pos c18] at hE
              refine lv_iload hx hb dX3_expandInto_121 (lv_at hl 1 rfl) ?_
              refine lv_bipush (v := 48) hx hb dX3_expandInto_123 (by decide) ?_
              refine lv_isub hx hb dX3_expandInto_125 ?_
              refine lv_topi (fun vv19 evv19 => ?_)
              replace hE := j_lu hE evv19
              try dsimp only at hE
              refine lv_istore (lv' := [(5, .int vv19), (4, .int vv10), (3, .int vv6), (2, .int vv5), (0, .ref (ad o)), (1, .ref (ad q1))]) hx hb dX3_expandInto_126 hl (by decide) rfl (fun ls hl => ?_)
              exact J12 vv5 vv19 mm7  H locs ls hE jw (lv_sub hl [0, 2, 3, 4, 5] rfl)
            · rw [if_neg c18] at hE
              refine lv_aload_n hx hb dX3_expandInto_95 rfl (lv_at hl 5 rfl) ?_
              refine jc_vi [] [] jc jw hA hq1 (by decide) rfl (c_X4_size hY hq1 (M := mm7) rfl) sd_X3_30 rfl hl.1 (j_hR hRf hRl rfl rfl) (Nat.le_of_ble_eq_true rfl) dX3_expandInto_96 (fun H locs jw => ?_)
              refine lv_topi (fun vv20 evv20 => ?_)
              replace hE := j_lu hE evv20
              try dsimp only at hE
              refine lv_istore_n (lv' := [(2, .int vv20), (5, .int (1 : Int32)), (4, .int vv10), (3, .int vv6), (0, .ref (ad o)), (1, .ref (ad q1))]) hx hb dX3_expandInto_99 rfl hl (by decide) rfl (fun ls hl => ?_)
              refine lv_aload_n hx hb dX3_expandInto_100 rfl (lv_at hl 5 rfl) ?_
              refine jc_vz [] [] jc jw hA hq1 (by decide) rfl (c_X4_isFull hY hq1 (M := mm7) rfl) sd_X3_23 rfl hl.1 (j_hR hRf hRl rfl rfl) (Nat.le_of_ble_eq_true rfl) dX3_expandInto_101 (fun H locs jw hz => ?_)
              have z_21 := hz
              refine lv_if_eq (tgt := 109) hx hb dX3_expandInto_104 (by decide) (fun c22 => ?_) (fun c22 => ?_)
              · rw [if_pos c22] at hE
                refine lv_aload_n hx hb dX3_expandInto_109 rfl (lv_at hl 5 rfl) ?_
                refine lv_iload hx hb dX3_expandInto_110 (lv_at hl 2 rfl) ?_
                refine lv_bipush (v := 97) hx hb dX3_expandInto_112 (by decide) ?_
                refine lv_isub hx hb dX3_expandInto_114 ?_
                obtain ⟨xx23, exx23, hE⟩ := j_lv hE
                try dsimp only at hE
                refine jc_vv [.int (vv10 - (97 : Int32))] [] jc jw hA hq1 (by decide) rfl (c_X4_push hY hq1 (M := mm7) exx23.symm) sd_X3_27 rfl hl.1 (j_hR hRf hRl rfl rfl) (Nat.le_of_ble_eq_true rfl) dX3_expandInto_115 (fun H locs jw => ?_)
                refine lv_goto (tgt := 128) hx hb dX3_expandInto_118 (by decide) ?_
                exact J12 vv20 (1 : Int32) xx23  H locs ls hE jw (lv_sub hl [1, 3, 0, 4, 5] rfl)
              · rw [if_neg c22] at hE
                refine lv_iconst (v := 0) hx hb dX3_expandInto_107 (by decide) ?_
                replace hE := j_popB eG12 hE
                try dsimp only at hE
                replace hE := j_popB eG4 hE
                try dsimp only at hE
                exact kr _ _ _ _ _ _ (j_fst (Option.some.inj (j_ret eG0 hE))) (j_snd (Option.some.inj (j_ret eG0 hE))) (by decide) jw dX3_expandInto_108
          · rw [if_pos c14] at hE
            refine lv_aload_n hx hb dX3_expandInto_67 rfl (lv_at hl 4 rfl) ?_
            refine jg_3_1 jc jw ho wd_3_236 dX3_expandInto_68 ?_
            refine lv_aload_n hx hb dX3_expandInto_71 rfl (lv_at hl 4 rfl) ?_
            refine jg_3_1 jc jw ho wd_3_236 dX3_expandInto_72 ?_
            refine jc_vi [] [.ref (ad (j_rf Y o 1))] jc jw hA k2 (by decide) rfl (c_X4_size hY k2 (M := mm7) rfl) sd_X3_30 rfl hl.1 (j_hR hRf hRl rfl rfl) (Nat.le_of_ble_eq_true rfl) dX3_expandInto_75 (fun H locs jw => ?_)
            refine lv_iconst (v := 1) hx hb dX3_expandInto_78 (by decide) ?_
            refine lv_isub hx hb dX3_expandInto_79 ?_
            obtain ⟨xx15, exx15, hE⟩ := j_bd hG12 hE
            try dsimp only at hE
            refine jc_vi [.int ((s_X4_size Y mm7 (j_rf Y o 1)) - (1 : Int32))] [] jc jw hA k2 (by decide) rfl (c_X4_removeAt hY k2 (M := mm7) exx15) sd_X3_52 rfl hl.1 (j_hR hRf hRl rfl rfl) (Nat.le_of_ble_eq_true rfl) dX3_expandInto_80 (fun H locs jw => ?_)
            refine lv_topi (fun vv16 evv16 => ?_)
            replace hE := j_lu hE evv16
            try dsimp only at hE
            refine lv_istore_n (lv' := [(2, .int vv16), (5, .int (1 : Int32)), (4, .int vv10), (3, .int vv6), (0, .ref (ad o)), (1, .ref (ad q1))]) hx hb dX3_expandInto_83 rfl hl (by decide) rfl (fun ls hl => ?_)
            refine lv_goto (tgt := 128) hx hb dX3_expandInto_84 (by decide) ?_
            exact J12 vv16 (1 : Int32) xx15.2  H locs ls hE jw (lv_sub hl [1, 3, 0, 4, 5] rfl)
        · rw [if_pos c11] at hE
          refine lv_aload_n hx hb dX3_expandInto_46 rfl (lv_at hl 4 rfl) ?_
          refine jg_3_1 jc jw ho wd_3_236 dX3_expandInto_47 ?_
          refine lv_aload_n hx hb dX3_expandInto_50 rfl (lv_at hl 5 rfl) ?_
          refine jc_vi [] [.ref (ad (j_rf Y o 1))] jc jw hA hq1 (by decide) rfl (c_X4_size hY hq1 (M := mm7) rfl) sd_X3_30 rfl hl.1 (j_hR hRf hRl rfl rfl) (Nat.le_of_ble_eq_true rfl) dX3_expandInto_51 (fun H locs jw => ?_)
          obtain ⟨xx13, exx13, hE⟩ := j_lv hE
          try dsimp only at hE
          refine jc_vv [.int (s_X4_size Y mm7 q1)] [] jc jw hA k2 (by decide) rfl (c_X4_push hY k2 (M := mm7) exx13.symm) sd_X3_27 rfl hl.1 (j_hR hRf hRl rfl rfl) (Nat.le_of_ble_eq_true rfl) dX3_expandInto_54 (fun H locs jw => ?_)
          refine lv_goto (tgt := 128) hx hb dX3_expandInto_57 (by decide) ?_
          exact J12 vv5 (1 : Int32) xx13  H locs ls hE jw (lv_sub hl [0, 2, 3, 4, 5] rfl)
  exact LP4 j_fuel (0 : Int32) (0 : Int32) xx3 H locs ls hE jw (lv_sub hl [0, 1, 2, 3] rfl)

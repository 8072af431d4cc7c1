def s_X8_rows (Y : JY) (M : JM) (o : Nat) : Int32 := (M o 2)
set_option maxRecDepth 100000 in
set_option maxHeartbeats 4000000 in
theorem c_X8_rows {D : va_G} {Y : JY} {ty : Nat → ClassId} {ad : Nat → Nat} {sz : Nat} {l : Launch} {M : JM} (hY : j_ok Y) {o : Nat} (ho : j_kd Y o = 8) {r : Int32} (hE : s_X8_rows Y M o = r) : JMi D Y ty ad sz l yX8_rows cX8_rows 1 (some .int) 0 0 [.ref (ad o)] M r M := by
  refine j_ofI hY (by decide +kernel) (Nat.le_of_ble_eq_true rfl) (fun p e s m below meth c args R Q A hRf hRl hA jc jw kr ls hl => ?_)
  have hx := jc.1
  have hb := jc.2.1
  have hl : lv_has ls 1 [(0, .ref (ad o))] := hl
  unfold s_X8_rows at hE
  obtain ⟨G0, eG0, hE⟩ := j_F0 hE
  refine lv_aload_n hx hb dX8_rows_0 rfl (lv_at hl 0 rfl) ?_
  refine jg_8_2 jc jw ho wd_4_19 dX8_rows_1 ?_
  exact kr _ _ _ _ _ _ (j_ret eG0 hE) rfl jw dX8_rows_4
def s_X8_hasRow (Y : JY) (M : JM) (o : Nat) (p1 : Int32) : Int32 := if p1 < 0 ∨ (M o 2) ≤ p1 then ((0 : Int32)) else ((1 : Int32))
set_option maxRecDepth 100000 in
set_option maxHeartbeats 4000000 in
theorem c_X8_hasRow {D : va_G} {Y : JY} {ty : Nat → ClassId} {ad : Nat → Nat} {sz : Nat} {l : Launch} {M : JM} (hY : j_ok Y) {o : Nat} {p1 : Int32} (ho : j_kd Y o = 8) {r : Int32} (hE : s_X8_hasRow Y M o p1 = r) : JMz D Y ty ad sz l yX8_hasRow cX8_hasRow 2 0 0 [.ref (ad o), .int p1] M r M := by
  refine j_ofZ hY (by decide +kernel) (Nat.le_of_ble_eq_true rfl) (fun p e s m below meth c args R Q A hRf hRl hA jc jw kr ls hl => ?_)
  have hx := jc.1
  have hb := jc.2.1
  have hl : lv_has ls 2 [(0, .ref (ad o)), (1, .int p1)] := hl
  unfold s_X8_hasRow at hE
  obtain ⟨G0, eG0, hE⟩ := j_F0 hE
  refine lv_iload_n hx hb dX8_hasRow_0 rfl (lv_at hl 1 rfl) ?_
  have B3 : ∀ (H : Heap) (locs : List Loc), JW D Y ty ad A s.heap M H locs → (p1 < 0 ∨ (M o 2) ≤ p1) → W p l e R s m args below meth c H locs 0 0 Q (F0 m 16 ls []) := by
    intro H locs jw hcc
    rw [if_pos hcc] at hE
    refine lv_iconst (v := 0) hx hb dX8_hasRow_16 (by decide) ?_
    exact kr _ _ _ _ _ _ (j_ret eG0 hE) rfl (by decide) jw dX8_hasRow_17
  refine lv_if_lt (tgt := 16) hx hb dX8_hasRow_1 (by decide) (fun c1 => B3 _ _ jw (Or.inl c1)) (fun c1 => ?_)
  refine lv_iload_n hx hb dX8_hasRow_4 rfl (lv_at hl 1 rfl) ?_
  refine lv_aload_n hx hb dX8_hasRow_5 rfl (lv_at hl 0 rfl) ?_
  refine jg_8_2 jc jw ho wd_4_19 dX8_hasRow_6 ?_
  refine lv_icmp_ge (tgt := 16) hx hb dX8_hasRow_9 (by decide) (fun c2 => B3 _ _ jw (Or.inr c2)) (fun c2 => ?_)
  rw [if_neg (fun hq => hq.elim (fun hq => (j_abs c1 hq)) (fun hq => (j_abs c2 hq)))] at hE
  refine lv_iconst (v := 1) hx hb dX8_hasRow_12 (by decide) ?_
  refine lv_goto (tgt := 17) hx hb dX8_hasRow_13 (by decide) ?_
  exact kr _ _ _ _ _ _ (j_ret eG0 hE) rfl (by decide) jw dX8_hasRow_17
def s_X8_at (Y : JY) (M : JM) (o : Nat) (p1 : Int32) (p2 : Int32) : Int32 := lt_ ((p1 * (M o 1)) + p2) fun vv1 => lt_ (if p1 < 0 ∨ (M o 2) ≤ p1 ∨ p2 < 0 ∨ (M o 1) ≤ p2 then ((0 : Int32)) else ((1 : Int32))) fun xx14 => if xx14 = 0 ∨ vv1 < 0 ∨ (Int32.ofNat (j_ln Y (j_rf Y o 0))) ≤ vv1 then ((-1 : Int32)) else ((M (j_rf Y o 0) vv1.toNatClampNeg))
set_option maxRecDepth 100000 in
set_option maxHeartbeats 4000000 in
theorem c_X8_at {D : va_G} {Y : JY} {ty : Nat → ClassId} {ad : Nat → Nat} {sz : Nat} {l : Launch} {M : JM} (hY : j_ok Y) {o : Nat} {p1 : Int32} {p2 : Int32} (ho : j_kd Y o = 8) {r : Int32} (hE : s_X8_at Y M o p1 p2 = r) : JMi D Y ty ad sz l yX8_at cX8_at 5 (some .int) 0 0 [.ref (ad o), .int p1, .int p2] M r M := by
  refine j_ofI hY (by decide +kernel) (Nat.le_of_ble_eq_true rfl) (fun p e s m below meth c args R Q A hRf hRl hA jc jw kr ls hl => ?_)
  have hx := jc.1
  have hb := jc.2.1
  have hl : lv_has ls 5 [(0, .ref (ad o)), (1, .int p1), (2, .int p2)] := hl
  unfold s_X8_at at hE
  obtain ⟨G0, eG0, hE⟩ := j_F0 hE
  refine lv_iload_n hx hb dX8_at_0 rfl (lv_at hl 1 rfl) ?_
  refine lv_aload_n hx hb dX8_at_1 rfl (lv_at hl 0 rfl) ?_
  refine jg_8_1 jc jw ho wd_4_18 dX8_at_2 ?_
  refine lv_imul hx hb dX8_at_5 ?_
  refine lv_iload_n hx hb dX8_at_6 rfl (lv_at hl 2 rfl) ?_
  refine lv_iadd hx hb dX8_at_7 ?_
  refine lv_topi (fun vv1 evv1 => ?_)
  replace hE := j_lu hE evv1
  try dsimp only at hE
  refine lv_istore_n (lv' := [(3, .int vv1), (0, .ref (ad o)), (1, .int p1), (2, .int p2)]) hx hb dX8_at_8 rfl hl (by decide) rfl (fun ls hl => ?_)
  refine lv_iload_n hx hb dX8_at_9 rfl (lv_at hl 2 rfl) ?_
  obtain ⟨G6, eG6, hE⟩ := j_ctxL hE
  have J6 : ∀ (vv8 : Int32)  (H : Heap) (locs : List Loc) (ls : Array Slot), G6 (vv8) = r → JW D Y ty ad A s.heap M H locs → lv_has ls 5 [(3, .int vv1), (0, .ref (ad o))] → W p l e R s m args below meth c H locs 0 0 Q (F0 m 38 ls [.int vv8]) := by
    intro vv8  H locs ls hE jw hl
    replace hE := j_popL eG6 hE
    try dsimp only at hE
    refine lv_istore (lv' := [(4, .int vv8), (3, .int vv1), (0, .ref (ad o))]) hx hb dX8_at_38 hl (by decide) rfl (fun ls hl => ?_)
    refine lv_iload hx hb dX8_at_40 (lv_at hl 0 rfl) ?_
    have B13 : ∀ (H : Heap) (locs : List Loc), JW D Y ty ad A s.heap M H locs → (vv8 = 0 ∨ vv1 < 0 ∨ (Int32.ofNat (j_ln Y (j_rf Y o 0))) ≤ vv1) → W p l e R s m args below meth c H locs 0 0 Q (F0 m 67 ls []) := by
      intro H locs jw hcc
      rw [if_pos hcc] at hE
      refine lv_iconst (v := -1) hx hb dX8_at_67 (by decide) ?_
      exact kr _ _ _ _ _ _ (j_ret eG0 hE) rfl jw dX8_at_68
    refine lv_if_eq (tgt := 67) hx hb dX8_at_42 (by decide) (fun c9 => B13 _ _ jw (Or.inl c9)) (fun c9 => ?_)
    refine lv_iload_n hx hb dX8_at_45 rfl (lv_at hl 1 rfl) ?_
    refine lv_if_lt (tgt := 67) hx hb dX8_at_46 (by decide) (fun c10 => B13 _ _ jw (Or.inr (Or.inl c10))) (fun c10 => ?_)
    refine lv_iload_n hx hb dX8_at_49 rfl (lv_at hl 1 rfl) ?_
    refine lv_aload_n hx hb dX8_at_50 rfl (lv_at hl 2 rfl) ?_
    refine jg_8_0 jc jw ho wd_4_17 dX8_at_51 ?_
    have k11 := j_sub hY ho 0 (f := 100) rfl (by decide) (by decide) (by decide)
    refine jr_alen jc jw (Or.inl k11) dX8_at_54 ?_
    refine lv_icmp_ge (tgt := 67) hx hb dX8_at_55 (by decide) (fun c12 => B13 _ _ jw (Or.inr (Or.inr c12))) (fun c12 => ?_)
    rw [if_neg (fun hq => hq.elim (fun hq => (j_abs c9 hq)) (fun hq => hq.elim (fun hq => (j_abs c10 hq)) (fun hq => (j_abs c12 hq))))] at hE
    refine lv_aload_n hx hb dX8_at_58 rfl (lv_at hl 2 rfl) ?_
    refine jg_8_0 jc jw ho wd_4_17 dX8_at_59 ?_
    refine lv_iload_n hx hb dX8_at_62 rfl (lv_at hl 1 rfl) ?_
    refine jr_iald jc jw k11 (j_inN hY k11 (by decide) c10 c12) dX8_at_63 ?_
    refine lv_goto (tgt := 68) hx hb dX8_at_64 (by decide) ?_
    exact kr _ _ _ _ _ _ (j_ret eG0 hE) rfl jw dX8_at_68
  have B7 : ∀ (H : Heap) (locs : List Loc), JW D Y ty ad A s.heap M H locs → (p1 < 0 ∨ (M o 2) ≤ p1 ∨ p2 < 0 ∨ (M o 1) ≤ p2) → W p l e R s m args below meth c H locs 0 0 Q (F0 m 37 ls []) := by
    intro H locs jw hcc
    rw [if_pos hcc] at hE
    refine lv_iconst (v := 0) hx hb dX8_at_37 (by decide) ?_
    exact J6 (0 : Int32)  H locs ls hE jw (lv_sub hl [0, 1] rfl)
  refine lv_if_lt (tgt := 37) hx hb dX8_at_10 (by decide) (fun c2 => B7 _ _ jw (Or.inl c2)) (fun c2 => ?_)
  refine lv_iload_n hx hb dX8_at_13 rfl (lv_at hl 2 rfl) ?_
  refine lv_aload_n hx hb dX8_at_14 rfl (lv_at hl 1 rfl) ?_
  refine jg_8_2 jc jw ho wd_4_19 dX8_at_15 ?_
  refine lv_icmp_ge (tgt := 37) hx hb dX8_at_18 (by decide) (fun c3 => B7 _ _ jw (Or.inr (Or.inl c3))) (fun c3 => ?_)
  refine lv_iload_n hx hb dX8_at_21 rfl (lv_at hl 3 rfl) ?_
  refine lv_if_lt (tgt := 37) hx hb dX8_at_22 (by decide) (fun c4 => B7 _ _ jw (Or.inr (Or.inr (Or.inl c4)))) (fun c4 => ?_)
  refine lv_iload_n hx hb dX8_at_25 rfl (lv_at hl 3 rfl) ?_
  refine lv_aload_n hx hb dX8_at_26 rfl (lv_at hl 1 rfl) ?_
  refine jg_8_1 jc jw ho wd_4_18 dX8_at_27 ?_
  refine lv_icmp_ge (tgt := 37) hx hb dX8_at_30 (by decide) (fun c5 => B7 _ _ jw (Or.inr (Or.inr (Or.inr c5)))) (fun c5 => ?_)
  rw [if_neg (fun hq => hq.elim (fun hq => (j_abs c2 hq)) (fun hq => hq.elim (fun hq => (j_abs c3 hq)) (fun hq => hq.elim (fun hq => (j_abs c4 hq)) (fun hq => (j_abs c5 hq)))))] at hE
  refine lv_iconst (v := 1) hx hb dX8_at_33 (by decide) ?_
  refine lv_goto (tgt := 38) hx hb dX8_at_34 (by decide) ?_
  exact J6 (1 : Int32)  s.heap [] ls hE jw (lv_sub hl [0, 1] rfl)
def s_X8_put (Y : JY) (M : JM) (o : Nat) (p1 : Int32) (p2 : Int32) (p3 : Int32) : JM := lt_ ((p1 * (M o 1)) + p2) fun vv1 => lt_ (if p1 < 0 ∨ (M o 2) ≤ p1 ∨ p2 < 0 ∨ (M o 1) ≤ p2 then ((0 : Int32)) else ((1 : Int32))) fun xx15 => if xx15 = 0 ∨ vv1 < 0 ∨ (Int32.ofNat (j_ln Y (j_rf Y o 0))) ≤ vv1 then (M) else (lt_ (j_up M (j_rf Y o 0) vv1.toNatClampNeg p3) fun mm13 => mm13)
set_option maxRecDepth 100000 in
set_option maxHeartbeats 4000000 in
theorem c_X8_put {D : va_G} {Y : JY} {ty : Nat → ClassId} {ad : Nat → Nat} {sz : Nat} {l : Launch} {M : JM} (hY : j_ok Y) {o : Nat} {p1 : Int32} {p2 : Int32} {p3 : Int32} (ho : j_kd Y o = 8) {r : JM} (hE : s_X8_put Y M o p1 p2 p3 = r) : JMv D Y ty ad sz l yX8_put cX8_put 6 0 0 [.ref (ad o), .int p1, .int p2, .int p3] M r := by
  refine j_ofV hY (by decide +kernel) (Nat.le_of_ble_eq_true rfl) (fun p e s m below meth c args R Q A hRf hRl hA jc jw kr ls hl => ?_)
  have hx := jc.1
  have hb := jc.2.1
  have hl : lv_has ls 6 [(0, .ref (ad o)), (1, .int p1), (2, .int p2), (3, .int p3)] := hl
  unfold s_X8_put at hE
  obtain ⟨G0, eG0, hE⟩ := j_F0 hE
  refine lv_iload_n hx hb dX8_put_0 rfl (lv_at hl 1 rfl) ?_
  refine lv_aload_n hx hb dX8_put_1 rfl (lv_at hl 0 rfl) ?_
  refine jg_8_1 jc jw ho wd_4_18 dX8_put_2 ?_
  refine lv_imul hx hb dX8_put_5 ?_
  refine lv_iload_n hx hb dX8_put_6 rfl (lv_at hl 2 rfl) ?_
  refine lv_iadd hx hb dX8_put_7 ?_
  refine lv_topi (fun vv1 evv1 => ?_)
  replace hE := j_lu hE evv1
  try dsimp only at hE
  refine lv_istore (lv' := [(4, .int vv1), (0, .ref (ad o)), (1, .int p1), (2, .int p2), (3, .int p3)]) hx hb dX8_put_8 hl (by decide) rfl (fun ls hl => ?_)
  refine lv_iload_n hx hb dX8_put_10 rfl (lv_at hl 2 rfl) ?_
  obtain ⟨G6, eG6, hE⟩ := j_ctxL hE
  have J6 : ∀ (vv8 : Int32)  (H : Heap) (locs : List Loc) (ls : Array Slot), G6 (vv8) = r → JW D Y ty ad A s.heap M H locs → lv_has ls 6 [(4, .int vv1), (0, .ref (ad o)), (3, .int p3)] → W p l e R s m args below meth c H locs 0 0 Q (F0 m 39 ls [.int vv8]) := by
    intro vv8  H locs ls hE jw hl
    replace hE := j_popL eG6 hE
    try dsimp only at hE
    refine lv_istore (lv' := [(5, .int vv8), (4, .int vv1), (0, .ref (ad o)), (3, .int p3)]) hx hb dX8_put_39 hl (by decide) rfl (fun ls hl => ?_)
    refine lv_iload hx hb dX8_put_41 (lv_at hl 0 rfl) ?_
    have B14 : ∀ (H : Heap) (locs : List Loc), JW D Y ty ad A s.heap M H locs → (vv8 = 0 ∨ vv1 < 0 ∨ (Int32.ofNat (j_ln Y (j_rf Y o 0))) ≤ vv1) → W p l e R s m args below meth c H locs 0 0 Q (F0 m 69 ls []) := by
      intro H locs jw hcc
      rw [if_pos hcc] at hE
      exact kr _ _ _ _ _ (j_ret eG0 hE) jw dX8_put_69
    refine lv_if_eq (tgt := 69) hx hb dX8_put_43 (by decide) (fun c9 => B14 _ _ jw (Or.inl c9)) (fun c9 => ?_)
    refine lv_iload hx hb dX8_put_46 (lv_at hl 1 rfl) ?_
    refine lv_if_lt (tgt := 69) hx hb dX8_put_48 (by decide) (fun c10 => B14 _ _ jw (Or.inr (Or.inl c10))) (fun c10 => ?_)
    refine lv_iload hx hb dX8_put_51 (lv_at hl 1 rfl) ?_
    refine lv_aload_n hx hb dX8_put_53 rfl (lv_at hl 2 rfl) ?_
    refine jg_8_0 jc jw ho wd_4_17 dX8_put_54 ?_
    have k11 := j_sub hY ho 0 (f := 100) rfl (by decide) (by decide) (by decide)
    refine jr_alen jc jw (Or.inl k11) dX8_put_57 ?_
    refine lv_icmp_ge (tgt := 69) hx hb dX8_put_58 (by decide) (fun c12 => B14 _ _ jw (Or.inr (Or.inr c12))) (fun c12 => ?_)
    rw [if_neg (fun hq => hq.elim (fun hq => (j_abs c9 hq)) (fun hq => hq.elim (fun hq => (j_abs c10 hq)) (fun hq => (j_abs c12 hq))))] at hE
    refine lv_aload_n hx hb dX8_put_61 rfl (lv_at hl 2 rfl) ?_
    refine jg_8_0 jc jw ho wd_4_17 dX8_put_62 ?_
    refine lv_iload hx hb dX8_put_65 (lv_at hl 1 rfl) ?_
    refine lv_iload_n hx hb dX8_put_67 rfl (lv_at hl 3 rfl) ?_
    refine jr_iast jc jw k11 (j_inN hY k11 (by decide) c10 c12) dX8_put_68 (fun H locs jw => ?_)
    obtain ⟨mm13, emm13, hE⟩ := j_lv hE
    rw [← emm13] at jw
    try dsimp only at hE
    exact kr _ _ _ _ _ (j_ret eG0 hE) jw dX8_put_69
  have B7 : ∀ (H : Heap) (locs : List Loc), JW D Y ty ad A s.heap M H locs → (p1 < 0 ∨ (M o 2) ≤ p1 ∨ p2 < 0 ∨ (M o 1) ≤ p2) → W p l e R s m args below meth c H locs 0 0 Q (F0 m 38 ls []) := by
    intro H locs jw hcc
    rw [if_pos hcc] at hE
    refine lv_iconst (v := 0) hx hb dX8_put_38 (by decide) ?_
    exact J6 (0 : Int32)  H locs ls hE jw (lv_sub hl [0, 1, 4] rfl)
  refine lv_if_lt (tgt := 38) hx hb dX8_put_11 (by decide) (fun c2 => B7 _ _ jw (Or.inl c2)) (fun c2 => ?_)
  refine lv_iload_n hx hb dX8_put_14 rfl (lv_at hl 2 rfl) ?_
  refine lv_aload_n hx hb dX8_put_15 rfl (lv_at hl 1 rfl) ?_
  refine jg_8_2 jc jw ho wd_4_19 dX8_put_16 ?_
  refine lv_icmp_ge (tgt := 38) hx hb dX8_put_19 (by decide) (fun c3 => B7 _ _ jw (Or.inr (Or.inl c3))) (fun c3 => ?_)
  refine lv_iload_n hx hb dX8_put_22 rfl (lv_at hl 3 rfl) ?_
  refine lv_if_lt (tgt := 38) hx hb dX8_put_23 (by decide) (fun c4 => B7 _ _ jw (Or.inr (Or.inr (Or.inl c4)))) (fun c4 => ?_)
  refine lv_iload_n hx hb dX8_put_26 rfl (lv_at hl 3 rfl) ?_
  refine lv_aload_n hx hb dX8_put_27 rfl (lv_at hl 1 rfl) ?_
  refine jg_8_1 jc jw ho wd_4_18 dX8_put_28 ?_
  refine lv_icmp_ge (tgt := 38) hx hb dX8_put_31 (by decide) (fun c5 => B7 _ _ jw (Or.inr (Or.inr (Or.inr c5)))) (fun c5 => ?_)
  rw [if_neg (fun hq => hq.elim (fun hq => (j_abs c2 hq)) (fun hq => hq.elim (fun hq => (j_abs c3 hq)) (fun hq => hq.elim (fun hq => (j_abs c4 hq)) (fun hq => (j_abs c5 hq)))))] at hE
  refine lv_iconst (v := 1) hx hb dX8_put_34 (by decide) ?_
  refine lv_goto (tgt := 39) hx hb dX8_put_35 (by decide) ?_
  exact J6 (1 : Int32)  s.heap [] ls hE jw (lv_sub hl [0, 1, 4] rfl)
def s_X8_clear (Y : JY) (M : JM) (o : Nat) : JM := lt_ (j_up M o 2 (0 : Int32)) fun mm1 => mm1
set_option maxRecDepth 100000 in
set_option maxHeartbeats 4000000 in
theorem c_X8_clear {D : va_G} {Y : JY} {ty : Nat → ClassId} {ad : Nat → Nat} {sz : Nat} {l : Launch} {M : JM} (hY : j_ok Y) {o : Nat} (ho : j_kd Y o = 8) {r : JM} (hE : s_X8_clear Y M o = r) : JMv D Y ty ad sz l yX8_clear cX8_clear 1 0 0 [.ref (ad o)] M r := by
  refine j_ofV hY (by decide +kernel) (Nat.le_of_ble_eq_true rfl) (fun p e s m below meth c args R Q A hRf hRl hA jc jw kr ls hl => ?_)
  have hx := jc.1
  have hb := jc.2.1
  have hl : lv_has ls 1 [(0, .ref (ad o))] := hl
  unfold s_X8_clear at hE
  obtain ⟨G0, eG0, hE⟩ := j_F0 hE
  refine lv_aload_n hx hb dX8_clear_0 rfl (lv_at hl 0 rfl) ?_
  refine lv_iconst (v := 0) hx hb dX8_clear_1 (by decide) ?_
  refine js_8_2 jc jw ho wd_4_19 dX8_clear_2 (fun H locs jw => ?_)
  obtain ⟨mm1, emm1, hE⟩ := j_lv hE
  rw [← emm1] at jw
  try dsimp only at hE
  exact kr _ _ _ _ _ (j_ret eG0 hE) jw dX8_clear_5
def lp_X8_addRow_1 (Y : JY) (o : Nat) (vv1 : Int32) (n : Nat) (vv4 : Int32) (mm5 : JM) : Option (Int32 × JM) := match n with
  | 0 => none
  | n + 1 => if (mm5 o 1) ≤ vv4 then (some (vv1, mm5)) else (lt_ (s_X8_put Y mm5 o vv1 vv4 (-1 : Int32)) fun xx7 => lt_ (vv4 + (1 : Int32)) fun vv8 => lp_X8_addRow_1 Y o vv1 n vv8 xx7)
def s_X8_addRow (Y : JY) (M : JM) (o : Nat) : Option (Int32 × JM) := lt_ (M o 2) fun vv1 => lt_ (j_up M o 2 ((M o 2) + (1 : Int32))) fun mm2 => (lp_X8_addRow_1 Y o vv1 j_fuel (0 : Int32) mm2).bind fun xx9 => some (xx9.1, xx9.2)
set_option maxRecDepth 100000 in
set_option maxHeartbeats 4000000 in
theorem c_X8_addRow {D : va_G} {Y : JY} {ty : Nat → ClassId} {ad : Nat → Nat} {sz : Nat} {l : Launch} {M : JM} (hY : j_ok Y) {o : Nat} (ho : j_kd Y o = 8) {r : Int32 × JM} (hE : s_X8_addRow Y M o = some r) : JMi D Y ty ad sz l yX8_addRow cX8_addRow 3 (some .int) 1 25 [.ref (ad o)] M r.1 r.2 := by
  refine j_ofI hY (by decide +kernel) (Nat.le_of_ble_eq_true rfl) (fun p e s m below meth c args R Q A hRf hRl hA jc jw kr ls hl => ?_)
  have hx := jc.1
  have hb := jc.2.1
  have hl : lv_has ls 3 [(0, .ref (ad o))] := hl
  unfold s_X8_addRow at hE
  obtain ⟨G0, eG0, hG0, hE⟩ := j_F0o hE
  refine lv_aload_n hx hb dX8_addRow_0 rfl (lv_at hl 0 rfl) ?_
  refine jg_8_2 jc jw ho wd_4_19 dX8_addRow_1 ?_
  refine lv_topi (fun vv1 evv1 => ?_)
  replace hE := j_lu hE evv1
  try dsimp only at hE
  refine lv_istore_n (lv' := [(1, .int vv1), (0, .ref (ad o))]) hx hb dX8_addRow_4 rfl hl (by decide) rfl (fun ls hl => ?_)
  refine lv_aload_n hx hb dX8_addRow_5 rfl (lv_at hl 1 rfl) ?_
  refine lv_dup hx hb dX8_addRow_6 rfl ?_
  refine jg_8_2 jc jw ho wd_4_19 dX8_addRow_7 ?_
  refine lv_iconst (v := 1) hx hb dX8_addRow_10 (by decide) ?_
  refine lv_iadd hx hb dX8_addRow_11 ?_
  refine js_8_2 jc jw ho wd_4_19 dX8_addRow_12 (fun H locs jw => ?_)
  obtain ⟨mm2, emm2, hE⟩ := j_lv hE
  rw [← emm2] at jw
  try dsimp only at hE
  refine lv_iconst (v := 0) hx hb dX8_addRow_15 (by decide) ?_
  refine lv_istore_n (lv' := [(2, .int (0 : Int32)), (1, .int vv1), (0, .ref (ad o))]) hx hb dX8_addRow_16 rfl hl (by decide) rfl (fun ls hl => ?_)
  obtain ⟨G3, eG3, hG3, hE⟩ := j_ctxB hG0 hE
  have LP3 : ∀ (n : Nat) (vv4 : Int32) (mm5 : JM) (H : Heap) (locs : List Loc) (ls : Array Slot), G3 (lp_X8_addRow_1 Y o vv1 n vv4 mm5) = some r → JW D Y ty ad A s.heap mm5 H locs → lv_has ls 3 [(2, .int vv4), (1, .int vv1), (0, .ref (ad o))] → W p l e R s m args below meth c H locs 0 0 Q (F0 m 17 ls []) := by
    intro n
    induction n with
    | zero => intro vv4 mm5 H locs ls hE jw hl; exact absurd hE (hG3 _)
    | succ n ih =>
      intro vv4 mm5 H locs ls hE jw hl
      rw [lp_X8_addRow_1] at hE
      refine lv_iload_n hx hb dX8_addRow_17 rfl (lv_at hl 0 rfl) ?_
      refine lv_aload_n hx hb dX8_addRow_18 rfl (lv_at hl 2 rfl) ?_
      refine jg_8_1 jc jw ho wd_4_18 dX8_addRow_19 ?_
      refine lv_icmp_ge (tgt := 38) hx hb dX8_addRow_22 (by decide) (fun c6 => ?_) (fun c6 => ?_)
      · rw [if_pos c6] at hE
        refine lv_iload_n hx hb dX8_addRow_38 rfl (lv_at hl 1 rfl) ?_
        replace hE := j_popB eG3 hE
        try dsimp only at hE
        exact kr _ _ _ _ _ _ (j_fst (Option.some.inj (j_ret eG0 hE))) (j_snd (Option.some.inj (j_ret eG0 hE))) jw dX8_addRow_39
      · rw [if_neg c6] at hE
        refine lv_aload_n hx hb dX8_addRow_25 rfl (lv_at hl 2 rfl) ?_
        refine lv_iload_n hx hb dX8_addRow_26 rfl (lv_at hl 1 rfl) ?_
        refine lv_iload_n hx hb dX8_addRow_27 rfl (lv_at hl 0 rfl) ?_
        refine lv_iconst (v := -1) hx hb dX8_addRow_28 (by decide) ?_
        obtain ⟨xx7, exx7, hE⟩ := j_lv hE
        try dsimp only at hE
        refine jc_vv [.int vv1, .int vv4, .int (-1 : Int32)] [] jc jw hA ho (by decide) rfl (c_X8_put hY ho (M := mm5) exx7.symm) sd_X8_22 rfl hl.1 (j_hR hRf hRl rfl rfl) (Nat.le_of_ble_eq_true rfl) dX8_addRow_29 (fun H locs jw => ?_)
        obtain ⟨vv8, evv8, hE⟩ := j_lv hE
        try dsimp only at hE
        refine lv_iinc (v := vv8) (lv' := [(2, .int vv8), (1, .int vv1), (0, .ref (ad o))]) hx hb dX8_addRow_32 hl (k := 0) rfl (by rw [evv8]; rfl) (by decide) rfl (fun ls hl => ?_)
        refine lv_goto (tgt := 17) hx hb dX8_addRow_35 (by decide) ?_
        exact ih vv8 xx7 H locs ls hE jw (lv_sub hl [0, 1, 2] rfl)
  exact LP3 j_fuel (0 : Int32) mm2 H locs ls hE jw (lv_sub hl [0, 1, 2] rfl)
def s_X8_addPair (Y : JY) (M : JM) (o : Nat) (p1 : Int32) (p2 : Int32) : Option (JM) := (s_X8_addRow Y M o).bind fun xx1 => lt_ xx1.1 fun vv2 => lt_ (s_X8_put Y xx1.2 o vv2 (0 : Int32) p1) fun xx3 => lt_ (s_X8_put Y xx3 o vv2 (1 : Int32) p2) fun xx4 => some xx4
set_option maxRecDepth 100000 in
set_option maxHeartbeats 4000000 in
theorem c_X8_addPair {D : va_G} {Y : JY} {ty : Nat → ClassId} {ad : Nat → Nat} {sz : Nat} {l : Launch} {M : JM} (hY : j_ok Y) {o : Nat} {p1 : Int32} {p2 : Int32} (ho : j_kd Y o = 8) {r : JM} (hE : s_X8_addPair Y M o p1 p2 = some r) : JMv D Y ty ad sz l yX8_addPair cX8_addPair 4 2 47 [.ref (ad o), .int p1, .int p2] M r := by
  refine j_ofV hY (by decide +kernel) (Nat.le_of_ble_eq_true rfl) (fun p e s m below meth c args R Q A hRf hRl hA jc jw kr ls hl => ?_)
  have hx := jc.1
  have hb := jc.2.1
  have hl : lv_has ls 4 [(0, .ref (ad o)), (1, .int p1), (2, .int p2)] := hl
  unfold s_X8_addPair at hE
  obtain ⟨G0, eG0, hG0, hE⟩ := j_F0o hE
  refine lv_aload_n hx hb dX8_addPair_0 rfl (lv_at hl 0 rfl) ?_
  obtain ⟨xx1, exx1, hE⟩ := j_bd hG0 hE
  try dsimp only at hE
  refine jc_vi [] [] jc jw hA ho (by decide) rfl (c_X8_addRow hY ho (M := M) exx1) sd_X8_26 rfl hl.1 (j_hR hRf hRl rfl rfl) (Nat.le_of_ble_eq_true rfl) dX8_addPair_1 (fun H locs jw => ?_)
  refine lv_topi (fun vv2 evv2 => ?_)
  replace hE := j_lu hE evv2
  try dsimp only at hE
  refine lv_istore_n (lv' := [(3, .int vv2), (0, .ref (ad o)), (1, .int p1), (2, .int p2)]) hx hb dX8_addPair_4 rfl hl (by decide) rfl (fun ls hl => ?_)
  refine lv_aload_n hx hb dX8_addPair_5 rfl (lv_at hl 1 rfl) ?_
  refine lv_iload_n hx hb dX8_addPair_6 rfl (lv_at hl 0 rfl) ?_
  refine lv_iconst (v := 0) hx hb dX8_addPair_7 (by decide) ?_
  refine lv_iload_n hx hb dX8_addPair_8 rfl (lv_at hl 2 rfl) ?_
  obtain ⟨xx3, exx3, hE⟩ := j_lv hE
  try dsimp only at hE
  refine jc_vv [.int vv2, .int (0 : Int32), .int p1] [] jc jw hA ho (by decide) rfl (c_X8_put hY ho (M := xx1.2) exx3.symm) sd_X8_22 rfl hl.1 (j_hR hRf hRl rfl rfl) (Nat.le_of_ble_eq_true rfl) dX8_addPair_9 (fun H locs jw => ?_)
  refine lv_aload_n hx hb dX8_addPair_12 rfl (lv_at hl 1 rfl) ?_
  refine lv_iload_n hx hb dX8_addPair_13 rfl (lv_at hl 0 rfl) ?_
  refine lv_iconst (v := 1) hx hb dX8_addPair_14 (by decide) ?_
  refine lv_iload_n hx hb dX8_addPair_15 rfl (lv_at hl 3 rfl) ?_
  obtain ⟨xx4, exx4, hE⟩ := j_lv hE
  try dsimp only at hE
  refine jc_vv [.int vv2, .int (1 : Int32), .int p2] [] jc jw hA ho (by decide) rfl (c_X8_put hY ho (M := xx3) exx4.symm) sd_X8_22 rfl hl.1 (j_hR hRf hRl rfl rfl) (Nat.le_of_ble_eq_true rfl) dX8_addPair_16 (fun H locs jw => ?_)
  exact kr _ _ _ _ _ (Option.some.inj (j_ret eG0 hE)) jw dX8_addPair_19
def s_X7_place (Y : JY) (M : JM) (o : Nat) (p1 : Int32) : Nat := if p1 < 0 ∨ ¬ (p1 < (Int32.ofNat (j_ln Y (j_rf Y o 0)))) then ((j_rf Y o 1)) else ((j_rf Y (j_rf Y o 0) p1.toNatClampNeg))
set_option maxRecDepth 100000 in
set_option maxHeartbeats 4000000 in
theorem c_X7_place {D : va_G} {Y : JY} {ty : Nat → ClassId} {ad : Nat → Nat} {sz : Nat} {l : Launch} {M : JM} (hY : j_ok Y) {o : Nat} {p1 : Int32} (ho : j_kd Y o = 7) {r : Nat} (hE : s_X7_place Y M o p1 = r) : JMr D Y ty ad sz l yX7_place cX7_place 3 (some (.object "MergeWorkbench$Lines")) 0 0 [.ref (ad o), .int p1] M r M 4 := by
  refine j_ofR hY (by decide +kernel) (Nat.le_of_ble_eq_true rfl) (fun p e s m below meth c args R Q A hRf hRl hA jc jw kr ls hl => ?_)
  have hx := jc.1
  have hb := jc.2.1
  have hl : lv_has ls 3 [(0, .ref (ad o)), (1, .int p1)] := hl
  unfold s_X7_place at hE
  obtain ⟨G0, eG0, hE⟩ := j_F0 hE
  refine lv_iload_n hx hb dX7_place_0 rfl (lv_at hl 1 rfl) ?_
  have B6 : ∀ (H : Heap) (locs : List Loc), JW D Y ty ad A s.heap M H locs → (p1 < 0 ∨ ¬ (p1 < (Int32.ofNat (j_ln Y (j_rf Y o 0))))) → W p l e R s m args below meth c H locs 0 0 Q (F0 m 13 ls []) := by
    intro H locs jw hcc
    rw [if_pos hcc] at hE
    refine lv_aload_n hx hb dX7_place_13 rfl (lv_at hl 0 rfl) ?_
    refine jg_7_1 jc jw ho wd_3_197 dX7_place_14 ?_
    have k4 := j_sub hY ho 1 (f := 4) rfl (by decide) (by decide) (by decide)
    exact kr _ _ _ _ _ _ (j_ret eG0 hE) rfl k4 jw dX7_place_17
  refine lv_if_lt (tgt := 13) hx hb dX7_place_1 (by decide) (fun c1 => B6 _ _ jw (Or.inl c1)) (fun c1 => ?_)
  refine lv_iload_n hx hb dX7_place_4 rfl (lv_at hl 1 rfl) ?_
  refine lv_aload_n hx hb dX7_place_5 rfl (lv_at hl 0 rfl) ?_
  refine jg_7_0 jc jw ho wd_3_196 dX7_place_6 ?_
  have k2 := j_sub hY ho 0 (f := 103) rfl (by decide) (by decide) (by decide)
  refine jr_alen jc jw (Or.inr k2) dX7_place_9 ?_
  refine lv_icmp_lt (tgt := 18) hx hb dX7_place_10 (by decide) (fun c3 => ?_) (fun c3 => B6 _ _ jw (Or.inr c3))
  rw [if_neg (fun hq => hq.elim (fun hq => (j_abs c1 hq)) (fun hq => (j_absn c3 hq)))] at hE
  refine lv_aload_n hx hb dX7_place_18 rfl (lv_at hl 0 rfl) ?_
  refine jg_7_0 jc jw ho wd_3_196 dX7_place_19 ?_
  refine lv_iload_n hx hb dX7_place_22 rfl (lv_at hl 1 rfl) ?_
  refine jr_aald jc jw k2 (j_in hY k2 (by decide) c1 c3) dX7_place_23 ?_
  have k5 := j_el hY k2 (j_inlt (j_in hY k2 (by decide) c1 c3))
  refine lv_astore_n (lv' := [(2, .ref (ad (j_rf Y (j_rf Y o 0) p1.toNatClampNeg))), (0, .ref (ad o)), (1, .int p1)]) hx hb dX7_place_24 rfl hl (by decide) rfl (fun ls hl => ?_)
  refine lv_aload_n hx hb dX7_place_25 rfl (lv_at hl 0 rfl) ?_
  refine lv_ifnonnull (tgt := 36) hx hb dX7_place_26 (by decide) ?_
  refine lv_aload_n hx hb dX7_place_36 rfl (lv_at hl 0 rfl) ?_
  exact kr _ _ _ _ _ _ (j_ret eG0 hE) rfl k5 jw dX7_place_37
def lp_X7_become_1 (Y : JY) (o : Nat) (q1 : Nat) (n : Nat) (vv2 : Int32) (mm3 : JM) : Option (JM) := match n with
  | 0 => none
  | n + 1 => if (Int32.ofNat (j_ln Y (j_rf Y o 0))) ≤ vv2 then (some mm3) else ((s_X4_become Y mm3 (s_X7_place Y mm3 o vv2) (s_X7_place Y mm3 q1 vv2)).bind fun xx8 => lt_ (vv2 + (1 : Int32)) fun vv9 => lp_X7_become_1 Y o q1 n vv9 xx8)
def s_X7_become (Y : JY) (M : JM) (o : Nat) (q1 : Nat) : Option (JM) := (lp_X7_become_1 Y o q1 j_fuel (0 : Int32) M).bind fun xx10 => some xx10
set_option maxRecDepth 100000 in
set_option maxHeartbeats 4000000 in
theorem c_X7_become {D : va_G} {Y : JY} {ty : Nat → ClassId} {ad : Nat → Nat} {sz : Nat} {l : Launch} {M : JM} (hY : j_ok Y) {o : Nat} {q1 : Nat} (ho : j_kd Y o = 7) (hq1 : j_kd Y q1 = 7) {r : JM} (hE : s_X7_become Y M o q1 = some r) : JMv D Y ty ad sz l yX7_become cX7_become 3 3 66 [.ref (ad o), .ref (ad q1)] M r := by
  refine j_ofV hY (by decide +kernel) (Nat.le_of_ble_eq_true rfl) (fun p e s m below meth c args R Q A hRf hRl hA jc jw kr ls hl => ?_)
  have hx := jc.1
  have hb := jc.2.1
  have hl : lv_has ls 3 [(0, .ref (ad o)), (1, .ref (ad q1))] := hl
  unfold s_X7_become at hE
  obtain ⟨G0, eG0, hG0, hE⟩ := j_F0o hE
  refine lv_iconst (v := 0) hx hb dX7_become_0 (by decide) ?_
  refine lv_istore_n (lv' := [(2, .int (0 : Int32)), (0, .ref (ad o)), (1, .ref (ad q1))]) hx hb dX7_become_1 rfl hl (by decide) rfl (fun ls hl => ?_)
  obtain ⟨G1, eG1, hG1, hE⟩ := j_ctxB hG0 hE
  have LP1 : ∀ (n : Nat) (vv2 : Int32) (mm3 : JM) (H : Heap) (locs : List Loc) (ls : Array Slot), G1 (lp_X7_become_1 Y o q1 n vv2 mm3) = some r → JW D Y ty ad A s.heap mm3 H locs → lv_has ls 3 [(2, .int vv2), (0, .ref (ad o)), (1, .ref (ad q1))] → W p l e R s m args below meth c H locs 0 0 Q (F0 m 2 ls []) := by
    intro n
    induction n with
    | zero => intro vv2 mm3 H locs ls hE jw hl; exact absurd hE (hG1 _)
    | succ n ih =>
      intro vv2 mm3 H locs ls hE jw hl
      rw [lp_X7_become_1] at hE
      refine lv_iload_n hx hb dX7_become_2 rfl (lv_at hl 0 rfl) ?_
      refine lv_aload_n hx hb dX7_become_3 rfl (lv_at hl 1 rfl) ?_
      refine jg_7_0 jc jw ho wd_3_196 dX7_become_4 ?_
      have k4 := j_sub hY ho 0 (f := 103) rfl (by decide) (by decide) (by decide)
      refine jr_alen jc jw (Or.inr k4) dX7_become_7 ?_
      refine lv_icmp_ge (tgt := 30) hx hb dX7_become_8 (by decide) (fun c5 => ?_) (fun c5 => ?_)
      · rw [if_pos c5] at hE
        replace hE := j_popB eG1 hE
        try dsimp only at hE
        exact kr _ _ _ _ _ (Option.some.inj (j_ret eG0 hE)) jw dX7_become_30
      · rw [if_neg c5] at hE
        refine lv_aload_n hx hb dX7_become_11 rfl (lv_at hl 1 rfl) ?_
        refine lv_iload_n hx hb dX7_become_12 rfl (lv_at hl 0 rfl) ?_
        refine jc_vr [.int vv2] [] jc jw hA ho (by decide) rfl (c_X7_place hY ho (M := mm3) rfl) sd_X7_24 rfl hl.1 (j_hR hRf hRl rfl rfl) (Nat.le_of_ble_eq_true rfl) dX7_become_13 (fun H locs jw hk => ?_)
        have k6 := hk
        refine lv_aload_n hx hb dX7_become_16 rfl (lv_at hl 2 rfl) ?_
        refine lv_iload_n hx hb dX7_become_17 rfl (lv_at hl 0 rfl) ?_
        refine jc_vr [.int vv2] [.ref (ad (s_X7_place Y mm3 o vv2))] jc jw hA hq1 (by decide) rfl (c_X7_place hY hq1 (M := mm3) rfl) sd_X7_24 rfl hl.1 (j_hR hRf hRl rfl rfl) (Nat.le_of_ble_eq_true rfl) dX7_become_18 (fun H locs jw hk => ?_)
        have k7 := hk
        obtain ⟨xx8, exx8, hE⟩ := j_bd hG1 hE
        try dsimp only at hE
        refine jc_vv [.ref (ad (s_X7_place Y mm3 q1 vv2))] [] jc jw hA k6 (by decide) rfl (c_X4_become hY k6 k7 (M := mm3) exx8) sd_X7_28 rfl hl.1 (j_hR hRf hRl rfl rfl) (Nat.le_of_ble_eq_true rfl) dX7_become_21 (fun H locs jw => ?_)
        obtain ⟨vv9, evv9, hE⟩ := j_lv hE
        try dsimp only at hE
        refine lv_iinc (v := vv9) (lv' := [(2, .int vv9), (0, .ref (ad o)), (1, .ref (ad q1))]) hx hb dX7_become_24 hl (k := 0) rfl (by rw [evv9]; rfl) (by decide) rfl (fun ls hl => ?_)
        refine lv_goto (tgt := 2) hx hb dX7_become_27 (by decide) ?_
        exact ih vv9 xx8 H locs ls hE jw (lv_sub hl [0, 1, 2] rfl)
  exact LP1 j_fuel (0 : Int32) M s.heap [] ls hE jw (lv_sub hl [0, 1, 2] rfl)
def lp_X7_allLines_1 (Y : JY) (o : Nat) (M : JM) (n : Nat) (vv2 : Int32) (vv3 : Int32) : Option (Int32) := match n with
  | 0 => none
  | n + 1 => if (Int32.ofNat (j_ln Y (j_rf Y o 0))) ≤ vv3 then (some vv2) else (lt_ (vv2 + (s_X4_size Y M (s_X7_place Y M o vv3))) fun vv7 => lt_ (vv3 + (1 : Int32)) fun vv8 => lp_X7_allLines_1 Y o M n vv7 vv8)
def s_X7_allLines (Y : JY) (M : JM) (o : Nat) : Option (Int32) := (lp_X7_allLines_1 Y o M j_fuel (0 : Int32) (0 : Int32)).bind fun xx9 => some xx9
set_option maxRecDepth 100000 in
set_option maxHeartbeats 4000000 in
theorem c_X7_allLines {D : va_G} {Y : JY} {ty : Nat → ClassId} {ad : Nat → Nat} {sz : Nat} {l : Launch} {M : JM} (hY : j_ok Y) {o : Nat} (ho : j_kd Y o = 7) {r : Int32} (hE : s_X7_allLines Y M o = some r) : JMi D Y ty ad sz l yX7_allLines cX7_allLines 3 (some .int) 1 22 [.ref (ad o)] M r M := by
  refine j_ofI hY (by decide +kernel) (Nat.le_of_ble_eq_true rfl) (fun p e s m below meth c args R Q A hRf hRl hA jc jw kr ls hl => ?_)
  have hx := jc.1
  have hb := jc.2.1
  have hl : lv_has ls 3 [(0, .ref (ad o))] := hl
  unfold s_X7_allLines at hE
  obtain ⟨G0, eG0, hG0, hE⟩ := j_F0o hE
  refine lv_iconst (v := 0) hx hb dX7_allLines_0 (by decide) ?_
  refine lv_istore_n (lv' := [(1, .int (0 : Int32)), (0, .ref (ad o))]) hx hb dX7_allLines_1 rfl hl (by decide) rfl (fun ls hl => ?_)
  refine lv_iconst (v := 0) hx hb dX7_allLines_2 (by decide) ?_
  refine lv_istore_n (lv' := [(2, .int (0 : Int32)), (1, .int (0 : Int32)), (0, .ref (ad o))]) hx hb dX7_allLines_3 rfl hl (by decide) rfl (fun ls hl => ?_)
  obtain ⟨G1, eG1, hG1, hE⟩ := j_ctxB hG0 hE
  have LP1 : ∀ (n : Nat) (vv2 : Int32) (vv3 : Int32) (H : Heap) (locs : List Loc) (ls : Array Slot), G1 (lp_X7_allLines_1 Y o M n vv2 vv3) = some r → JW D Y ty ad A s.heap M H locs → lv_has ls 3 [(2, .int vv3), (1, .int vv2), (0, .ref (ad o))] → W p l e R s m args below meth c H locs 0 0 Q (F0 m 4 ls []) := by
    intro n
    induction n with
    | zero => intro vv2 vv3 H locs ls hE jw hl; exact absurd hE (hG1 _)
    | succ n ih =>
      intro vv2 vv3 H locs ls hE jw hl
      rw [lp_X7_allLines_1] at hE
      refine lv_iload_n hx hb dX7_allLines_4 rfl (lv_at hl 0 rfl) ?_
      refine lv_aload_n hx hb dX7_allLines_5 rfl (lv_at hl 2 rfl) ?_
      refine jg_7_0 jc jw ho wd_3_196 dX7_allLines_6 ?_
      have k4 := j_sub hY ho 0 (f := 103) rfl (by decide) (by decide) (by decide)
      refine jr_alen jc jw (Or.inr k4) dX7_allLines_9 ?_
      refine lv_icmp_ge (tgt := 30) hx hb dX7_allLines_10 (by decide) (fun c5 => ?_) (fun c5 => ?_)
      · rw [if_pos c5] at hE
        refine lv_iload_n hx hb dX7_allLines_30 rfl (lv_at hl 1 rfl) ?_
        replace hE := j_popB eG1 hE
        try dsimp only at hE
        exact kr _ _ _ _ _ _ (Option.some.inj (j_ret eG0 hE)) rfl jw dX7_allLines_31
      · rw [if_neg c5] at hE
        refine lv_iload_n hx hb dX7_allLines_13 rfl (lv_at hl 1 rfl) ?_
        refine lv_aload_n hx hb dX7_allLines_14 rfl (lv_at hl 2 rfl) ?_
        refine lv_iload_n hx hb dX7_allLines_15 rfl (lv_at hl 0 rfl) ?_
        refine jc_vr [.int vv3] [.int vv2] jc jw hA ho (by decide) rfl (c_X7_place hY ho (M := M) rfl) sd_X7_24 rfl hl.1 (j_hR hRf hRl rfl rfl) (Nat.le_of_ble_eq_true rfl) dX7_allLines_16 (fun H locs jw hk => ?_)
        have k6 := hk
        refine jc_vi [] [.int vv2] jc jw hA k6 (by decide) rfl (c_X4_size hY k6 (M := M) rfl) sd_X7_32 rfl hl.1 (j_hR hRf hRl rfl rfl) (Nat.le_of_ble_eq_true rfl) dX7_allLines_19 (fun H locs jw => ?_)
        refine lv_iadd hx hb dX7_allLines_22 ?_
        refine lv_topi (fun vv7 evv7 => ?_)
        replace hE := j_lu hE evv7
        try dsimp only at hE
        refine lv_istore_n (lv' := [(1, .int vv7), (2, .int vv3), (0, .ref (ad o))]) hx hb dX7_allLines_23 rfl hl (by decide) rfl (fun ls hl => ?_)
        obtain ⟨vv8, evv8, hE⟩ := j_lv hE
        try dsimp only at hE
        refine lv_iinc (v := vv8) (lv' := [(2, .int vv8), (1, .int vv7), (0, .ref (ad o))]) hx hb dX7_allLines_24 hl (k := 1) rfl (by rw [evv8]; rfl) (by decide) rfl (fun ls hl => ?_)
        refine lv_goto (tgt := 4) hx hb dX7_allLines_27 (by decide) ?_
        exact ih vv7 vv8 H locs ls hE jw (lv_sub hl [0, 1, 2] rfl)
  exact LP1 j_fuel (0 : Int32) (0 : Int32) s.heap [] ls hE jw (lv_sub hl [0, 1, 2] rfl)
def s_X2_isEmpty (Y : JY) (M : JM) (o : Nat) : Int32 := if (M o 3) = 0 then ((1 : Int32)) else ((0 : Int32))
set_option maxRecDepth 100000 in
set_option maxHeartbeats 4000000 in
theorem c_X2_isEmpty {D : va_G} {Y : JY} {ty : Nat → ClassId} {ad : Nat → Nat} {sz : Nat} {l : Launch} {M : JM} (hY : j_ok Y) {o : Nat} (ho : j_kd Y o = 2) {r : Int32} (hE : s_X2_isEmpty Y M o = r) : JMz D Y ty ad sz l yX2_isEmpty cX2_isEmpty 1 0 0 [.ref (ad o)] M r M := by
  refine j_ofZ hY (by decide +kernel) (Nat.le_of_ble_eq_true rfl) (fun p e s m below meth c args R Q A hRf hRl hA jc jw kr ls hl => ?_)
  have hx := jc.1
  have hb := jc.2.1
  have hl : lv_has ls 1 [(0, .ref (ad o))] := hl
  unfold s_X2_isEmpty at hE
  obtain ⟨G0, eG0, hE⟩ := j_F0 hE
  refine lv_aload_n hx hb dX2_isEmpty_0 rfl (lv_at hl 0 rfl) ?_
  refine jg_2_3 jc jw ho wd_3_217 dX2_isEmpty_1 ?_
  refine lv_if_ne (tgt := 11) hx hb dX2_isEmpty_4 (by decide) (fun c1 => ?_) (fun c1 => ?_)
  · rw [if_neg c1] at hE
    refine lv_iconst (v := 0) hx hb dX2_isEmpty_11 (by decide) ?_
    exact kr _ _ _ _ _ _ (j_ret eG0 hE) rfl (by decide) jw dX2_isEmpty_12
  · rw [if_pos c1] at hE
    refine lv_iconst (v := 1) hx hb dX2_isEmpty_7 (by decide) ?_
    refine lv_goto (tgt := 12) hx hb dX2_isEmpty_8 (by decide) ?_
    exact kr _ _ _ _ _ _ (j_ret eG0 hE) rfl (by decide) jw dX2_isEmpty_12
def s_X2_forget (Y : JY) (M : JM) (o : Nat) : JM := lt_ (j_up M o 3 (0 : Int32)) fun mm1 => mm1
set_option maxRecDepth 100000 in
set_option maxHeartbeats 4000000 in
theorem c_X2_forget {D : va_G} {Y : JY} {ty : Nat → ClassId} {ad : Nat → Nat} {sz : Nat} {l : Launch} {M : JM} (hY : j_ok Y) {o : Nat} (ho : j_kd Y o = 2) {r : JM} (hE : s_X2_forget Y M o = r) : JMv D Y ty ad sz l yX2_forget cX2_forget 1 0 0 [.ref (ad o)] M r := by
  refine j_ofV hY (by decide +kernel) (Nat.le_of_ble_eq_true rfl) (fun p e s m below meth c args R Q A hRf hRl hA jc jw kr ls hl => ?_)
  have hx := jc.1
  have hb := jc.2.1
  have hl : lv_has ls 1 [(0, .ref (ad o))] := hl
  unfold s_X2_forget at hE
  obtain ⟨G0, eG0, hE⟩ := j_F0 hE
  refine lv_aload_n hx hb dX2_forget_0 rfl (lv_at hl 0 rfl) ?_
  refine lv_iconst (v := 0) hx hb dX2_forget_1 (by decide) ?_
  refine js_2_3 jc jw ho wd_3_217 dX2_forget_2 (fun H locs jw => ?_)
  obtain ⟨mm1, emm1, hE⟩ := j_lv hE
  rw [← emm1] at jw
  try dsimp only at hE
  exact kr _ _ _ _ _ (j_ret eG0 hE) jw dX2_forget_5
def s_X2_remember (Y : JY) (M : JM) (o : Nat) (p1 : Int32) (q2 : Nat) : Option (JM) := lt_ (s_X4_put Y M (j_rf Y o 1) (M o 2) p1) fun xx2 => (s_X4_become Y xx2 (s_X7_place Y xx2 (j_rf Y o 0) (xx2 o 2)) q2).bind fun xx5 => lt_ (if (7 : Int32) ≤ (xx5 o 2) then ((0 : Int32)) else (((xx5 o 2) + (1 : Int32)))) fun xx15 => lt_ (j_up xx5 o 2 xx15) fun mm9 => lt_ (if (8 : Int32) ≤ (mm9 o 3) then ((8 : Int32)) else (((mm9 o 3) + (1 : Int32)))) fun xx14 => lt_ (j_up mm9 o 3 xx14) fun mm13 => some mm13
set_option maxRecDepth 100000 in
set_option maxHeartbeats 4000000 in
theorem c_X2_remember {D : va_G} {Y : JY} {ty : Nat → ClassId} {ad : Nat → Nat} {sz : Nat} {l : Launch} {M : JM} (hY : j_ok Y) {o : Nat} {p1 : Int32} {q2 : Nat} (ho : j_kd Y o = 2) (hq2 : j_kd Y q2 = 4) {r : JM} (hE : s_X2_remember Y M o p1 q2 = some r) : JMv D Y ty ad sz l yX2_remember cX2_remember 3 3 66 [.ref (ad o), .int p1, .ref (ad q2)] M r := by
  refine j_ofV hY (by decide +kernel) (Nat.le_of_ble_eq_true rfl) (fun p e s m below meth c args R Q A hRf hRl hA jc jw kr ls hl => ?_)
  have hx := jc.1
  have hb := jc.2.1
  have hl : lv_has ls 3 [(0, .ref (ad o)), (1, .int p1), (2, .ref (ad q2))] := hl
  unfold s_X2_remember at hE
  obtain ⟨G0, eG0, hG0, hE⟩ := j_F0o hE
  refine lv_aload_n hx hb dX2_remember_0 rfl (lv_at hl 0 rfl) ?_
  refine jg_2_1 jc jw ho wd_3_215 dX2_remember_1 ?_
  have k1 := j_sub hY ho 1 (f := 4) rfl (by decide) (by decide) (by decide)
  refine lv_aload_n hx hb dX2_remember_4 rfl (lv_at hl 0 rfl) ?_
  refine jg_2_2 jc jw ho wd_3_216 dX2_remember_5 ?_
  refine lv_iload_n hx hb dX2_remember_8 rfl (lv_at hl 1 rfl) ?_
  obtain ⟨xx2, exx2, hE⟩ := j_lv hE
  try dsimp only at hE
  refine jc_vv [.int (M o 2), .int p1] [] jc jw hA k1 (by decide) rfl (c_X4_put hY k1 (M := M) exx2.symm) sd_X2_38 rfl hl.1 (j_hR hRf hRl rfl rfl) (Nat.le_of_ble_eq_true rfl) dX2_remember_9 (fun H locs jw => ?_)
  refine lv_aload_n hx hb dX2_remember_12 rfl (lv_at hl 0 rfl) ?_
  refine jg_2_0 jc jw ho wd_3_214 dX2_remember_13 ?_
  have k3 := j_sub hY ho 0 (f := 7) rfl (by decide) (by decide) (by decide)
  refine lv_aload_n hx hb dX2_remember_16 rfl (lv_at hl 0 rfl) ?_
  refine jg_2_2 jc jw ho wd_3_216 dX2_remember_17 ?_
  refine jc_vr [.int (xx2 o 2)] [] jc jw hA k3 (by decide) rfl (c_X7_place hY k3 (M := xx2) rfl) sd_X2_41 rfl hl.1 (j_hR hRf hRl rfl rfl) (Nat.le_of_ble_eq_true rfl) dX2_remember_20 (fun H locs jw hk => ?_)
  have k4 := hk
  refine lv_aload_n hx hb dX2_remember_23 rfl (lv_at hl 2 rfl) ?_
  obtain ⟨xx5, exx5, hE⟩ := j_bd hG0 hE
  try dsimp only at hE
  refine jc_vv [.ref (ad q2)] [] jc jw hA k4 (by decide) rfl (c_X4_become hY k4 hq2 (M := xx2) exx5) sd_X2_45 rfl hl.1 (j_hR hRf hRl rfl rfl) (Nat.le_of_ble_eq_true rfl) dX2_remember_24 (fun H locs jw => ?_)
  refine lv_aload_n hx hb dX2_remember_27 rfl (lv_at hl 0 rfl) ?_
  refine lv_aload_n hx hb dX2_remember_28 rfl (lv_at hl 0 rfl) ?_
  refine jg_2_2 jc jw ho wd_3_216 dX2_remember_29 ?_
  refine lv_bipush (v := 7) hx hb dX2_remember_32 (by decide) ?_
  obtain ⟨G7, eG7, hE⟩ := j_ctxL hE
  have J7 : ∀ (vv8 : Int32)  (H : Heap) (locs : List Loc) (ls : Array Slot), G7 (vv8) = some r → JW D Y ty ad A s.heap xx5 H locs → lv_has ls 3 [(0, .ref (ad o))] → W p l e R s m args below meth c H locs 0 0 Q (F0 m 47 ls [.int vv8, .ref (ad o)]) := by
    intro vv8  H locs ls hE jw hl
    replace hE := j_popL eG7 hE
    try dsimp only at hE
    refine js_2_2 jc jw ho wd_3_216 dX2_remember_47 (fun H locs jw => ?_)
    obtain ⟨mm9, emm9, hE⟩ := j_lv hE
    rw [← emm9] at jw
    try dsimp only at hE
    refine lv_aload_n hx hb dX2_remember_50 rfl (lv_at hl 0 rfl) ?_
    refine lv_aload_n hx hb dX2_remember_51 rfl (lv_at hl 0 rfl) ?_
    refine jg_2_3 jc jw ho wd_3_217 dX2_remember_52 ?_
    refine lv_bipush (v := 8) hx hb dX2_remember_55 (by decide) ?_
    obtain ⟨G11, eG11, hE⟩ := j_ctxL hE
    have J11 : ∀ (vv12 : Int32)  (H : Heap) (locs : List Loc) (ls : Array Slot), G11 (vv12) = some r → JW D Y ty ad A s.heap mm9 H locs → lv_has ls 3 [] → W p l e R s m args below meth c H locs 0 0 Q (F0 m 71 ls [.int vv12, .ref (ad o)]) := by
      intro vv12  H locs ls hE jw hl
      replace hE := j_popL eG11 hE
      try dsimp only at hE
      refine js_2_3 jc jw ho wd_3_217 dX2_remember_71 (fun H locs jw => ?_)
      obtain ⟨mm13, emm13, hE⟩ := j_lv hE
      rw [← emm13] at jw
      try dsimp only at hE
      exact kr _ _ _ _ _ (Option.some.inj (j_ret eG0 hE)) jw dX2_remember_74
    refine lv_icmp_ge (tgt := 69) hx hb dX2_remember_57 (by decide) (fun c10 => ?_) (fun c10 => ?_)
    · rw [if_pos c10] at hE
      refine lv_bipush (v := 8) hx hb dX2_remember_69 (by decide) ?_
      exact J11 (8 : Int32)  H locs ls hE jw (lv_sub hl [] rfl)
    · rw [if_neg c10] at hE
      refine lv_aload_n hx hb dX2_remember_60 rfl (lv_at hl 0 rfl) ?_
      refine jg_2_3 jc jw ho wd_3_217 dX2_remember_61 ?_
      refine lv_iconst (v := 1) hx hb dX2_remember_64 (by decide) ?_
      refine lv_iadd hx hb dX2_remember_65 ?_
      refine lv_goto (tgt := 71) hx hb dX2_remember_66 (by decide) ?_
      exact J11 ((mm9 o 3) + (1 : Int32))  H locs ls hE jw (lv_sub hl [] rfl)
  refine lv_icmp_ge (tgt := 46) hx hb dX2_remember_34 (by decide) (fun c6 => ?_) (fun c6 => ?_)
  · rw [if_pos c6] at hE
    refine lv_iconst (v := 0) hx hb dX2_remember_46 (by decide) ?_
    exact J7 (0 : Int32)  H locs ls hE jw (lv_sub hl [0] rfl)
  · rw [if_neg c6] at hE
    refine lv_aload_n hx hb dX2_remember_37 rfl (lv_at hl 0 rfl) ?_
    refine jg_2_2 jc jw ho wd_3_216 dX2_remember_38 ?_
    refine lv_iconst (v := 1) hx hb dX2_remember_41 (by decide) ?_
    refine lv_iadd hx hb dX2_remember_42 ?_
    refine lv_goto (tgt := 47) hx hb dX2_remember_43 (by decide) ?_
    exact J7 ((xx5 o 2) + (1 : Int32))  H locs ls hE jw (lv_sub hl [0] rfl)
def s_X2_takeBack (Y : JY) (M : JM) (o : Nat) (q1 : Nat) : Option (Int32 × JM) := lt_ (if (M o 2) ≤ 0 then ((7 : Int32)) else (((M o 2) - (1 : Int32)))) fun xx12 => lt_ (j_up M o 2 xx12) fun mm4 => lt_ (j_up mm4 o 3 ((mm4 o 3) - (1 : Int32))) fun mm5 => lt_ (s_X4_at Y mm5 (j_rf Y o 1) (mm5 o 2)) fun vv7 => (s_X4_become Y mm5 (s_X7_place Y mm5 q1 vv7) (s_X7_place Y mm5 (j_rf Y o 0) (mm5 o 2))).bind fun xx11 => some (vv7, xx11)
set_option maxRecDepth 100000 in
set_option maxHeartbeats 4000000 in
theorem c_X2_takeBack {D : va_G} {Y : JY} {ty : Nat → ClassId} {ad : Nat → Nat} {sz : Nat} {l : Launch} {M : JM} (hY : j_ok Y) {o : Nat} {q1 : Nat} (ho : j_kd Y o = 2) (hq1 : j_kd Y q1 = 7) {r : Int32 × JM} (hE : s_X2_takeBack Y M o q1 = some r) : JMi D Y ty ad sz l yX2_takeBack cX2_takeBack 3 (some .int) 3 66 [.ref (ad o), .ref (ad q1)] M r.1 r.2 := by
  refine j_ofI hY (by decide +kernel) (Nat.le_of_ble_eq_true rfl) (fun p e s m below meth c args R Q A hRf hRl hA jc jw kr ls hl => ?_)
  have hx := jc.1
  have hb := jc.2.1
  have hl : lv_has ls 3 [(0, .ref (ad o)), (1, .ref (ad q1))] := hl
  unfold s_X2_takeBack at hE
  obtain ⟨G0, eG0, hG0, hE⟩ := j_F0o hE
  refine lv_aload_n hx hb dX2_takeBack_0 rfl (lv_at hl 0 rfl) ?_
  refine lv_aload_n hx hb dX2_takeBack_1 rfl (lv_at hl 0 rfl) ?_
  refine jg_2_2 jc jw ho wd_3_216 dX2_takeBack_2 ?_
  obtain ⟨G2, eG2, hE⟩ := j_ctxL hE
  have J2 : ∀ (vv3 : Int32)  (H : Heap) (locs : List Loc) (ls : Array Slot), G2 (vv3) = some r → JW D Y ty ad A s.heap M H locs → lv_has ls 3 [(0, .ref (ad o)), (1, .ref (ad q1))] → W p l e R s m args below meth c H locs 0 0 Q (F0 m 19 ls [.int vv3, .ref (ad o)]) := by
    intro vv3  H locs ls hE jw hl
    replace hE := j_popL eG2 hE
    try dsimp only at hE
    refine js_2_2 jc jw ho wd_3_216 dX2_takeBack_19 (fun H locs jw => ?_)
    obtain ⟨mm4, emm4, hE⟩ := j_lv hE
    rw [← emm4] at jw
    try dsimp only at hE
    refine lv_aload_n hx hb dX2_takeBack_22 rfl (lv_at hl 0 rfl) ?_
    refine lv_dup hx hb dX2_takeBack_23 rfl ?_
    refine jg_2_3 jc jw ho wd_3_217 dX2_takeBack_24 ?_
    refine lv_iconst (v := 1) hx hb dX2_takeBack_27 (by decide) ?_
    refine lv_isub hx hb dX2_takeBack_28 ?_
    refine js_2_3 jc jw ho wd_3_217 dX2_takeBack_29 (fun H locs jw => ?_)
    obtain ⟨mm5, emm5, hE⟩ := j_lv hE
    rw [← emm5] at jw
    try dsimp only at hE
    refine lv_aload_n hx hb dX2_takeBack_32 rfl (lv_at hl 0 rfl) ?_
    refine jg_2_1 jc jw ho wd_3_215 dX2_takeBack_33 ?_
    have k6 := j_sub hY ho 1 (f := 4) rfl (by decide) (by decide) (by decide)
    refine lv_aload_n hx hb dX2_takeBack_36 rfl (lv_at hl 0 rfl) ?_
    refine jg_2_2 jc jw ho wd_3_216 dX2_takeBack_37 ?_
    refine jc_vi [.int (mm5 o 2)] [] jc jw hA k6 (by decide) rfl (c_X4_at hY k6 (M := mm5) rfl) sd_X2_49 rfl hl.1 (j_hR hRf hRl rfl rfl) (Nat.le_of_ble_eq_true rfl) dX2_takeBack_40 (fun H locs jw => ?_)
    refine lv_topi (fun vv7 evv7 => ?_)
    replace hE := j_lu hE evv7
    try dsimp only at hE
    refine lv_istore_n (lv' := [(2, .int vv7), (0, .ref (ad o)), (1, .ref (ad q1))]) hx hb dX2_takeBack_43 rfl hl (by decide) rfl (fun ls hl => ?_)
    refine lv_aload_n hx hb dX2_takeBack_44 rfl (lv_at hl 2 rfl) ?_
    refine lv_iload_n hx hb dX2_takeBack_45 rfl (lv_at hl 0 rfl) ?_
    refine jc_vr [.int vv7] [] jc jw hA hq1 (by decide) rfl (c_X7_place hY hq1 (M := mm5) rfl) sd_X2_41 rfl hl.1 (j_hR hRf hRl rfl rfl) (Nat.le_of_ble_eq_true rfl) dX2_takeBack_46 (fun H locs jw hk => ?_)
    have k8 := hk
    refine lv_aload_n hx hb dX2_takeBack_49 rfl (lv_at hl 1 rfl) ?_
    refine jg_2_0 jc jw ho wd_3_214 dX2_takeBack_50 ?_
    have k9 := j_sub hY ho 0 (f := 7) rfl (by decide) (by decide) (by decide)
    refine lv_aload_n hx hb dX2_takeBack_53 rfl (lv_at hl 1 rfl) ?_
    refine jg_2_2 jc jw ho wd_3_216 dX2_takeBack_54 ?_
    refine jc_vr [.int (mm5 o 2)] [.ref (ad (s_X7_place Y mm5 q1 vv7))] jc jw hA k9 (by decide) rfl (c_X7_place hY k9 (M := mm5) rfl) sd_X2_41 rfl hl.1 (j_hR hRf hRl rfl rfl) (Nat.le_of_ble_eq_true rfl) dX2_takeBack_57 (fun H locs jw hk => ?_)
    have k10 := hk
    obtain ⟨xx11, exx11, hE⟩ := j_bd hG0 hE
    try dsimp only at hE
    refine jc_vv [.ref (ad (s_X7_place Y mm5 (j_rf Y o 0) (mm5 o 2)))] [] jc jw hA k8 (by decide) rfl (c_X4_become hY k8 k10 (M := mm5) exx11) sd_X2_45 rfl hl.1 (j_hR hRf hRl rfl rfl) (Nat.le_of_ble_eq_true rfl) dX2_takeBack_60 (fun H locs jw => ?_)
    refine lv_iload_n hx hb dX2_takeBack_63 rfl (lv_at hl 0 rfl) ?_
    exact kr _ _ _ _ _ _ (j_fst (Option.some.inj (j_ret eG0 hE))) (j_snd (Option.some.inj (j_ret eG0 hE))) jw dX2_takeBack_64
  refine lv_if_le (tgt := 17) hx hb dX2_takeBack_5 (by decide) (fun c1 => ?_) (fun c1 => ?_)
  · rw [if_pos c1] at hE
    refine lv_bipush (v := 7) hx hb dX2_takeBack_17 (by decide) ?_
    exact J2 (7 : Int32)  s.heap [] ls hE jw (lv_sub hl [0, 1] rfl)
  · rw [if_neg c1] at hE
    refine lv_aload_n hx hb dX2_takeBack_8 rfl (lv_at hl 0 rfl) ?_
    refine jg_2_2 jc jw ho wd_3_216 dX2_takeBack_9 ?_
    refine lv_iconst (v := 1) hx hb dX2_takeBack_12 (by decide) ?_
    refine lv_isub hx hb dX2_takeBack_13 ?_
    refine lv_goto (tgt := 19) hx hb dX2_takeBack_14 (by decide) ?_
    exact J2 ((M o 2) - (1 : Int32))  s.heap [] ls hE jw (lv_sub hl [0, 1] rfl)

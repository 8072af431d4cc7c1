def s_X4_size (Y : JY) (M : JM) (o : Nat) : Int32 := (M o 1)
set_option maxRecDepth 100000 in
set_option maxHeartbeats 4000000 in
theorem c_X4_size {D : va_G} {Y : JY} {ty : Nat → ClassId} {ad : Nat → Nat} {sz : Nat} {l : Launch} {M : JM} (hY : j_ok Y) {o : Nat} (ho : j_kd Y o = 4) {r : Int32} (hE : s_X4_size Y M o = r) : JMi D Y ty ad sz l yX4_size cX4_size 1 (some .int) 0 0 [.ref (ad o)] M r M := by
  refine j_ofI hY (by decide +kernel) (Nat.le_of_ble_eq_true rfl) (fun p e s m below meth c args R Q A hRf hRl hA jc jw kr ls hl => ?_)
  have hx := jc.1
  have hb := jc.2.1
  have hl : lv_has ls 1 [(0, .ref (ad o))] := hl
  unfold s_X4_size at hE
  obtain ⟨G0, eG0, hE⟩ := j_F0 hE
  refine lv_aload_n hx hb dX4_size_0 rfl (lv_at hl 0 rfl) ?_
  refine jg_4_1 jc jw ho wd_3_188 dX4_size_1 ?_
  exact kr _ _ _ _ _ _ (j_ret eG0 hE) rfl jw dX4_size_4
def s_X4_isFull (Y : JY) (M : JM) (o : Nat) : Int32 := if (M o 1) < (Int32.ofNat (j_ln Y (j_rf Y o 0))) then ((0 : Int32)) else ((1 : Int32))
set_option maxRecDepth 100000 in
set_option maxHeartbeats 4000000 in
theorem c_X4_isFull {D : va_G} {Y : JY} {ty : Nat → ClassId} {ad : Nat → Nat} {sz : Nat} {l : Launch} {M : JM} (hY : j_ok Y) {o : Nat} (ho : j_kd Y o = 4) {r : Int32} (hE : s_X4_isFull Y M o = r) : JMz D Y ty ad sz l yX4_isFull cX4_isFull 1 0 0 [.ref (ad o)] M r M := by
  refine j_ofZ hY (by decide +kernel) (Nat.le_of_ble_eq_true rfl) (fun p e s m below meth c args R Q A hRf hRl hA jc jw kr ls hl => ?_)
  have hx := jc.1
  have hb := jc.2.1
  have hl : lv_has ls 1 [(0, .ref (ad o))] := hl
  unfold s_X4_isFull at hE
  obtain ⟨G0, eG0, hE⟩ := j_F0 hE
  refine lv_aload_n hx hb dX4_isFull_0 rfl (lv_at hl 0 rfl) ?_
  refine jg_4_1 jc jw ho wd_3_188 dX4_isFull_1 ?_
  refine lv_aload_n hx hb dX4_isFull_4 rfl (lv_at hl 0 rfl) ?_
  refine jg_4_0 jc jw ho wd_3_187 dX4_isFull_5 ?_
  have k1 := j_sub hY ho 0 (f := 100) rfl (by decide) (by decide) (by decide)
  refine jr_alen jc jw (Or.inl k1) dX4_isFull_8 ?_
  refine lv_icmp_lt (tgt := 16) hx hb dX4_isFull_9 (by decide) (fun c2 => ?_) (fun c2 => ?_)
  · rw [if_pos c2] at hE
    refine lv_iconst (v := 0) hx hb dX4_isFull_16 (by decide) ?_
    exact kr _ _ _ _ _ _ (j_ret eG0 hE) rfl (by decide) jw dX4_isFull_17
  · rw [if_neg c2] at hE
    refine lv_iconst (v := 1) hx hb dX4_isFull_12 (by decide) ?_
    refine lv_goto (tgt := 17) hx hb dX4_isFull_13 (by decide) ?_
    exact kr _ _ _ _ _ _ (j_ret eG0 hE) rfl (by decide) jw dX4_isFull_17
def s_X4_has (Y : JY) (M : JM) (o : Nat) (p1 : Int32) : Int32 := if p1 < 0 ∨ (M o 1) ≤ p1 then ((0 : Int32)) else ((1 : Int32))
set_option maxRecDepth 100000 in
set_option maxHeartbeats 4000000 in
theorem c_X4_has {D : va_G} {Y : JY} {ty : Nat → ClassId} {ad : Nat → Nat} {sz : Nat} {l : Launch} {M : JM} (hY : j_ok Y) {o : Nat} {p1 : Int32} (ho : j_kd Y o = 4) {r : Int32} (hE : s_X4_has Y M o p1 = r) : JMz D Y ty ad sz l yX4_has cX4_has 2 0 0 [.ref (ad o), .int p1] M r M := by
  refine j_ofZ hY (by decide +kernel) (Nat.le_of_ble_eq_true rfl) (fun p e s m below meth c args R Q A hRf hRl hA jc jw kr ls hl => ?_)
  have hx := jc.1
  have hb := jc.2.1
  have hl : lv_has ls 2 [(0, .ref (ad o)), (1, .int p1)] := hl
  unfold s_X4_has at hE
  obtain ⟨G0, eG0, hE⟩ := j_F0 hE
  refine lv_iload_n hx hb dX4_has_0 rfl (lv_at hl 1 rfl) ?_
  have B3 : ∀ (H : Heap) (locs : List Loc), JW D Y ty ad A s.heap M H locs → (p1 < 0 ∨ (M o 1) ≤ p1) → W p l e R s m args below meth c H locs 0 0 Q (F0 m 16 ls []) := by
    intro H locs jw hcc
    rw [if_pos hcc] at hE
    refine lv_iconst (v := 0) hx hb dX4_has_16 (by decide) ?_
    exact kr _ _ _ _ _ _ (j_ret eG0 hE) rfl (by decide) jw dX4_has_17
  refine lv_if_lt (tgt := 16) hx hb dX4_has_1 (by decide) (fun c1 => B3 _ _ jw (Or.inl c1)) (fun c1 => ?_)
  refine lv_iload_n hx hb dX4_has_4 rfl (lv_at hl 1 rfl) ?_
  refine lv_aload_n hx hb dX4_has_5 rfl (lv_at hl 0 rfl) ?_
  refine jg_4_1 jc jw ho wd_3_188 dX4_has_6 ?_
  refine lv_icmp_ge (tgt := 16) hx hb dX4_has_9 (by decide) (fun c2 => B3 _ _ jw (Or.inr c2)) (fun c2 => ?_)
  rw [if_neg (fun hq => hq.elim (fun hq => (j_abs c1 hq)) (fun hq => (j_abs c2 hq)))] at hE
  refine lv_iconst (v := 1) hx hb dX4_has_12 (by decide) ?_
  refine lv_goto (tgt := 17) hx hb dX4_has_13 (by decide) ?_
  exact kr _ _ _ _ _ _ (j_ret eG0 hE) rfl (by decide) jw dX4_has_17
def s_X4_at (Y : JY) (M : JM) (o : Nat) (p1 : Int32) : Int32 := if p1 < 0 ∨ (M o 1) ≤ p1 ∨ (Int32.ofNat (j_ln Y (j_rf Y o 0))) ≤ p1 then ((-1 : Int32)) else ((M (j_rf Y o 0) p1.toNatClampNeg))
set_option maxRecDepth 100000 in
set_option maxHeartbeats 4000000 in
theorem c_X4_at {D : va_G} {Y : JY} {ty : Nat → ClassId} {ad : Nat → Nat} {sz : Nat} {l : Launch} {M : JM} (hY : j_ok Y) {o : Nat} {p1 : Int32} (ho : j_kd Y o = 4) {r : Int32} (hE : s_X4_at Y M o p1 = r) : JMi D Y ty ad sz l yX4_at cX4_at 2 (some .int) 0 0 [.ref (ad o), .int p1] M r M := by
  refine j_ofI hY (by decide +kernel) (Nat.le_of_ble_eq_true rfl) (fun p e s m below meth c args R Q A hRf hRl hA jc jw kr ls hl => ?_)
  have hx := jc.1
  have hb := jc.2.1
  have hl : lv_has ls 2 [(0, .ref (ad o)), (1, .int p1)] := hl
  unfold s_X4_at at hE
  obtain ⟨G0, eG0, hE⟩ := j_F0 hE
  refine lv_iload_n hx hb dX4_at_0 rfl (lv_at hl 1 rfl) ?_
  have B5 : ∀ (H : Heap) (locs : List Loc), JW D Y ty ad A s.heap M H locs → (p1 < 0 ∨ (M o 1) ≤ p1 ∨ (Int32.ofNat (j_ln Y (j_rf Y o 0))) ≤ p1) → W p l e R s m args below meth c H locs 0 0 Q (F0 m 30 ls []) := by
    intro H locs jw hcc
    rw [if_pos hcc] at hE
    refine lv_iconst (v := -1) hx hb dX4_at_30 (by decide) ?_
    exact kr _ _ _ _ _ _ (j_ret eG0 hE) rfl jw dX4_at_31
  refine lv_if_lt (tgt := 30) hx hb dX4_at_1 (by decide) (fun c1 => B5 _ _ jw (Or.inl c1)) (fun c1 => ?_)
  refine lv_iload_n hx hb dX4_at_4 rfl (lv_at hl 1 rfl) ?_
  refine lv_aload_n hx hb dX4_at_5 rfl (lv_at hl 0 rfl) ?_
  refine jg_4_1 jc jw ho wd_3_188 dX4_at_6 ?_
  refine lv_icmp_ge (tgt := 30) hx hb dX4_at_9 (by decide) (fun c2 => B5 _ _ jw (Or.inr (Or.inl c2))) (fun c2 => ?_)
  refine lv_iload_n hx hb dX4_at_12 rfl (lv_at hl 1 rfl) ?_
  refine lv_aload_n hx hb dX4_at_13 rfl (lv_at hl 0 rfl) ?_
  refine jg_4_0 jc jw ho wd_3_187 dX4_at_14 ?_
  have k3 := j_sub hY ho 0 (f := 100) rfl (by decide) (by decide) (by decide)
  refine jr_alen jc jw (Or.inl k3) dX4_at_17 ?_
  refine lv_icmp_ge (tgt := 30) hx hb dX4_at_18 (by decide) (fun c4 => B5 _ _ jw (Or.inr (Or.inr c4))) (fun c4 => ?_)
  rw [if_neg (fun hq => hq.elim (fun hq => (j_abs c1 hq)) (fun hq => hq.elim (fun hq => (j_abs c2 hq)) (fun hq => (j_abs c4 hq))))] at hE
  refine lv_aload_n hx hb dX4_at_21 rfl (lv_at hl 0 rfl) ?_
  refine jg_4_0 jc jw ho wd_3_187 dX4_at_22 ?_
  refine lv_iload_n hx hb dX4_at_25 rfl (lv_at hl 1 rfl) ?_
  refine jr_iald jc jw k3 (j_inN hY k3 (by decide) c1 c4) dX4_at_26 ?_
  refine lv_goto (tgt := 31) hx hb dX4_at_27 (by decide) ?_
  exact kr _ _ _ _ _ _ (j_ret eG0 hE) rfl jw dX4_at_31
def s_X4_put (Y : JY) (M : JM) (o : Nat) (p1 : Int32) (p2 : Int32) : JM := if p1 < 0 ∨ (M o 1) ≤ p1 ∨ (Int32.ofNat (j_ln Y (j_rf Y o 0))) ≤ p1 then (M) else (lt_ (j_up M (j_rf Y o 0) p1.toNatClampNeg p2) fun mm5 => mm5)
set_option maxRecDepth 100000 in
set_option maxHeartbeats 4000000 in
theorem c_X4_put {D : va_G} {Y : JY} {ty : Nat → ClassId} {ad : Nat → Nat} {sz : Nat} {l : Launch} {M : JM} (hY : j_ok Y) {o : Nat} {p1 : Int32} {p2 : Int32} (ho : j_kd Y o = 4) {r : JM} (hE : s_X4_put Y M o p1 p2 = r) : JMv D Y ty ad sz l yX4_put cX4_put 3 0 0 [.ref (ad o), .int p1, .int p2] M r := by
  refine j_ofV hY (by decide +kernel) (Nat.le_of_ble_eq_true rfl) (fun p e s m below meth c args R Q A hRf hRl hA jc jw kr ls hl => ?_)
  have hx := jc.1
  have hb := jc.2.1
  have hl : lv_has ls 3 [(0, .ref (ad o)), (1, .int p1), (2, .int p2)] := hl
  unfold s_X4_put at hE
  obtain ⟨G0, eG0, hE⟩ := j_F0 hE
  refine lv_iload_n hx hb dX4_put_0 rfl (lv_at hl 1 rfl) ?_
  have B6 : ∀ (H : Heap) (locs : List Loc), JW D Y ty ad A s.heap M H locs → (p1 < 0 ∨ (M o 1) ≤ p1 ∨ (Int32.ofNat (j_ln Y (j_rf Y o 0))) ≤ p1) → W p l e R s m args below meth c H locs 0 0 Q (F0 m 28 ls []) := by
    intro H locs jw hcc
    rw [if_pos hcc] at hE
    exact kr _ _ _ _ _ (j_ret eG0 hE) jw dX4_put_28
  refine lv_if_lt (tgt := 28) hx hb dX4_put_1 (by decide) (fun c1 => B6 _ _ jw (Or.inl c1)) (fun c1 => ?_)
  refine lv_iload_n hx hb dX4_put_4 rfl (lv_at hl 1 rfl) ?_
  refine lv_aload_n hx hb dX4_put_5 rfl (lv_at hl 0 rfl) ?_
  refine jg_4_1 jc jw ho wd_3_188 dX4_put_6 ?_
  refine lv_icmp_ge (tgt := 28) hx hb dX4_put_9 (by decide) (fun c2 => B6 _ _ jw (Or.inr (Or.inl c2))) (fun c2 => ?_)
  refine lv_iload_n hx hb dX4_put_12 rfl (lv_at hl 1 rfl) ?_
  refine lv_aload_n hx hb dX4_put_13 rfl (lv_at hl 0 rfl) ?_
  refine jg_4_0 jc jw ho wd_3_187 dX4_put_14 ?_
  have k3 := j_sub hY ho 0 (f := 100) rfl (by decide) (by decide) (by decide)
  refine jr_alen jc jw (Or.inl k3) dX4_put_17 ?_
  refine lv_icmp_ge (tgt := 28) hx hb dX4_put_18 (by decide) (fun c4 => B6 _ _ jw (Or.inr (Or.inr c4))) (fun c4 => ?_)
  rw [if_neg (fun hq => hq.elim (fun hq => (j_abs c1 hq)) (fun hq => hq.elim (fun hq => (j_abs c2 hq)) (fun hq => (j_abs c4 hq))))] at hE
  refine lv_aload_n hx hb dX4_put_21 rfl (lv_at hl 0 rfl) ?_
  refine jg_4_0 jc jw ho wd_3_187 dX4_put_22 ?_
  refine lv_iload_n hx hb dX4_put_25 rfl (lv_at hl 1 rfl) ?_
  refine lv_iload_n hx hb dX4_put_26 rfl (lv_at hl 2 rfl) ?_
  refine jr_iast jc jw k3 (j_inN hY k3 (by decide) c1 c4) dX4_put_27 (fun H locs jw => ?_)
  obtain ⟨mm5, emm5, hE⟩ := j_lv hE
  rw [← emm5] at jw
  try dsimp only at hE
  exact kr _ _ _ _ _ (j_ret eG0 hE) jw dX4_put_28
def s_X4_clear (Y : JY) (M : JM) (o : Nat) : JM := lt_ (j_up M o 1 (0 : Int32)) fun mm1 => mm1
set_option maxRecDepth 100000 in
set_option maxHeartbeats 4000000 in
theorem c_X4_clear {D : va_G} {Y : JY} {ty : Nat → ClassId} {ad : Nat → Nat} {sz : Nat} {l : Launch} {M : JM} (hY : j_ok Y) {o : Nat} (ho : j_kd Y o = 4) {r : JM} (hE : s_X4_clear Y M o = r) : JMv D Y ty ad sz l yX4_clear cX4_clear 1 0 0 [.ref (ad o)] M r := by
  refine j_ofV hY (by decide +kernel) (Nat.le_of_ble_eq_true rfl) (fun p e s m below meth c args R Q A hRf hRl hA jc jw kr ls hl => ?_)
  have hx := jc.1
  have hb := jc.2.1
  have hl : lv_has ls 1 [(0, .ref (ad o))] := hl
  unfold s_X4_clear at hE
  obtain ⟨G0, eG0, hE⟩ := j_F0 hE
  refine lv_aload_n hx hb dX4_clear_0 rfl (lv_at hl 0 rfl) ?_
  refine lv_iconst (v := 0) hx hb dX4_clear_1 (by decide) ?_
  refine js_4_1 jc jw ho wd_3_188 dX4_clear_2 (fun H locs jw => ?_)
  obtain ⟨mm1, emm1, hE⟩ := j_lv hE
  rw [← emm1] at jw
  try dsimp only at hE
  exact kr _ _ _ _ _ (j_ret eG0 hE) jw dX4_clear_5
def s_X4_push (Y : JY) (M : JM) (o : Nat) (p1 : Int32) : JM := if (M o 1) < 0 ∨ (Int32.ofNat (j_ln Y (j_rf Y o 0))) ≤ (M o 1) then (M) else (lt_ (j_up M (j_rf Y o 0) (M o 1).toNatClampNeg p1) fun mm4 => lt_ (j_up mm4 o 1 ((mm4 o 1) + (1 : Int32))) fun mm5 => mm5)
set_option maxRecDepth 100000 in
set_option maxHeartbeats 4000000 in
theorem c_X4_push {D : va_G} {Y : JY} {ty : Nat → ClassId} {ad : Nat → Nat} {sz : Nat} {l : Launch} {M : JM} (hY : j_ok Y) {o : Nat} {p1 : Int32} (ho : j_kd Y o = 4) {r : JM} (hE : s_X4_push Y M o p1 = r) : JMv D Y ty ad sz l yX4_push cX4_push 2 0 0 [.ref (ad o), .int p1] M r := by
  refine j_ofV hY (by decide +kernel) (Nat.le_of_ble_eq_true rfl) (fun p e s m below meth c args R Q A hRf hRl hA jc jw kr ls hl => ?_)
  have hx := jc.1
  have hb := jc.2.1
  have hl : lv_has ls 2 [(0, .ref (ad o)), (1, .int p1)] := hl
  unfold s_X4_push at hE
  obtain ⟨G0, eG0, hE⟩ := j_F0 hE
  refine lv_aload_n hx hb dX4_push_0 rfl (lv_at hl 0 rfl) ?_
  refine jg_4_1 jc jw ho wd_3_188 dX4_push_1 ?_
  have B6 : ∀ (H : Heap) (locs : List Loc), JW D Y ty ad A s.heap M H locs → ((M o 1) < 0 ∨ (Int32.ofNat (j_ln Y (j_rf Y o 0))) ≤ (M o 1)) → W p l e R s m args below meth c H locs 0 0 Q (F0 m 39 ls []) := by
    intro H locs jw hcc
    rw [if_pos hcc] at hE
    exact kr _ _ _ _ _ (j_ret eG0 hE) jw dX4_push_39
  refine lv_if_lt (tgt := 39) hx hb dX4_push_4 (by decide) (fun c1 => B6 _ _ jw (Or.inl c1)) (fun c1 => ?_)
  refine lv_aload_n hx hb dX4_push_7 rfl (lv_at hl 0 rfl) ?_
  refine jg_4_1 jc jw ho wd_3_188 dX4_push_8 ?_
  refine lv_aload_n hx hb dX4_push_11 rfl (lv_at hl 0 rfl) ?_
  refine jg_4_0 jc jw ho wd_3_187 dX4_push_12 ?_
  have k2 := j_sub hY ho 0 (f := 100) rfl (by decide) (by decide) (by decide)
  refine jr_alen jc jw (Or.inl k2) dX4_push_15 ?_
  refine lv_icmp_ge (tgt := 39) hx hb dX4_push_16 (by decide) (fun c3 => B6 _ _ jw (Or.inr c3)) (fun c3 => ?_)
  rw [if_neg (fun hq => hq.elim (fun hq => (j_abs c1 hq)) (fun hq => (j_abs c3 hq)))] at hE
  refine lv_aload_n hx hb dX4_push_19 rfl (lv_at hl 0 rfl) ?_
  refine jg_4_0 jc jw ho wd_3_187 dX4_push_20 ?_
  refine lv_aload_n hx hb dX4_push_23 rfl (lv_at hl 0 rfl) ?_
  refine jg_4_1 jc jw ho wd_3_188 dX4_push_24 ?_
  refine lv_iload_n hx hb dX4_push_27 rfl (lv_at hl 1 rfl) ?_
  refine jr_iast jc jw k2 (j_inN hY k2 (by decide) c1 c3) dX4_push_28 (fun H locs jw => ?_)
  obtain ⟨mm4, emm4, hE⟩ := j_lv hE
  rw [← emm4] at jw
  try dsimp only at hE
  refine lv_aload_n hx hb dX4_push_29 rfl (lv_at hl 0 rfl) ?_
  refine lv_dup hx hb dX4_push_30 rfl ?_
  refine jg_4_1 jc jw ho wd_3_188 dX4_push_31 ?_
  refine lv_iconst (v := 1) hx hb dX4_push_34 (by decide) ?_
  refine lv_iadd hx hb dX4_push_35 ?_
  refine js_4_1 jc jw ho wd_3_188 dX4_push_36 (fun H locs jw => ?_)
  obtain ⟨mm5, emm5, hE⟩ := j_lv hE
  rw [← emm5] at jw
  try dsimp only at hE
  exact kr _ _ _ _ _ (j_ret eG0 hE) jw dX4_push_39
def lp_X4_pushPart_1 (Y : JY) (p3 : Int32) (o : Nat) (q1 : Nat) (n : Nat) (vv2 : Int32) (mm3 : JM) : Option (JM) := match n with
  | 0 => none
  | n + 1 => if p3 ≤ vv2 then (some mm3) else (lt_ (s_X4_push Y mm3 o (s_X4_at Y mm3 q1 vv2)) fun xx5 => lt_ (vv2 + (1 : Int32)) fun vv6 => lp_X4_pushPart_1 Y p3 o q1 n vv6 xx5)
def s_X4_pushPart (Y : JY) (M : JM) (o : Nat) (q1 : Nat) (p2 : Int32) (p3 : Int32) : Option (JM) := (lp_X4_pushPart_1 Y p3 o q1 j_fuel p2 M).bind fun xx7 => some xx7
set_option maxRecDepth 100000 in
set_option maxHeartbeats 4000000 in
theorem c_X4_pushPart {D : va_G} {Y : JY} {ty : Nat → ClassId} {ad : Nat → Nat} {sz : Nat} {l : Launch} {M : JM} (hY : j_ok Y) {o : Nat} {q1 : Nat} {p2 : Int32} {p3 : Int32} (ho : j_kd Y o = 4) (hq1 : j_kd Y q1 = 4) {r : JM} (hE : s_X4_pushPart Y M o q1 p2 p3 = some r) : JMv D Y ty ad sz l yX4_pushPart cX4_pushPart 5 1 21 [.ref (ad o), .ref (ad q1), .int p2, .int p3] M r := by
  refine j_ofV hY (by decide +kernel) (Nat.le_of_ble_eq_true rfl) (fun p e s m below meth c args R Q A hRf hRl hA jc jw kr ls hl => ?_)
  have hx := jc.1
  have hb := jc.2.1
  have hl : lv_has ls 5 [(0, .ref (ad o)), (1, .ref (ad q1)), (2, .int p2), (3, .int p3)] := hl
  unfold s_X4_pushPart at hE
  obtain ⟨G0, eG0, hG0, hE⟩ := j_F0o hE
  refine lv_iload_n hx hb dX4_pushPart_0 rfl (lv_at hl 2 rfl) ?_
  refine lv_istore (lv' := [(4, .int p2), (0, .ref (ad o)), (1, .ref (ad q1)), (2, .int p2), (3, .int p3)]) hx hb dX4_pushPart_1 hl (by decide) rfl (fun ls hl => ?_)
  obtain ⟨G1, eG1, hG1, hE⟩ := j_ctxB hG0 hE
  have LP1 : ∀ (n : Nat) (vv2 : Int32) (mm3 : JM) (H : Heap) (locs : List Loc) (ls : Array Slot), G1 (lp_X4_pushPart_1 Y p3 o q1 n vv2 mm3) = some r → JW D Y ty ad A s.heap mm3 H locs → lv_has ls 5 [(4, .int vv2), (0, .ref (ad o)), (1, .ref (ad q1)), (3, .int p3)] → W p l e R s m args below meth c H locs 0 0 Q (F0 m 3 ls []) := by
    intro n
    induction n with
    | zero => intro vv2 mm3 H locs ls hE jw hl; exact absurd hE (hG1 _)
    | succ n ih =>
      intro vv2 mm3 H locs ls hE jw hl
      rw [lp_X4_pushPart_1] at hE
      refine lv_iload hx hb dX4_pushPart_3 (lv_at hl 0 rfl) ?_
      refine lv_iload_n hx hb dX4_pushPart_5 rfl (lv_at hl 3 rfl) ?_
      refine lv_icmp_ge (tgt := 25) hx hb dX4_pushPart_6 (by decide) (fun c4 => ?_) (fun c4 => ?_)
      · rw [if_pos c4] at hE
        replace hE := j_popB eG1 hE
        try dsimp only at hE
        exact kr _ _ _ _ _ (Option.some.inj (j_ret eG0 hE)) jw dX4_pushPart_25
      · rw [if_neg c4] at hE
        refine lv_aload_n hx hb dX4_pushPart_9 rfl (lv_at hl 1 rfl) ?_
        refine lv_aload_n hx hb dX4_pushPart_10 rfl (lv_at hl 2 rfl) ?_
        refine lv_iload hx hb dX4_pushPart_11 (lv_at hl 0 rfl) ?_
        refine jc_vi [.int vv2] [.ref (ad o)] jc jw hA hq1 (by decide) rfl (c_X4_at hY hq1 (M := mm3) rfl) sd_X4_19 rfl hl.1 (j_hR hRf hRl rfl rfl) (Nat.le_of_ble_eq_true rfl) dX4_pushPart_13 (fun H locs jw => ?_)
        obtain ⟨xx5, exx5, hE⟩ := j_lv hE
        try dsimp only at hE
        refine jc_vv [.int (s_X4_at Y mm3 q1 vv2)] [] jc jw hA ho (by decide) rfl (c_X4_push hY ho (M := mm3) exx5.symm) sd_X4_23 rfl hl.1 (j_hR hRf hRl rfl rfl) (Nat.le_of_ble_eq_true rfl) dX4_pushPart_16 (fun H locs jw => ?_)
        obtain ⟨vv6, evv6, hE⟩ := j_lv hE
        try dsimp only at hE
        refine lv_iinc (v := vv6) (lv' := [(4, .int vv6), (0, .ref (ad o)), (1, .ref (ad q1)), (3, .int p3)]) hx hb dX4_pushPart_19 hl (k := 0) rfl (by rw [evv6]; rfl) (by decide) rfl (fun ls hl => ?_)
        refine lv_goto (tgt := 3) hx hb dX4_pushPart_22 (by decide) ?_
        exact ih vv6 xx5 H locs ls hE jw (lv_sub hl [0, 1, 2, 3] rfl)
  exact LP1 j_fuel p2 M s.heap [] ls hE jw (lv_sub hl [0, 1, 2, 4] rfl)
def lp_X4_pushAt_1 (Y : JY) (p1 : Int32) (o : Nat) (n : Nat) (vv4 : Int32) (mm5 : JM) : Option (JM) := match n with
  | 0 => none
  | n + 1 => if vv4 ≤ p1 then (some mm5) else (lt_ (s_X4_put Y mm5 o vv4 (s_X4_at Y mm5 o (vv4 - (1 : Int32)))) fun xx7 => lt_ (vv4 + (-1 : Int32)) fun vv8 => lp_X4_pushAt_1 Y p1 o n vv8 xx7)
def s_X4_pushAt (Y : JY) (M : JM) (o : Nat) (p1 : Int32) (p2 : Int32) : Option (JM) := lt_ (s_X4_push Y M o p2) fun xx1 => lt_ ((xx1 o 1) - (1 : Int32)) fun vv2 => (lp_X4_pushAt_1 Y p1 o j_fuel vv2 xx1).bind fun xx11 => lt_ (s_X4_put Y xx11 o p1 p2) fun xx10 => some xx10
set_option maxRecDepth 100000 in
set_option maxHeartbeats 4000000 in
theorem c_X4_pushAt {D : va_G} {Y : JY} {ty : Nat → ClassId} {ad : Nat → Nat} {sz : Nat} {l : Launch} {M : JM} (hY : j_ok Y) {o : Nat} {p1 : Int32} {p2 : Int32} (ho : j_kd Y o = 4) {r : JM} (hE : s_X4_pushAt Y M o p1 p2 = some r) : JMv D Y ty ad sz l yX4_pushAt cX4_pushAt 4 1 22 [.ref (ad o), .int p1, .int p2] M r := by
  refine j_ofV hY (by decide +kernel) (Nat.le_of_ble_eq_true rfl) (fun p e s m below meth c args R Q A hRf hRl hA jc jw kr ls hl => ?_)
  have hx := jc.1
  have hb := jc.2.1
  have hl : lv_has ls 4 [(0, .ref (ad o)), (1, .int p1), (2, .int p2)] := hl
  unfold s_X4_pushAt at hE
  obtain ⟨G0, eG0, hG0, hE⟩ := j_F0o hE
  refine lv_aload_n hx hb dX4_pushAt_0 rfl (lv_at hl 0 rfl) ?_
  refine lv_iload_n hx hb dX4_pushAt_1 rfl (lv_at hl 2 rfl) ?_
  obtain ⟨xx1, exx1, hE⟩ := j_lv hE
  try dsimp only at hE
  refine jc_vv [.int p2] [] jc jw hA ho (by decide) rfl (c_X4_push hY ho (M := M) exx1.symm) sd_X4_23 rfl hl.1 (j_hR hRf hRl rfl rfl) (Nat.le_of_ble_eq_true rfl) dX4_pushAt_2 (fun H locs jw => ?_)
  refine lv_aload_n hx hb dX4_pushAt_5 rfl (lv_at hl 0 rfl) ?_
  refine jg_4_1 jc jw ho wd_3_188 dX4_pushAt_6 ?_
  refine lv_iconst (v := 1) hx hb dX4_pushAt_9 (by decide) ?_
  refine lv_isub hx hb dX4_pushAt_10 ?_
  refine lv_topi (fun vv2 evv2 => ?_)
  replace hE := j_lu hE evv2
  try dsimp only at hE
  refine lv_istore_n (lv' := [(3, .int vv2), (0, .ref (ad o)), (1, .int p1), (2, .int p2)]) hx hb dX4_pushAt_11 rfl hl (by decide) rfl (fun ls hl => ?_)
  obtain ⟨G3, eG3, hG3, hE⟩ := j_ctxB hG0 hE
  have E3_35 : ∀ (mm9 : JM)  (H : Heap) (locs : List Loc) (ls : Array Slot), G3 (some mm9) = some r → JW D Y ty ad A s.heap mm9 H locs → lv_has ls 4 [(0, .ref (ad o)), (1, .int p1), (2, .int p2)] → W p l e R s m args below meth c H locs 0 0 Q (F0 m 35 ls []) := by
    intro mm9  H locs ls hE jw hl
    replace hE := j_popB eG3 hE
    try dsimp only at hE
    refine lv_aload_n hx hb dX4_pushAt_35 rfl (lv_at hl 0 rfl) ?_
    refine lv_iload_n hx hb dX4_pushAt_36 rfl (lv_at hl 1 rfl) ?_
    refine lv_iload_n hx hb dX4_pushAt_37 rfl (lv_at hl 2 rfl) ?_
    obtain ⟨xx10, exx10, hE⟩ := j_lv hE
    try dsimp only at hE
    refine jc_vv [.int p1, .int p2] [] jc jw hA ho (by decide) rfl (c_X4_put hY ho (M := mm9) exx10.symm) sd_X4_27 rfl hl.1 (j_hR hRf hRl rfl rfl) (Nat.le_of_ble_eq_true rfl) dX4_pushAt_38 (fun H locs jw => ?_)
    exact kr _ _ _ _ _ (Option.some.inj (j_ret eG0 hE)) jw dX4_pushAt_41
  have LP3 : ∀ (n : Nat) (vv4 : Int32) (mm5 : JM) (H : Heap) (locs : List Loc) (ls : Array Slot), G3 (lp_X4_pushAt_1 Y p1 o n vv4 mm5) = some r → JW D Y ty ad A s.heap mm5 H locs → lv_has ls 4 [(3, .int vv4), (0, .ref (ad o)), (1, .int p1), (2, .int p2)] → W p l e R s m args below meth c H locs 0 0 Q (F0 m 12 ls []) := by
    intro n
    induction n with
    | zero => intro vv4 mm5 H locs ls hE jw hl; exact absurd hE (hG3 _)
    | succ n ih =>
      intro vv4 mm5 H locs ls hE jw hl
      rw [lp_X4_pushAt_1] at hE
      refine lv_iload_n hx hb dX4_pushAt_12 rfl (lv_at hl 0 rfl) ?_
      refine lv_iload_n hx hb dX4_pushAt_13 rfl (lv_at hl 2 rfl) ?_
      refine lv_icmp_le (tgt := 35) hx hb dX4_pushAt_14 (by decide) (fun c6 => ?_) (fun c6 => ?_)
      · rw [if_pos c6] at hE
        exact E3_35 mm5  H locs ls hE jw (lv_sub hl [1, 2, 3] rfl)
      · rw [if_neg c6] at hE
        refine lv_aload_n hx hb dX4_pushAt_17 rfl (lv_at hl 1 rfl) ?_
        refine lv_iload_n hx hb dX4_pushAt_18 rfl (lv_at hl 0 rfl) ?_
        refine lv_aload_n hx hb dX4_pushAt_19 rfl (lv_at hl 1 rfl) ?_
        refine lv_iload_n hx hb dX4_pushAt_20 rfl (lv_at hl 0 rfl) ?_
        refine lv_iconst (v := 1) hx hb dX4_pushAt_21 (by decide) ?_
        refine lv_isub hx hb dX4_pushAt_22 ?_
        refine jc_vi [.int (vv4 - (1 : Int32))] [.int vv4, .ref (ad o)] jc jw hA ho (by decide) rfl (c_X4_at hY ho (M := mm5) rfl) sd_X4_19 rfl hl.1 (j_hR hRf hRl rfl rfl) (Nat.le_of_ble_eq_true rfl) dX4_pushAt_23 (fun H locs jw => ?_)
        obtain ⟨xx7, exx7, hE⟩ := j_lv hE
        try dsimp only at hE
        refine jc_vv [.int vv4, .int (s_X4_at Y mm5 o (vv4 - (1 : Int32)))] [] jc jw hA ho (by decide) rfl (c_X4_put hY ho (M := mm5) exx7.symm) sd_X4_27 rfl hl.1 (j_hR hRf hRl rfl rfl) (Nat.le_of_ble_eq_true rfl) dX4_pushAt_26 (fun H locs jw => ?_)
        obtain ⟨vv8, evv8, hE⟩ := j_lv hE
        try dsimp only at hE
        refine lv_iinc (v := vv8) (lv' := [(3, .int vv8), (0, .ref (ad o)), (1, .int p1), (2, .int p2)]) hx hb dX4_pushAt_29 hl (k := 0) rfl (by rw [evv8]; rfl) (by decide) rfl (fun ls hl => ?_)
        refine lv_goto (tgt := 12) hx hb dX4_pushAt_32 (by decide) ?_
        exact ih vv8 xx7 H locs ls hE jw (lv_sub hl [0, 1, 2, 3] rfl)
  exact LP3 j_fuel vv2 xx1 H locs ls hE jw (lv_sub hl [0, 1, 2, 3] rfl)
def lp_X4_removeAt_1 (Y : JY) (o : Nat) (n : Nat) (vv5 : Int32) (mm6 : JM) : Option (JM) := match n with
  | 0 => none
  | n + 1 => if ((mm6 o 1) - (1 : Int32)) ≤ vv5 then (some mm6) else (lt_ (s_X4_put Y mm6 o vv5 (s_X4_at Y mm6 o (vv5 + (1 : Int32)))) fun xx8 => lt_ (vv5 + (1 : Int32)) fun vv9 => lp_X4_removeAt_1 Y o n vv9 xx8)
def s_X4_removeAt (Y : JY) (M : JM) (o : Nat) (p1 : Int32) : Option (Int32 × JM) := lt_ (s_X4_at Y M o p1) fun vv1 => if (s_X4_has Y M o p1) = 0 then (some (vv1, M)) else ((lp_X4_removeAt_1 Y o j_fuel p1 M).bind fun xx12 => lt_ (j_up xx12 o 1 ((xx12 o 1) - (1 : Int32))) fun mm11 => some (vv1, mm11))
set_option maxRecDepth 100000 in
set_option maxHeartbeats 4000000 in
theorem c_X4_removeAt {D : va_G} {Y : JY} {ty : Nat → ClassId} {ad : Nat → Nat} {sz : Nat} {l : Launch} {M : JM} (hY : j_ok Y) {o : Nat} {p1 : Int32} (ho : j_kd Y o = 4) {r : Int32 × JM} (hE : s_X4_removeAt Y M o p1 = some r) : JMi D Y ty ad sz l yX4_removeAt cX4_removeAt 4 (some .int) 1 22 [.ref (ad o), .int p1] M r.1 r.2 := by
  refine j_ofI hY (by decide +kernel) (Nat.le_of_ble_eq_true rfl) (fun p e s m below meth c args R Q A hRf hRl hA jc jw kr ls hl => ?_)
  have hx := jc.1
  have hb := jc.2.1
  have hl : lv_has ls 4 [(0, .ref (ad o)), (1, .int p1)] := hl
  unfold s_X4_removeAt at hE
  obtain ⟨G0, eG0, hG0, hE⟩ := j_F0o hE
  refine lv_aload_n hx hb dX4_removeAt_0 rfl (lv_at hl 0 rfl) ?_
  refine lv_iload_n hx hb dX4_removeAt_1 rfl (lv_at hl 1 rfl) ?_
  refine jc_vi [.int p1] [] jc jw hA ho (by decide) rfl (c_X4_at hY ho (M := M) rfl) sd_X4_19 rfl hl.1 (j_hR hRf hRl rfl rfl) (Nat.le_of_ble_eq_true rfl) dX4_removeAt_2 (fun H locs jw => ?_)
  refine lv_topi (fun vv1 evv1 => ?_)
  replace hE := j_lu hE evv1
  try dsimp only at hE
  refine lv_istore_n (lv' := [(2, .int vv1), (0, .ref (ad o)), (1, .int p1)]) hx hb dX4_removeAt_5 rfl hl (by decide) rfl (fun ls hl => ?_)
  refine lv_aload_n hx hb dX4_removeAt_6 rfl (lv_at hl 1 rfl) ?_
  refine lv_iload_n hx hb dX4_removeAt_7 rfl (lv_at hl 2 rfl) ?_
  refine jc_vz [.int p1] [] jc jw hA ho (by decide) rfl (c_X4_has hY ho (M := M) rfl) sd_X4_31 rfl hl.1 (j_hR hRf hRl rfl rfl) (Nat.le_of_ble_eq_true rfl) dX4_removeAt_8 (fun H locs jw hz => ?_)
  have z_2 := hz
  refine lv_if_eq (tgt := 54) hx hb dX4_removeAt_11 (by decide) (fun c3 => ?_) (fun c3 => ?_)
  · rw [if_pos c3] at hE
    refine lv_iload_n hx hb dX4_removeAt_54 rfl (lv_at hl 0 rfl) ?_
    exact kr _ _ _ _ _ _ (j_fst (Option.some.inj (j_ret eG0 hE))) (j_snd (Option.some.inj (j_ret eG0 hE))) jw dX4_removeAt_55
  · rw [if_neg c3] at hE
    refine lv_iload_n hx hb dX4_removeAt_14 rfl (lv_at hl 2 rfl) ?_
    refine lv_istore_n (lv' := [(3, .int p1), (2, .int vv1), (0, .ref (ad o)), (1, .int p1)]) hx hb dX4_removeAt_15 rfl hl (by decide) rfl (fun ls hl => ?_)
    obtain ⟨G4, eG4, hG4, hE⟩ := j_ctxB hG0 hE
    have E4_44 : ∀ (mm10 : JM)  (H : Heap) (locs : List Loc) (ls : Array Slot), G4 (some mm10) = some r → JW D Y ty ad A s.heap mm10 H locs → lv_has ls 4 [(2, .int vv1), (0, .ref (ad o))] → W p l e R s m args below meth c H locs 0 0 Q (F0 m 44 ls []) := by
      intro mm10  H locs ls hE jw hl
      replace hE := j_popB eG4 hE
      try dsimp only at hE
      refine lv_aload_n hx hb dX4_removeAt_44 rfl (lv_at hl 1 rfl) ?_
      refine lv_dup hx hb dX4_removeAt_45 rfl ?_
      refine jg_4_1 jc jw ho wd_3_188 dX4_removeAt_46 ?_
      refine lv_iconst (v := 1) hx hb dX4_removeAt_49 (by decide) ?_
      refine lv_isub hx hb dX4_removeAt_50 ?_
      refine js_4_1 jc jw ho wd_3_188 dX4_removeAt_51 (fun H locs jw => ?_)
      obtain ⟨mm11, emm11, hE⟩ := j_lv hE
      rw [← emm11] at jw
      try dsimp only at hE
      refine lv_iload_n hx hb dX4_removeAt_54 rfl (lv_at hl 0 rfl) ?_
      exact kr _ _ _ _ _ _ (j_fst (Option.some.inj (j_ret eG0 hE))) (j_snd (Option.some.inj (j_ret eG0 hE))) jw dX4_removeAt_55
    have LP4 : ∀ (n : Nat) (vv5 : Int32) (mm6 : JM) (H : Heap) (locs : List Loc) (ls : Array Slot), G4 (lp_X4_removeAt_1 Y o n vv5 mm6) = some r → JW D Y ty ad A s.heap mm6 H locs → lv_has ls 4 [(3, .int vv5), (2, .int vv1), (0, .ref (ad o))] → W p l e R s m args below meth c H locs 0 0 Q (F0 m 16 ls []) := by
      intro n
      induction n with
      | zero => intro vv5 mm6 H locs ls hE jw hl; exact absurd hE (hG4 _)
      | succ n ih =>
        intro vv5 mm6 H locs ls hE jw hl
        rw [lp_X4_removeAt_1] at hE
        refine lv_iload_n hx hb dX4_removeAt_16 rfl (lv_at hl 0 rfl) ?_
        refine lv_aload_n hx hb dX4_removeAt_17 rfl (lv_at hl 2 rfl) ?_
        refine jg_4_1 jc jw ho wd_3_188 dX4_removeAt_18 ?_
        refine lv_iconst (v := 1) hx hb dX4_removeAt_21 (by decide) ?_
        refine lv_isub hx hb dX4_removeAt_22 ?_
        refine lv_icmp_ge (tgt := 44) hx hb dX4_removeAt_23 (by decide) (fun c7 => ?_) (fun c7 => ?_)
        · rw [if_pos c7] at hE
          exact E4_44 mm6  H locs ls hE jw (lv_sub hl [1, 2] rfl)
        · rw [if_neg c7] at hE
          refine lv_aload_n hx hb dX4_removeAt_26 rfl (lv_at hl 2 rfl) ?_
          refine lv_iload_n hx hb dX4_removeAt_27 rfl (lv_at hl 0 rfl) ?_
          refine lv_aload_n hx hb dX4_removeAt_28 rfl (lv_at hl 2 rfl) ?_
          refine lv_iload_n hx hb dX4_removeAt_29 rfl (lv_at hl 0 rfl) ?_
          refine lv_iconst (v := 1) hx hb dX4_removeAt_30 (by decide) ?_
          refine lv_iadd hx hb dX4_removeAt_31 ?_
          refine jc_vi [.int (vv5 + (1 : Int32))] [.int vv5, .ref (ad o)] jc jw hA ho (by decide) rfl (c_X4_at hY ho (M := mm6) rfl) sd_X4_19 rfl hl.1 (j_hR hRf hRl rfl rfl) (Nat.le_of_ble_eq_true rfl) dX4_removeAt_32 (fun H locs jw => ?_)
          obtain ⟨xx8, exx8, hE⟩ := j_lv hE
          try dsimp only at hE
          refine jc_vv [.int vv5, .int (s_X4_at Y mm6 o (vv5 + (1 : Int32)))] [] jc jw hA ho (by decide) rfl (c_X4_put hY ho (M := mm6) exx8.symm) sd_X4_27 rfl hl.1 (j_hR hRf hRl rfl rfl) (Nat.le_of_ble_eq_true rfl) dX4_removeAt_35 (fun H locs jw => ?_)
          obtain ⟨vv9, evv9, hE⟩ := j_lv hE
          try dsimp only at hE
          refine lv_iinc (v := vv9) (lv' := [(3, .int vv9), (2, .int vv1), (0, .ref (ad o))]) hx hb dX4_removeAt_38 hl (k := 0) rfl (by rw [evv9]; rfl) (by decide) rfl (fun ls hl => ?_)
          refine lv_goto (tgt := 16) hx hb dX4_removeAt_41 (by decide) ?_
          exact ih vv9 xx8 H locs ls hE jw (lv_sub hl [0, 1, 2] rfl)
    exact LP4 j_fuel p1 M H locs ls hE jw (lv_sub hl [0, 1, 2] rfl)
def s_X4_become (Y : JY) (M : JM) (o : Nat) (q1 : Nat) : Option (JM) := if q1 = o then (some M) else (lt_ (s_X4_clear Y M o) fun xx2 => (s_X4_pushPart Y xx2 o q1 (0 : Int32) (s_X4_size Y xx2 q1)).bind fun xx3 => some xx3)
set_option maxRecDepth 100000 in
set_option maxHeartbeats 4000000 in
theorem c_X4_become {D : va_G} {Y : JY} {ty : Nat → ClassId} {ad : Nat → Nat} {sz : Nat} {l : Launch} {M : JM} (hY : j_ok Y) {o : Nat} {q1 : Nat} (ho : j_kd Y o = 4) (hq1 : j_kd Y q1 = 4) {r : JM} (hE : s_X4_become Y M o q1 = some r) : JMv D Y ty ad sz l yX4_become cX4_become 2 2 45 [.ref (ad o), .ref (ad q1)] M r := by
  refine j_ofV hY (by decide +kernel) (Nat.le_of_ble_eq_true rfl) (fun p e s m below meth c args R Q A hRf hRl hA jc jw kr ls hl => ?_)
  have hx := jc.1
  have hb := jc.2.1
  have hl : lv_has ls 2 [(0, .ref (ad o)), (1, .ref (ad q1))] := hl
  unfold s_X4_become at hE
  obtain ⟨G0, eG0, hG0, hE⟩ := j_F0o hE
  refine lv_aload_n hx hb dX4_become_0 rfl (lv_at hl 1 rfl) ?_
  refine lv_aload_n hx hb dX4_become_1 rfl (lv_at hl 0 rfl) ?_
  refine jr_acmp_ne (tgt := 6) jc jw hq1 (by decide) ho (by decide) dX4_become_2 (by decide) (fun c1 => ?_) (fun c1 => ?_)
  · rw [if_neg c1] at hE
    refine lv_aload_n hx hb dX4_become_6 rfl (lv_at hl 0 rfl) ?_
    obtain ⟨xx2, exx2, hE⟩ := j_lv hE
    try dsimp only at hE
    refine jc_vv [] [] jc jw hA ho (by decide) rfl (c_X4_clear hY ho (M := M) exx2.symm) sd_X4_35 rfl hl.1 (j_hR hRf hRl rfl rfl) (Nat.le_of_ble_eq_true rfl) dX4_become_7 (fun H locs jw => ?_)
    refine lv_aload_n hx hb dX4_become_10 rfl (lv_at hl 0 rfl) ?_
    refine lv_aload_n hx hb dX4_become_11 rfl (lv_at hl 1 rfl) ?_
    refine lv_iconst (v := 0) hx hb dX4_become_12 (by decide) ?_
    refine lv_aload_n hx hb dX4_become_13 rfl (lv_at hl 1 rfl) ?_
    refine jc_vi [] [.int (0 : Int32), .ref (ad q1), .ref (ad o)] jc jw hA hq1 (by decide) rfl (c_X4_size hY hq1 (M := xx2) rfl) sd_X4_38 rfl hl.1 (j_hR hRf hRl rfl rfl) (Nat.le_of_ble_eq_true rfl) dX4_become_14 (fun H locs jw => ?_)
    obtain ⟨xx3, exx3, hE⟩ := j_bd hG0 hE
    try dsimp only at hE
    refine jc_vv [.ref (ad q1), .int (0 : Int32), .int (s_X4_size Y xx2 q1)] [] jc jw hA ho (by decide) rfl (c_X4_pushPart hY ho hq1 (M := xx2) exx3) sd_X4_42 rfl hl.1 (j_hR hRf hRl rfl rfl) (Nat.le_of_ble_eq_true rfl) dX4_become_17 (fun H locs jw => ?_)
    exact kr _ _ _ _ _ (Option.some.inj (j_ret eG0 hE)) jw dX4_become_20
  · rw [if_pos c1] at hE
    exact kr _ _ _ _ _ (Option.some.inj (j_ret eG0 hE)) jw dX4_become_5
def lp_X4_fillWith_1 (Y : JY) (p2 : Int32) (o : Nat) (p1 : Int32) (n : Nat) (vv3 : Int32) (mm4 : JM) : Option (JM) := match n with
  | 0 => none
  | n + 1 => if p2 ≤ vv3 then (some mm4) else (lt_ (s_X4_push Y mm4 o p1) fun xx6 => lt_ (vv3 + (1 : Int32)) fun vv7 => lp_X4_fillWith_1 Y p2 o p1 n vv7 xx6)
def s_X4_fillWith (Y : JY) (M : JM) (o : Nat) (p1 : Int32) (p2 : Int32) : Option (JM) := lt_ (s_X4_clear Y M o) fun xx1 => (lp_X4_fillWith_1 Y p2 o p1 j_fuel (0 : Int32) xx1).bind fun xx8 => some xx8
set_option maxRecDepth 100000 in
set_option maxHeartbeats 4000000 in
theorem c_X4_fillWith {D : va_G} {Y : JY} {ty : Nat → ClassId} {ad : Nat → Nat} {sz : Nat} {l : Launch} {M : JM} (hY : j_ok Y) {o : Nat} {p1 : Int32} {p2 : Int32} (ho : j_kd Y o = 4) {r : JM} (hE : s_X4_fillWith Y M o p1 p2 = some r) : JMv D Y ty ad sz l yX4_fillWith cX4_fillWith 4 1 21 [.ref (ad o), .int p1, .int p2] M r := by
  refine j_ofV hY (by decide +kernel) (Nat.le_of_ble_eq_true rfl) (fun p e s m below meth c args R Q A hRf hRl hA jc jw kr ls hl => ?_)
  have hx := jc.1
  have hb := jc.2.1
  have hl : lv_has ls 4 [(0, .ref (ad o)), (1, .int p1), (2, .int p2)] := hl
  unfold s_X4_fillWith at hE
  obtain ⟨G0, eG0, hG0, hE⟩ := j_F0o hE
  refine lv_aload_n hx hb dX4_fillWith_0 rfl (lv_at hl 0 rfl) ?_
  obtain ⟨xx1, exx1, hE⟩ := j_lv hE
  try dsimp only at hE
  refine jc_vv [] [] jc jw hA ho (by decide) rfl (c_X4_clear hY ho (M := M) exx1.symm) sd_X4_35 rfl hl.1 (j_hR hRf hRl rfl rfl) (Nat.le_of_ble_eq_true rfl) dX4_fillWith_1 (fun H locs jw => ?_)
  refine lv_iconst (v := 0) hx hb dX4_fillWith_4 (by decide) ?_
  refine lv_istore_n (lv' := [(3, .int (0 : Int32)), (0, .ref (ad o)), (1, .int p1), (2, .int p2)]) hx hb dX4_fillWith_5 rfl hl (by decide) rfl (fun ls hl => ?_)
  obtain ⟨G2, eG2, hG2, hE⟩ := j_ctxB hG0 hE
  have LP2 : ∀ (n : Nat) (vv3 : Int32) (mm4 : JM) (H : Heap) (locs : List Loc) (ls : Array Slot), G2 (lp_X4_fillWith_1 Y p2 o p1 n vv3 mm4) = some r → JW D Y ty ad A s.heap mm4 H locs → lv_has ls 4 [(3, .int vv3), (0, .ref (ad o)), (1, .int p1), (2, .int p2)] → W p l e R s m args below meth c H locs 0 0 Q (F0 m 6 ls []) := by
    intro n
    induction n with
    | zero => intro vv3 mm4 H locs ls hE jw hl; exact absurd hE (hG2 _)
    | succ n ih =>
      intro vv3 mm4 H locs ls hE jw hl
      rw [lp_X4_fillWith_1] at hE
      refine lv_iload_n hx hb dX4_fillWith_6 rfl (lv_at hl 0 rfl) ?_
      refine lv_iload_n hx hb dX4_fillWith_7 rfl (lv_at hl 3 rfl) ?_
      refine lv_icmp_ge (tgt := 22) hx hb dX4_fillWith_8 (by decide) (fun c5 => ?_) (fun c5 => ?_)
      · rw [if_pos c5] at hE
        replace hE := j_popB eG2 hE
        try dsimp only at hE
        exact kr _ _ _ _ _ (Option.some.inj (j_ret eG0 hE)) jw dX4_fillWith_22
      · rw [if_neg c5] at hE
        refine lv_aload_n hx hb dX4_fillWith_11 rfl (lv_at hl 1 rfl) ?_
        refine lv_iload_n hx hb dX4_fillWith_12 rfl (lv_at hl 2 rfl) ?_
        obtain ⟨xx6, exx6, hE⟩ := j_lv hE
        try dsimp only at hE
        refine jc_vv [.int p1] [] jc jw hA ho (by decide) rfl (c_X4_push hY ho (M := mm4) exx6.symm) sd_X4_23 rfl hl.1 (j_hR hRf hRl rfl rfl) (Nat.le_of_ble_eq_true rfl) dX4_fillWith_13 (fun H locs jw => ?_)
        obtain ⟨vv7, evv7, hE⟩ := j_lv hE
        try dsimp only at hE
        refine lv_iinc (v := vv7) (lv' := [(3, .int vv7), (0, .ref (ad o)), (1, .int p1), (2, .int p2)]) hx hb dX4_fillWith_16 hl (k := 0) rfl (by rw [evv7]; rfl) (by decide) rfl (fun ls hl => ?_)
        refine lv_goto (tgt := 6) hx hb dX4_fillWith_19 (by decide) ?_
        exact ih vv7 xx6 H locs ls hE jw (lv_sub hl [0, 1, 2, 3] rfl)
  exact LP2 j_fuel (0 : Int32) xx1 H locs ls hE jw (lv_sub hl [0, 1, 2, 3] rfl)
def lp_X4_find_1 (Y : JY) (p3 : Int32) (M : JM) (o : Nat) (p1 : Int32) (n : Nat) (vv2 : Int32) : Option (Int32) := match n with
  | 0 => none
  | n + 1 => if p3 ≤ vv2 then (some (-1 : Int32)) else (if (s_X4_at Y M o vv2) = p1 then (some vv2) else (lt_ (vv2 + (1 : Int32)) fun vv5 => lp_X4_find_1 Y p3 M o p1 n vv5))
def s_X4_find (Y : JY) (M : JM) (o : Nat) (p1 : Int32) (p2 : Int32) (p3 : Int32) : Option (Int32) := (lp_X4_find_1 Y p3 M o p1 j_fuel p2).bind fun xx6 => some xx6
set_option maxRecDepth 100000 in
set_option maxHeartbeats 4000000 in
theorem c_X4_find {D : va_G} {Y : JY} {ty : Nat → ClassId} {ad : Nat → Nat} {sz : Nat} {l : Launch} {M : JM} (hY : j_ok Y) {o : Nat} {p1 : Int32} {p2 : Int32} {p3 : Int32} (ho : j_kd Y o = 4) {r : Int32} (hE : s_X4_find Y M o p1 p2 p3 = some r) : JMi D Y ty ad sz l yX4_find cX4_find 5 (some .int) 1 21 [.ref (ad o), .int p1, .int p2, .int p3] M r M := by
  refine j_ofI hY (by decide +kernel) (Nat.le_of_ble_eq_true rfl) (fun p e s m below meth c args R Q A hRf hRl hA jc jw kr ls hl => ?_)
  have hx := jc.1
  have hb := jc.2.1
  have hl : lv_has ls 5 [(0, .ref (ad o)), (1, .int p1), (2, .int p2), (3, .int p3)] := hl
  unfold s_X4_find at hE
  obtain ⟨G0, eG0, hG0, hE⟩ := j_F0o hE
  refine lv_iload_n hx hb dX4_find_0 rfl (lv_at hl 2 rfl) ?_
  refine lv_istore (lv' := [(4, .int p2), (0, .ref (ad o)), (1, .int p1), (2, .int p2), (3, .int p3)]) hx hb dX4_find_1 hl (by decide) rfl (fun ls hl => ?_)
  obtain ⟨G1, eG1, hG1, hE⟩ := j_ctxB hG0 hE
  have LP1 : ∀ (n : Nat) (vv2 : Int32) (H : Heap) (locs : List Loc) (ls : Array Slot), G1 (lp_X4_find_1 Y p3 M o p1 n vv2) = some r → JW D Y ty ad A s.heap M H locs → lv_has ls 5 [(4, .int vv2), (0, .ref (ad o)), (1, .int p1), (3, .int p3)] → W p l e R s m args below meth c H locs 0 0 Q (F0 m 3 ls []) := by
    intro n
    induction n with
    | zero => intro vv2 H locs ls hE jw hl; exact absurd hE (hG1 _)
    | succ n ih =>
      intro vv2 H locs ls hE jw hl
      rw [lp_X4_find_1] at hE
      refine lv_iload hx hb dX4_find_3 (lv_at hl 0 rfl) ?_
      refine lv_iload_n hx hb dX4_find_5 rfl (lv_at hl 3 rfl) ?_
      refine lv_icmp_ge (tgt := 28) hx hb dX4_find_6 (by decide) (fun c3 => ?_) (fun c3 => ?_)
      · rw [if_pos c3] at hE
        refine lv_iconst (v := -1) hx hb dX4_find_28 (by decide) ?_
        replace hE := j_popB eG1 hE
        try dsimp only at hE
        exact kr _ _ _ _ _ _ (Option.some.inj (j_ret eG0 hE)) rfl jw dX4_find_29
      · rw [if_neg c3] at hE
        refine lv_aload_n hx hb dX4_find_9 rfl (lv_at hl 1 rfl) ?_
        refine lv_iload hx hb dX4_find_10 (lv_at hl 0 rfl) ?_
        refine jc_vi [.int vv2] [] jc jw hA ho (by decide) rfl (c_X4_at hY ho (M := M) rfl) sd_X4_19 rfl hl.1 (j_hR hRf hRl rfl rfl) (Nat.le_of_ble_eq_true rfl) dX4_find_12 (fun H locs jw => ?_)
        refine lv_iload_n hx hb dX4_find_15 rfl (lv_at hl 2 rfl) ?_
        refine lv_icmp_ne (tgt := 22) hx hb dX4_find_16 (by decide) (fun c4 => ?_) (fun c4 => ?_)
        · rw [if_neg c4] at hE
          obtain ⟨vv5, evv5, hE⟩ := j_lv hE
          try dsimp only at hE
          refine lv_iinc (v := vv5) (lv' := [(4, .int vv5), (0, .ref (ad o)), (1, .int p1), (3, .int p3)]) hx hb dX4_find_22 hl (k := 0) rfl (by rw [evv5]; rfl) (by decide) rfl (fun ls hl => ?_)
          refine lv_goto (tgt := 3) hx hb dX4_find_25 (by decide) ?_
          exact ih vv5 H locs ls hE jw (lv_sub hl [0, 1, 2, 3] rfl)
        · rw [if_pos c4] at hE
          refine lv_iload hx hb dX4_find_19 (lv_at hl 0 rfl) ?_
          replace hE := j_popB eG1 hE
          try dsimp only at hE
          exact kr _ _ _ _ _ _ (Option.some.inj (j_ret eG0 hE)) rfl jw dX4_find_21
  exact LP1 j_fuel p2 s.heap [] ls hE jw (lv_sub hl [0, 1, 2, 4] rfl)
def lp_X4_isOnce_1 (Y : JY) (M : JM) (o : Nat) (p1 : Int32) (n : Nat) (vv2 : Int32) (vv3 : Int32) : Option (Int32) := match n with
  | 0 => none
  | n + 1 => if (M o 1) ≤ vv3 then (some vv2) else (lt_ (if (s_X4_at Y M o vv3) = p1 then (lt_ (vv2 + (1 : Int32)) fun vv7 => vv7) else (vv2)) fun xx10 => lt_ (vv3 + (1 : Int32)) fun vv9 => lp_X4_isOnce_1 Y M o p1 n xx10 vv9)
def s_X4_isOnce (Y : JY) (M : JM) (o : Nat) (p1 : Int32) : Option (Int32) := (lp_X4_isOnce_1 Y M o p1 j_fuel (0 : Int32) (0 : Int32)).bind fun xx13 => if xx13 = (1 : Int32) then (some (1 : Int32)) else (some (0 : Int32))
set_option maxRecDepth 100000 in
set_option maxHeartbeats 4000000 in
theorem c_X4_isOnce {D : va_G} {Y : JY} {ty : Nat → ClassId} {ad : Nat → Nat} {sz : Nat} {l : Launch} {M : JM} (hY : j_ok Y) {o : Nat} {p1 : Int32} (ho : j_kd Y o = 4) {r : Int32} (hE : s_X4_isOnce Y M o p1 = some r) : JMz D Y ty ad sz l yX4_isOnce cX4_isOnce 4 1 21 [.ref (ad o), .int p1] M r M := by
  refine j_ofZ hY (by decide +kernel) (Nat.le_of_ble_eq_true rfl) (fun p e s m below meth c args R Q A hRf hRl hA jc jw kr ls hl => ?_)
  have hx := jc.1
  have hb := jc.2.1
  have hl : lv_has ls 4 [(0, .ref (ad o)), (1, .int p1)] := hl
  unfold s_X4_isOnce at hE
  obtain ⟨G0, eG0, hG0, hE⟩ := j_F0o hE
  refine lv_iconst (v := 0) hx hb dX4_isOnce_0 (by decide) ?_
  refine lv_istore_n (lv' := [(2, .int (0 : Int32)), (0, .ref (ad o)), (1, .int p1)]) hx hb dX4_isOnce_1 rfl hl (by decide) rfl (fun ls hl => ?_)
  refine lv_iconst (v := 0) hx hb dX4_isOnce_2 (by decide) ?_
  refine lv_istore_n (lv' := [(3, .int (0 : Int32)), (2, .int (0 : Int32)), (0, .ref (ad o)), (1, .int p1)]) hx hb dX4_isOnce_3 rfl hl (by decide) rfl (fun ls hl => ?_)
  obtain ⟨G1, eG1, hG1, hE⟩ := j_ctxB hG0 hE
  have E1_30 : ∀ (vv11 : Int32)  (H : Heap) (locs : List Loc) (ls : Array Slot), G1 (some vv11) = some r → JW D Y ty ad A s.heap M H locs → lv_has ls 4 [(2, .int vv11)] → W p l e R s m args below meth c H locs 0 0 Q (F0 m 30 ls []) := by
    intro vv11  H locs ls hE jw hl
    replace hE := j_popB eG1 hE
    try dsimp only at hE
    refine lv_iload_n hx hb dX4_isOnce_30 rfl (lv_at hl 0 rfl) ?_
    refine lv_iconst (v := 1) hx hb dX4_isOnce_31 (by decide) ?_
    refine lv_icmp_ne (tgt := 39) hx hb dX4_isOnce_32 (by decide) (fun c12 => ?_) (fun c12 => ?_)
    · rw [if_neg c12] at hE
      refine lv_iconst (v := 0) hx hb dX4_isOnce_39 (by decide) ?_
      exact kr _ _ _ _ _ _ (Option.some.inj (j_ret eG0 hE)) rfl (by decide) jw dX4_isOnce_40
    · rw [if_pos c12] at hE
      refine lv_iconst (v := 1) hx hb dX4_isOnce_35 (by decide) ?_
      refine lv_goto (tgt := 40) hx hb dX4_isOnce_36 (by decide) ?_
      exact kr _ _ _ _ _ _ (Option.some.inj (j_ret eG0 hE)) rfl (by decide) jw dX4_isOnce_40
  have LP1 : ∀ (n : Nat) (vv2 : Int32) (vv3 : Int32) (H : Heap) (locs : List Loc) (ls : Array Slot), G1 (lp_X4_isOnce_1 Y M o p1 n vv2 vv3) = some r → JW D Y ty ad A s.heap M H locs → lv_has ls 4 [(3, .int vv3), (2, .int vv2), (0, .ref (ad o)), (1, .int p1)] → W p l e R s m args below meth c H locs 0 0 Q (F0 m 4 ls []) := by
    intro n
    induction n with
    | zero => intro vv2 vv3 H locs ls hE jw hl; exact absurd hE (hG1 _)
    | succ n ih =>
      intro vv2 vv3 H locs ls hE jw hl
      rw [lp_X4_isOnce_1] at hE
      refine lv_iload_n hx hb dX4_isOnce_4 rfl (lv_at hl 0 rfl) ?_
      refine lv_aload_n hx hb dX4_isOnce_5 rfl (lv_at hl 2 rfl) ?_
      refine jg_4_1 jc jw ho wd_3_188 dX4_isOnce_6 ?_
      refine lv_icmp_ge (tgt := 30) hx hb dX4_isOnce_9 (by decide) (fun c4 => ?_) (fun c4 => ?_)
      · rw [if_pos c4] at hE
        exact E1_30 vv2  H locs ls hE jw (lv_sub hl [1] rfl)
      · rw [if_neg c4] at hE
        refine lv_aload_n hx hb dX4_isOnce_12 rfl (lv_at hl 2 rfl) ?_
        refine lv_iload_n hx hb dX4_isOnce_13 rfl (lv_at hl 0 rfl) ?_
        refine jc_vi [.int vv3] [] jc jw hA ho (by decide) rfl (c_X4_at hY ho (M := M) rfl) sd_X4_19 rfl hl.1 (j_hR hRf hRl rfl rfl) (Nat.le_of_ble_eq_true rfl) dX4_isOnce_14 (fun H locs jw => ?_)
        refine lv_iload_n hx hb dX4_isOnce_17 rfl (lv_at hl 3 rfl) ?_
        obtain ⟨G6, eG6, hE⟩ := j_ctxL hE
        have J6 : ∀ (vv8 : Int32)  (H : Heap) (locs : List Loc) (ls : Array Slot), G6 (vv8) = some r → JW D Y ty ad A s.heap M H locs → lv_has ls 4 [(3, .int vv3), (2, .int vv8), (0, .ref (ad o)), (1, .int p1)] → W p l e R s m args below meth c H locs 0 0 Q (F0 m 24 ls []) := by
          intro vv8  H locs ls hE jw hl
          replace hE := j_popL eG6 hE
          try dsimp only at hE
          obtain ⟨vv9, evv9, hE⟩ := j_lv hE
          try dsimp only at hE
          refine lv_iinc (v := vv9) (lv' := [(3, .int vv9), (2, .int vv8), (0, .ref (ad o)), (1, .int p1)]) hx hb dX4_isOnce_24 hl (k := 0) rfl (by rw [evv9]; rfl) (by decide) rfl (fun ls hl => ?_)
          refine lv_goto (tgt := 4) hx hb dX4_isOnce_27 (by decide) ?_
          exact ih vv8 vv9 H locs ls hE jw (lv_sub hl [0, 1, 2, 3] rfl)
        refine lv_icmp_ne (tgt := 24) hx hb dX4_isOnce_18 (by decide) (fun c5 => ?_) (fun c5 => ?_)
        · rw [if_neg c5] at hE
          exact J6 vv2  H locs ls hE jw (lv_sub hl [0, 1, 2, 3] rfl)
        · rw [if_pos c5] at hE
          obtain ⟨vv7, evv7, hE⟩ := j_lv hE
          try dsimp only at hE
          refine lv_iinc (v := vv7) (lv' := [(2, .int vv7), (3, .int vv3), (0, .ref (ad o)), (1, .int p1)]) hx hb dX4_isOnce_21 hl (k := 1) rfl (by rw [evv7]; rfl) (by decide) rfl (fun ls hl => ?_)
          exact J6 vv7  H locs ls hE jw (lv_sub hl [1, 0, 2, 3] rfl)
  exact LP1 j_fuel (0 : Int32) (0 : Int32) s.heap [] ls hE jw (lv_sub hl [0, 1, 2, 3] rfl)
def lp_X4_samePart_1 (Y : JY) (p2 : Int32) (M : JM) (o : Nat) (q3 : Nat) (p4 : Int32) (p1 : Int32) (n : Nat) (vv3 : Int32) : Option (Int32) := match n with
  | 0 => none
  | n + 1 => if p2 ≤ vv3 then (some (1 : Int32)) else (if (s_X4_at Y M o vv3) = (s_X4_at Y M q3 ((p4 + vv3) - p1)) then (lt_ (vv3 + (1 : Int32)) fun vv6 => lp_X4_samePart_1 Y p2 M o q3 p4 p1 n vv6) else (some (0 : Int32)))
def s_X4_samePart (Y : JY) (M : JM) (o : Nat) (p1 : Int32) (p2 : Int32) (q3 : Nat) (p4 : Int32) (p5 : Int32) : Option (Int32) := if (p2 - p1) = (p5 - p4) then ((lp_X4_samePart_1 Y p2 M o q3 p4 p1 j_fuel p1).bind fun xx7 => some xx7) else (some (0 : Int32))
set_option maxRecDepth 100000 in
set_option maxHeartbeats 4000000 in
theorem c_X4_samePart {D : va_G} {Y : JY} {ty : Nat → ClassId} {ad : Nat → Nat} {sz : Nat} {l : Launch} {M : JM} (hY : j_ok Y) {o : Nat} {p1 : Int32} {p2 : Int32} {q3 : Nat} {p4 : Int32} {p5 : Int32} (ho : j_kd Y o = 4) (hq3 : j_kd Y q3 = 4) {r : Int32} (hE : s_X4_samePart Y M o p1 p2 q3 p4 p5 = some r) : JMz D Y ty ad sz l yX4_samePart cX4_samePart 7 1 21 [.ref (ad o), .int p1, .int p2, .ref (ad q3), .int p4, .int p5] M r M := by
  refine j_ofZ hY (by decide +kernel) (Nat.le_of_ble_eq_true rfl) (fun p e s m below meth c args R Q A hRf hRl hA jc jw kr ls hl => ?_)
  have hx := jc.1
  have hb := jc.2.1
  have hl : lv_has ls 7 [(0, .ref (ad o)), (1, .int p1), (2, .int p2), (3, .ref (ad q3)), (4, .int p4), (5, .int p5)] := hl
  unfold s_X4_samePart at hE
  obtain ⟨G0, eG0, hG0, hE⟩ := j_F0o hE
  refine lv_iload_n hx hb dX4_samePart_0 rfl (lv_at hl 2 rfl) ?_
  refine lv_iload_n hx hb dX4_samePart_1 rfl (lv_at hl 1 rfl) ?_
  refine lv_isub hx hb dX4_samePart_2 ?_
  refine lv_iload hx hb dX4_samePart_3 (lv_at hl 5 rfl) ?_
  refine lv_iload hx hb dX4_samePart_5 (lv_at hl 4 rfl) ?_
  refine lv_isub hx hb dX4_samePart_7 ?_
  refine lv_icmp_eq (tgt := 13) hx hb dX4_samePart_8 (by decide) (fun c1 => ?_) (fun c1 => ?_)
  · rw [if_pos c1] at hE
    refine lv_iload_n hx hb dX4_samePart_13 rfl (lv_at hl 1 rfl) ?_
    refine lv_istore (lv' := [(6, .int p1), (0, .ref (ad o)), (1, .int p1), (2, .int p2), (3, .ref (ad q3)), (4, .int p4), (5, .int p5)]) hx hb dX4_samePart_14 hl (by decide) rfl (fun ls hl => ?_)
    obtain ⟨G2, eG2, hG2, hE⟩ := j_ctxB hG0 hE
    have LP2 : ∀ (n : Nat) (vv3 : Int32) (H : Heap) (locs : List Loc) (ls : Array Slot), G2 (lp_X4_samePart_1 Y p2 M o q3 p4 p1 n vv3) = some r → JW D Y ty ad A s.heap M H locs → lv_has ls 7 [(6, .int vv3), (0, .ref (ad o)), (1, .int p1), (2, .int p2), (3, .ref (ad q3)), (4, .int p4)] → W p l e R s m args below meth c H locs 0 0 Q (F0 m 16 ls []) := by
      intro n
      induction n with
      | zero => intro vv3 H locs ls hE jw hl; exact absurd hE (hG2 _)
      | succ n ih =>
        intro vv3 H locs ls hE jw hl
        rw [lp_X4_samePart_1] at hE
        refine lv_iload hx hb dX4_samePart_16 (lv_at hl 0 rfl) ?_
        refine lv_iload_n hx hb dX4_samePart_18 rfl (lv_at hl 3 rfl) ?_
        refine lv_icmp_ge (tgt := 50) hx hb dX4_samePart_19 (by decide) (fun c4 => ?_) (fun c4 => ?_)
        · rw [if_pos c4] at hE
          refine lv_iconst (v := 1) hx hb dX4_samePart_50 (by decide) ?_
          replace hE := j_popB eG2 hE
          try dsimp only at hE
          exact kr _ _ _ _ _ _ (Option.some.inj (j_ret eG0 hE)) rfl (by decide) jw dX4_samePart_51
        · rw [if_neg c4] at hE
          refine lv_aload_n hx hb dX4_samePart_22 rfl (lv_at hl 1 rfl) ?_
          refine lv_iload hx hb dX4_samePart_23 (lv_at hl 0 rfl) ?_
          refine jc_vi [.int vv3] [] jc jw hA ho (by decide) rfl (c_X4_at hY ho (M := M) rfl) sd_X4_19 rfl hl.1 (j_hR hRf hRl rfl rfl) (Nat.le_of_ble_eq_true rfl) dX4_samePart_25 (fun H locs jw => ?_)
          refine lv_aload_n hx hb dX4_samePart_28 rfl (lv_at hl 4 rfl) ?_
          refine lv_iload hx hb dX4_samePart_29 (lv_at hl 5 rfl) ?_
          refine lv_iload hx hb dX4_samePart_31 (lv_at hl 0 rfl) ?_
          refine lv_iadd hx hb dX4_samePart_33 ?_
          refine lv_iload_n hx hb dX4_samePart_34 rfl (lv_at hl 2 rfl) ?_
          refine lv_isub hx hb dX4_samePart_35 ?_
          refine jc_vi [.int ((p4 + vv3) - p1)] [.int (s_X4_at Y M o vv3)] jc jw hA hq3 (by decide) rfl (c_X4_at hY hq3 (M := M) rfl) sd_X4_19 rfl hl.1 (j_hR hRf hRl rfl rfl) (Nat.le_of_ble_eq_true rfl) dX4_samePart_36 (fun H locs jw => ?_)
          refine lv_icmp_eq (tgt := 44) hx hb dX4_samePart_39 (by decide) (fun c5 => ?_) (fun c5 => ?_)
          · rw [if_pos c5] at hE
            obtain ⟨vv6, evv6, hE⟩ := j_lv hE
            try dsimp only at hE
            refine lv_iinc (v := vv6) (lv' := [(6, .int vv6), (0, .ref (ad o)), (1, .int p1), (2, .int p2), (3, .ref (ad q3)), (4, .int p4)]) hx hb dX4_samePart_44 hl (k := 0) rfl (by rw [evv6]; rfl) (by decide) rfl (fun ls hl => ?_)
            refine lv_goto (tgt := 16) hx hb dX4_samePart_47 (by decide) ?_
            exact ih vv6 H locs ls hE jw (lv_sub hl [0, 1, 2, 3, 4, 5] rfl)
          · rw [if_neg c5] at hE
            refine lv_iconst (v := 0) hx hb dX4_samePart_42 (by decide) ?_
            replace hE := j_popB eG2 hE
            try dsimp only at hE
            exact kr _ _ _ _ _ _ (Option.some.inj (j_ret eG0 hE)) rfl (by decide) jw dX4_samePart_43
    exact LP2 j_fuel p1 s.heap [] ls hE jw (lv_sub hl [0, 1, 2, 3, 4, 5] rfl)
  · rw [if_neg c1] at hE
    refine lv_iconst (v := 0) hx hb dX4_samePart_11 (by decide) ?_
    exact kr _ _ _ _ _ _ (Option.some.inj (j_ret eG0 hE)) rfl (by decide) jw dX4_samePart_12

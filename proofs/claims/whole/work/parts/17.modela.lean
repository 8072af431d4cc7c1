def s_X10_thrown (Y : JY) (M : JM) (o : Nat) : Int32 := (M o 0)
set_option maxRecDepth 100000 in
set_option maxHeartbeats 4000000 in
theorem c_X10_thrown {D : va_G} {Y : JY} {ty : Nat → ClassId} {ad : Nat → Nat} {sz : Nat} {l : Launch} {M : JM} (hY : j_ok Y) {o : Nat} (ho : j_kd Y o = 10) {r : Int32} (hE : s_X10_thrown Y M o = r) : JMi D Y ty ad sz l yX10_thrown cX10_thrown 1 (some .int) 0 0 [.ref (ad o)] M r M := by
  refine j_ofI hY (by decide +kernel) (Nat.le_of_ble_eq_true rfl) (fun p e s m below meth c args R Q A hRf hRl hA jc jw kr ls hl => ?_)
  have hx := jc.1
  have hb := jc.2.1
  have hl : lv_has ls 1 [(0, .ref (ad o))] := hl
  unfold s_X10_thrown at hE
  obtain ⟨G0, eG0, hE⟩ := j_F0 hE
  refine lv_aload_n hx hb dX10_thrown_0 rfl (lv_at hl 0 rfl) ?_
  refine jg_10_0 jc jw ho wd_6_59 dX10_thrown_1 ?_
  exact kr _ _ _ _ _ _ (j_ret eG0 hE) rfl jw dX10_thrown_4
def s_X10_in (Y : JY) (M : JM) (p1 : Int32) (p2 : Int32) (p3 : Int32) : Int32 := if p1 < p2 ∨ p3 < p1 then ((0 : Int32)) else ((1 : Int32))
set_option maxRecDepth 100000 in
set_option maxHeartbeats 4000000 in
theorem c_X10_in {D : va_G} {Y : JY} {ty : Nat → ClassId} {ad : Nat → Nat} {sz : Nat} {l : Launch} {M : JM} (hY : j_ok Y) {p1 : Int32} {p2 : Int32} {p3 : Int32}  {r : Int32} (hE : s_X10_in Y M p1 p2 p3 = r) : JMz D Y ty ad sz l yX10_in cX10_in 3 0 0 [.int p1, .int p2, .int p3] M r M := by
  refine j_ofZ hY (by decide +kernel) (Nat.le_of_ble_eq_true rfl) (fun p e s m below meth c args R Q A hRf hRl hA jc jw kr ls hl => ?_)
  have hx := jc.1
  have hb := jc.2.1
  have hl : lv_has ls 3 [(0, .int p1), (1, .int p2), (2, .int p3)] := hl
  unfold s_X10_in at hE
  obtain ⟨G0, eG0, hE⟩ := j_F0 hE
  refine lv_iload_n hx hb dX10_in_0 rfl (lv_at hl 0 rfl) ?_
  refine lv_iload_n hx hb dX10_in_1 rfl (lv_at hl 1 rfl) ?_
  have B3 : ∀ (H : Heap) (locs : List Loc), JW D Y ty ad A s.heap M H locs → (p1 < p2 ∨ p3 < p1) → W p l e R s m args below meth c H locs 0 0 Q (F0 m 14 ls []) := by
    intro H locs jw hcc
    rw [if_pos hcc] at hE
    refine lv_iconst (v := 0) hx hb dX10_in_14 (by decide) ?_
    exact kr _ _ _ _ _ _ (j_ret eG0 hE) rfl (by decide) jw dX10_in_15
  refine lv_icmp_lt (tgt := 14) hx hb dX10_in_2 (by decide) (fun c1 => B3 _ _ jw (Or.inl c1)) (fun c1 => ?_)
  refine lv_iload_n hx hb dX10_in_5 rfl (lv_at hl 0 rfl) ?_
  refine lv_iload_n hx hb dX10_in_6 rfl (lv_at hl 2 rfl) ?_
  refine lv_icmp_gt (tgt := 14) hx hb dX10_in_7 (by decide) (fun c2 => B3 _ _ jw (Or.inr c2)) (fun c2 => ?_)
  rw [if_neg (fun hq => hq.elim (fun hq => (j_abs c1 hq)) (fun hq => (j_abs c2 hq)))] at hE
  refine lv_iconst (v := 1) hx hb dX10_in_10 (by decide) ?_
  refine lv_goto (tgt := 15) hx hb dX10_in_11 (by decide) ?_
  exact kr _ _ _ _ _ _ (j_ret eG0 hE) rfl (by decide) jw dX10_in_15
def s_X10_fails (Y : JY) (M : JM) (o : Nat) (p1 : Int32) : Int32 × JM := lt_ (j_up M o 0 p1) fun mm1 => ((0 : Int32), mm1)
set_option maxRecDepth 100000 in
set_option maxHeartbeats 4000000 in
theorem c_X10_fails {D : va_G} {Y : JY} {ty : Nat → ClassId} {ad : Nat → Nat} {sz : Nat} {l : Launch} {M : JM} (hY : j_ok Y) {o : Nat} {p1 : Int32} (ho : j_kd Y o = 10) {r : Int32 × JM} (hE : s_X10_fails Y M o p1 = r) : JMi D Y ty ad sz l yX10_fails cX10_fails 2 (some .int) 0 0 [.ref (ad o), .int p1] M r.1 r.2 := by
  refine j_ofI hY (by decide +kernel) (Nat.le_of_ble_eq_true rfl) (fun p e s m below meth c args R Q A hRf hRl hA jc jw kr ls hl => ?_)
  have hx := jc.1
  have hb := jc.2.1
  have hl : lv_has ls 2 [(0, .ref (ad o)), (1, .int p1)] := hl
  unfold s_X10_fails at hE
  obtain ⟨G0, eG0, hE⟩ := j_F0 hE
  refine lv_aload_n hx hb dX10_fails_0 rfl (lv_at hl 0 rfl) ?_
  refine lv_iload_n hx hb dX10_fails_1 rfl (lv_at hl 1 rfl) ?_
  refine js_10_0 jc jw ho wd_6_59 dX10_fails_2 (fun H locs jw => ?_)
  obtain ⟨mm1, emm1, hE⟩ := j_lv hE
  rw [← emm1] at jw
  try dsimp only at hE
  refine lv_iconst (v := 0) hx hb dX10_fails_5 (by decide) ?_
  exact kr _ _ _ _ _ _ (congrArg Prod.fst (j_ret eG0 hE)) (congrArg Prod.snd (j_ret eG0 hE)) jw dX10_fails_6
def s_X10_done (Y : JY) (M : JM) (o : Nat) (p1 : Int32) : Int32 × JM := lt_ (j_up M o 0 (0 : Int32)) fun mm1 => (p1, mm1)
set_option maxRecDepth 100000 in
set_option maxHeartbeats 4000000 in
theorem c_X10_done {D : va_G} {Y : JY} {ty : Nat → ClassId} {ad : Nat → Nat} {sz : Nat} {l : Launch} {M : JM} (hY : j_ok Y) {o : Nat} {p1 : Int32} (ho : j_kd Y o = 10) {r : Int32 × JM} (hE : s_X10_done Y M o p1 = r) : JMi D Y ty ad sz l yX10_done cX10_done 2 (some .int) 0 0 [.ref (ad o), .int p1] M r.1 r.2 := by
  refine j_ofI hY (by decide +kernel) (Nat.le_of_ble_eq_true rfl) (fun p e s m below meth c args R Q A hRf hRl hA jc jw kr ls hl => ?_)
  have hx := jc.1
  have hb := jc.2.1
  have hl : lv_has ls 2 [(0, .ref (ad o)), (1, .int p1)] := hl
  unfold s_X10_done at hE
  obtain ⟨G0, eG0, hE⟩ := j_F0 hE
  refine lv_aload_n hx hb dX10_done_0 rfl (lv_at hl 0 rfl) ?_
  refine lv_iconst (v := 0) hx hb dX10_done_1 (by decide) ?_
  refine js_10_0 jc jw ho wd_6_59 dX10_done_2 (fun H locs jw => ?_)
  obtain ⟨mm1, emm1, hE⟩ := j_lv hE
  rw [← emm1] at jw
  try dsimp only at hE
  refine lv_iload_n hx hb dX10_done_5 rfl (lv_at hl 1 rfl) ?_
  exact kr _ _ _ _ _ _ (congrArg Prod.fst (j_ret eG0 hE)) (congrArg Prod.snd (j_ret eG0 hE)) jw dX10_done_6
def s_X10_not (Y : JY) (M : JM) (o : Nat) (p1 : Int32) : Int32 × JM := lt_ (j_up M o 0 p1) fun mm1 => ((0 : Int32), mm1)
set_option maxRecDepth 100000 in
set_option maxHeartbeats 4000000 in
theorem c_X10_not {D : va_G} {Y : JY} {ty : Nat → ClassId} {ad : Nat → Nat} {sz : Nat} {l : Launch} {M : JM} (hY : j_ok Y) {o : Nat} {p1 : Int32} (ho : j_kd Y o = 10) {r : Int32 × JM} (hE : s_X10_not Y M o p1 = r) : JMz D Y ty ad sz l yX10_not cX10_not 2 0 0 [.ref (ad o), .int p1] M r.1 r.2 := by
  refine j_ofZ hY (by decide +kernel) (Nat.le_of_ble_eq_true rfl) (fun p e s m below meth c args R Q A hRf hRl hA jc jw kr ls hl => ?_)
  have hx := jc.1
  have hb := jc.2.1
  have hl : lv_has ls 2 [(0, .ref (ad o)), (1, .int p1)] := hl
  unfold s_X10_not at hE
  obtain ⟨G0, eG0, hE⟩ := j_F0 hE
  refine lv_aload_n hx hb dX10_not_0 rfl (lv_at hl 0 rfl) ?_
  refine lv_iload_n hx hb dX10_not_1 rfl (lv_at hl 1 rfl) ?_
  refine js_10_0 jc jw ho wd_6_59 dX10_not_2 (fun H locs jw => ?_)
  obtain ⟨mm1, emm1, hE⟩ := j_lv hE
  rw [← emm1] at jw
  try dsimp only at hE
  refine lv_iconst (v := 0) hx hb dX10_not_5 (by decide) ?_
  exact kr _ _ _ _ _ _ (congrArg Prod.fst (j_ret eG0 hE)) (congrArg Prod.snd (j_ret eG0 hE)) (by decide) jw dX10_not_6
def s_X10_so (Y : JY) (M : JM) (o : Nat) (p1 : Int32) : Int32 × JM := lt_ (j_up M o 0 (0 : Int32)) fun mm1 => (p1, mm1)
set_option maxRecDepth 100000 in
set_option maxHeartbeats 4000000 in
theorem c_X10_so {D : va_G} {Y : JY} {ty : Nat → ClassId} {ad : Nat → Nat} {sz : Nat} {l : Launch} {M : JM} (hY : j_ok Y) {o : Nat} {p1 : Int32} (ho : j_kd Y o = 10) (hzp1 : p1 = 0 ∨ p1 = 1) {r : Int32 × JM} (hE : s_X10_so Y M o p1 = r) : JMz D Y ty ad sz l yX10_so cX10_so 2 0 0 [.ref (ad o), .int p1] M r.1 r.2 := by
  refine j_ofZ hY (by decide +kernel) (Nat.le_of_ble_eq_true rfl) (fun p e s m below meth c args R Q A hRf hRl hA jc jw kr ls hl => ?_)
  have hx := jc.1
  have hb := jc.2.1
  have hl : lv_has ls 2 [(0, .ref (ad o)), (1, .int p1)] := hl
  unfold s_X10_so at hE
  obtain ⟨G0, eG0, hE⟩ := j_F0 hE
  refine lv_aload_n hx hb dX10_so_0 rfl (lv_at hl 0 rfl) ?_
  refine lv_iconst (v := 0) hx hb dX10_so_1 (by decide) ?_
  refine js_10_0 jc jw ho wd_6_59 dX10_so_2 (fun H locs jw => ?_)
  obtain ⟨mm1, emm1, hE⟩ := j_lv hE
  rw [← emm1] at jw
  try dsimp only at hE
  refine lv_iload_n hx hb dX10_so_5 rfl (lv_at hl 1 rfl) ?_
  exact kr _ _ _ _ _ _ (congrArg Prod.fst (j_ret eG0 hE)) (congrArg Prod.snd (j_ret eG0 hE)) hzp1 jw dX10_so_6
def s_X10_isRegister (Y : JY) (M : JM) (p1 : Int32) : Int32 := (s_X10_in Y M p1 (0 : Int32) (3 : Int32))
set_option maxRecDepth 100000 in
set_option maxHeartbeats 4000000 in
theorem c_X10_isRegister {D : va_G} {Y : JY} {ty : Nat → ClassId} {ad : Nat → Nat} {sz : Nat} {l : Launch} {M : JM} (hY : j_ok Y) {p1 : Int32}  {r : Int32} (hE : s_X10_isRegister Y M p1 = r) : JMz D Y ty ad sz l yX10_isRegister cX10_isRegister 1 1 22 [.int p1] M r M := by
  refine j_ofZ hY (by decide +kernel) (Nat.le_of_ble_eq_true rfl) (fun p e s m below meth c args R Q A hRf hRl hA jc jw kr ls hl => ?_)
  have hx := jc.1
  have hb := jc.2.1
  have hl : lv_has ls 1 [(0, .int p1)] := hl
  unfold s_X10_isRegister at hE
  obtain ⟨G0, eG0, hE⟩ := j_F0 hE
  refine lv_iload_n hx hb dX10_isRegister_0 rfl (lv_at hl 0 rfl) ?_
  refine lv_iconst (v := 0) hx hb dX10_isRegister_1 (by decide) ?_
  refine lv_iconst (v := 3) hx hb dX10_isRegister_2 (by decide) ?_
  refine jc_sz [.int p1, .int (0 : Int32), .int (3 : Int32)] [] jc jw hA (c_X10_in hY  (M := M) rfl) sd_X10_119 rfl hl.1 (j_hR hRf hRl rfl rfl) (Nat.le_of_ble_eq_true rfl) dX10_isRegister_3 (fun H locs jw hz => ?_)
  have z_1 := hz
  exact kr _ _ _ _ _ _ (j_ret eG0 hE) rfl z_1 jw dX10_isRegister_6
def lp_X10_remembers_2 (Y : JY) (o : Nat) (n : Nat) (vv18 : Int32) (mm19 : JM) : Option (JM) := match n with
  | 0 => none
  | n + 1 => if (168 : Int32) ≤ vv18 then (some mm19) else (if j_g (vv18 + (24 : Int32)) (j_ln Y (j_rf Y o 9)) then (if j_g vv18 (j_ln Y (j_rf Y o 9)) then (lt_ (j_up mm19 (j_rf Y o 9) vv18.toNatClampNeg (mm19 (j_rf Y o 9) (vv18 + (24 : Int32)).toNatClampNeg)) fun mm24 => lt_ (vv18 + (1 : Int32)) fun vv25 => lp_X10_remembers_2 Y o n vv25 mm24) else none) else none)
def lp_X10_remembers_1 (Y : JY) (o : Nat) (n : Nat) (vv4 : Int32) (mm5 : JM) : Option (JM) := match n with
  | 0 => none
  | n + 1 => if (7 : Int32) ≤ vv4 then (some mm5) else (if j_g (vv4 + (1 : Int32)) (j_ln Y (j_rf Y o 7)) then (if j_g vv4 (j_ln Y (j_rf Y o 7)) then (lt_ (j_up mm5 (j_rf Y o 7) vv4.toNatClampNeg (mm5 (j_rf Y o 7) (vv4 + (1 : Int32)).toNatClampNeg)) fun mm10 => if j_g (vv4 + (1 : Int32)) (j_ln Y (j_rf Y o 8)) then (if j_g vv4 (j_ln Y (j_rf Y o 8)) then (lt_ (j_up mm10 (j_rf Y o 8) vv4.toNatClampNeg (mm10 (j_rf Y o 8) (vv4 + (1 : Int32)).toNatClampNeg)) fun mm14 => lt_ (vv4 + (1 : Int32)) fun vv15 => lp_X10_remembers_1 Y o n vv15 mm14) else none) else none) else none) else none)
def lp_X10_remembers_3 (Y : JY) (p1 : Int32) (o : Nat) (n : Nat) (vv40 : Int32) (mm41 : JM) : Option (JM) := match n with
  | 0 => none
  | n + 1 => if (24 : Int32) ≤ vv40 then (some mm41) else (if j_g (((24 : Int32) * p1) + vv40) (j_ln Y (j_rf Y o 1)) then (if j_g (((24 : Int32) * (mm41 o 10)) + vv40) (j_ln Y (j_rf Y o 9)) then (lt_ (j_up mm41 (j_rf Y o 9) (((24 : Int32) * (mm41 o 10)) + vv40).toNatClampNeg (mm41 (j_rf Y o 1) (((24 : Int32) * p1) + vv40).toNatClampNeg)) fun mm47 => lt_ (vv40 + (1 : Int32)) fun vv48 => lp_X10_remembers_3 Y p1 o n vv48 mm47) else none) else none)
def s_X10_remembers (Y : JY) (M : JM) (o : Nat) (p1 : Int32) : Option (JM) := (if (M o 10) = (8 : Int32) then ((lp_X10_remembers_1 Y o j_fuel (0 : Int32) M).bind fun xx29 => (lp_X10_remembers_2 Y o j_fuel (0 : Int32) xx29).bind fun xx28 => lt_ (j_up xx28 o 10 ((xx28 o 10) - (1 : Int32))) fun mm27 => some mm27) else (some M)).bind fun xx52 => if j_g (xx52 o 10) (j_ln Y (j_rf Y o 7)) then (lt_ (j_up xx52 (j_rf Y o 7) (xx52 o 10).toNatClampNeg p1) fun mm33 => if j_g p1 (j_ln Y (j_rf Y o 2)) then (if j_g (mm33 o 10) (j_ln Y (j_rf Y o 8)) then (lt_ (j_up mm33 (j_rf Y o 8) (mm33 o 10).toNatClampNeg (mm33 (j_rf Y o 2) p1.toNatClampNeg)) fun mm38 => (lp_X10_remembers_3 Y p1 o j_fuel (0 : Int32) mm38).bind fun xx51 => lt_ (j_up xx51 o 10 ((xx51 o 10) + (1 : Int32))) fun mm50 => some mm50) else none) else none) else none
set_option maxRecDepth 100000 in
set_option maxHeartbeats 4000000 in
theorem c_X10_remembers {D : va_G} {Y : JY} {ty : Nat → ClassId} {ad : Nat → Nat} {sz : Nat} {l : Launch} {M : JM} (hY : j_ok Y) {o : Nat} {p1 : Int32} (ho : j_kd Y o = 10) {r : JM} (hE : s_X10_remembers Y M o p1 = some r) : JMv D Y ty ad sz l yX10_remembers cX10_remembers 3 0 0 [.ref (ad o), .int p1] M r := by
  refine j_ofV hY (by decide +kernel) (Nat.le_of_ble_eq_true rfl) (fun p e s m below meth c args R Q A hRf hRl hA jc jw kr ls hl => ?_)
  have hx := jc.1
  have hb := jc.2.1
  have hl : lv_has ls 3 [(0, .ref (ad o)), (1, .int p1)] := hl
  unfold s_X10_remembers at hE
  obtain ⟨G0, eG0, hG0, hE⟩ := j_F0o hE
  refine lv_aload_n hx hb dX10_remembers_0 rfl (lv_at hl 0 rfl) ?_
  refine jg_10_10 jc jw ho wd_6_69 dX10_remembers_1 ?_
  refine lv_bipush (v := 8) hx hb dX10_remembers_4 (by decide) ?_
  obtain ⟨G2, eG2, hG2, hE⟩ := j_ctxB hG0 hE
  have J2 : ∀ (mm30 : JM)  (H : Heap) (locs : List Loc) (ls : Array Slot), G2 (some mm30) = some r → JW D Y ty ad A s.heap mm30 H locs → lv_has ls 3 [(0, .ref (ad o)), (1, .int p1)] → W p l e R s m args below meth c H locs 0 0 Q (F0 m 91 ls []) := by
    intro mm30  H locs ls hE jw hl
    replace hE := j_popB eG2 hE
    try dsimp only at hE
    refine lv_aload_n hx hb dX10_remembers_91 rfl (lv_at hl 0 rfl) ?_
    refine jg_10_7 jc jw ho wd_6_66 dX10_remembers_92 ?_
    have k31 := j_sub hY ho 7 (f := 100) rfl (by decide) (by decide) (by decide)
    refine lv_aload_n hx hb dX10_remembers_95 rfl (lv_at hl 0 rfl) ?_
    refine jg_10_10 jc jw ho wd_6_69 dX10_remembers_96 ?_
    refine lv_iload_n hx hb dX10_remembers_99 rfl (lv_at hl 1 rfl) ?_
    rcases Classical.em (j_g (mm30 o 10) (j_ln Y (j_rf Y o 7))) with g32 | g32
    case inr => rw [if_neg g32] at hE; exact absurd hE (hG0 _)
    rw [if_pos g32] at hE
    refine jr_iast jc jw k31 (j_g_in g32) dX10_remembers_100 (fun H locs jw => ?_)
    obtain ⟨mm33, emm33, hE⟩ := j_lv hE
    rw [← emm33] at jw
    try dsimp only at hE
    refine lv_aload_n hx hb dX10_remembers_101 rfl (lv_at hl 0 rfl) ?_
    refine jg_10_8 jc jw ho wd_6_67 dX10_remembers_102 ?_
    have k34 := j_sub hY ho 8 (f := 100) rfl (by decide) (by decide) (by decide)
    refine lv_aload_n hx hb dX10_remembers_105 rfl (lv_at hl 0 rfl) ?_
    refine jg_10_10 jc jw ho wd_6_69 dX10_remembers_106 ?_
    refine lv_aload_n hx hb dX10_remembers_109 rfl (lv_at hl 0 rfl) ?_
    refine jg_10_2 jc jw ho wd_6_61 dX10_remembers_110 ?_
    have k35 := j_sub hY ho 2 (f := 100) rfl (by decide) (by decide) (by decide)
    refine lv_iload_n hx hb dX10_remembers_113 rfl (lv_at hl 1 rfl) ?_
    rcases Classical.em (j_g p1 (j_ln Y (j_rf Y o 2))) with g36 | g36
    case inr => rw [if_neg g36] at hE; exact absurd hE (hG0 _)
    rw [if_pos g36] at hE
    refine jr_iald jc jw k35 (j_g_in g36) dX10_remembers_114 ?_
    rcases Classical.em (j_g (mm33 o 10) (j_ln Y (j_rf Y o 8))) with g37 | g37
    case inr => rw [if_neg g37] at hE; exact absurd hE (hG0 _)
    rw [if_pos g37] at hE
    refine jr_iast jc jw k34 (j_g_in g37) dX10_remembers_115 (fun H locs jw => ?_)
    obtain ⟨mm38, emm38, hE⟩ := j_lv hE
    rw [← emm38] at jw
    try dsimp only at hE
    refine lv_iconst (v := 0) hx hb dX10_remembers_116 (by decide) ?_
    refine lv_istore_n (lv' := [(2, .int (0 : Int32)), (0, .ref (ad o)), (1, .int p1)]) hx hb dX10_remembers_117 rfl hl (by decide) rfl (fun ls hl => ?_)
    obtain ⟨G39, eG39, hG39, hE⟩ := j_ctxB hG0 hE
    have E39_155 : ∀ (mm49 : JM)  (H : Heap) (locs : List Loc) (ls : Array Slot), G39 (some mm49) = some r → JW D Y ty ad A s.heap mm49 H locs → lv_has ls 3 [(0, .ref (ad o))] → W p l e R s m args below meth c H locs 0 0 Q (F0 m 155 ls []) := by
      intro mm49  H locs ls hE jw hl
      replace hE := j_popB eG39 hE
      try dsimp only at hE
      refine lv_aload_n hx hb dX10_remembers_155 rfl (lv_at hl 0 rfl) ?_
      refine lv_dup hx hb dX10_remembers_156 rfl ?_
      refine jg_10_10 jc jw ho wd_6_69 dX10_remembers_157 ?_
      refine lv_iconst (v := 1) hx hb dX10_remembers_160 (by decide) ?_
      refine lv_iadd hx hb dX10_remembers_161 ?_
      refine js_10_10 jc jw ho wd_6_69 dX10_remembers_162 (fun H locs jw => ?_)
      obtain ⟨mm50, emm50, hE⟩ := j_lv hE
      rw [← emm50] at jw
      try dsimp only at hE
      exact kr _ _ _ _ _ (Option.some.inj (j_ret eG0 hE)) jw dX10_remembers_165
    have LP39 : ∀ (n : Nat) (vv40 : Int32) (mm41 : JM) (H : Heap) (locs : List Loc) (ls : Array Slot), G39 (lp_X10_remembers_3 Y p1 o n vv40 mm41) = some r → JW D Y ty ad A s.heap mm41 H locs → lv_has ls 3 [(2, .int vv40), (0, .ref (ad o)), (1, .int p1)] → W p l e R s m args below meth c H locs 0 0 Q (F0 m 118 ls []) := by
      intro n
      induction n with
      | zero => intro vv40 mm41 H locs ls hE jw hl; exact absurd hE (hG39 _)
      | succ n ih =>
        intro vv40 mm41 H locs ls hE jw hl
        rw [lp_X10_remembers_3] at hE
        refine lv_iload_n hx hb dX10_remembers_118 rfl (lv_at hl 0 rfl) ?_
        refine lv_bipush (v := 24) hx hb dX10_remembers_119 (by decide) ?_
        refine lv_icmp_ge (tgt := 155) hx hb dX10_remembers_121 (by decide) (fun c42 => ?_) (fun c42 => ?_)
        · rw [if_pos c42] at hE
          exact E39_155 mm41  H locs ls hE jw (lv_sub hl [1] rfl)
        · rw [if_neg c42] at hE
          refine lv_aload_n hx hb dX10_remembers_124 rfl (lv_at hl 1 rfl) ?_
          refine jg_10_9 jc jw ho wd_6_68 dX10_remembers_125 ?_
          have k43 := j_sub hY ho 9 (f := 100) rfl (by decide) (by decide) (by decide)
          refine lv_bipush (v := 24) hx hb dX10_remembers_128 (by decide) ?_
          refine lv_aload_n hx hb dX10_remembers_130 rfl (lv_at hl 1 rfl) ?_
          refine jg_10_10 jc jw ho wd_6_69 dX10_remembers_131 ?_
          refine lv_imul hx hb dX10_remembers_134 ?_
          refine lv_iload_n hx hb dX10_remembers_135 rfl (lv_at hl 0 rfl) ?_
          refine lv_iadd hx hb dX10_remembers_136 ?_
          refine lv_aload_n hx hb dX10_remembers_137 rfl (lv_at hl 1 rfl) ?_
          refine jg_10_1 jc jw ho wd_6_60 dX10_remembers_138 ?_
          have k44 := j_sub hY ho 1 (f := 100) rfl (by decide) (by decide) (by decide)
          refine lv_bipush (v := 24) hx hb dX10_remembers_141 (by decide) ?_
          refine lv_iload_n hx hb dX10_remembers_143 rfl (lv_at hl 2 rfl) ?_
          refine lv_imul hx hb dX10_remembers_144 ?_
          refine lv_iload_n hx hb dX10_remembers_145 rfl (lv_at hl 0 rfl) ?_
          refine lv_iadd hx hb dX10_remembers_146 ?_
          rcases Classical.em (j_g (((24 : Int32) * p1) + vv40) (j_ln Y (j_rf Y o 1))) with g45 | g45
          case inr => rw [if_neg g45] at hE; exact absurd hE (hG39 _)
          rw [if_pos g45] at hE
          refine jr_iald jc jw k44 (j_g_in g45) dX10_remembers_147 ?_
          rcases Classical.em (j_g (((24 : Int32) * (mm41 o 10)) + vv40) (j_ln Y (j_rf Y o 9))) with g46 | g46
          case inr => rw [if_neg g46] at hE; exact absurd hE (hG39 _)
          rw [if_pos g46] at hE
          refine jr_iast jc jw k43 (j_g_in g46) dX10_remembers_148 (fun H locs jw => ?_)
          obtain ⟨mm47, emm47, hE⟩ := j_lv hE
          rw [← emm47] at jw
          try dsimp only at hE
          obtain ⟨vv48, evv48, hE⟩ := j_lv hE
          try dsimp only at hE
          refine lv_iinc (v := vv48) (lv' := [(2, .int vv48), (0, .ref (ad o)), (1, .int p1)]) hx hb dX10_remembers_149 hl (k := 0) rfl (by rw [evv48]; rfl) (by decide) rfl (fun ls hl => ?_)
          refine lv_goto (tgt := 118) hx hb dX10_remembers_152 (by decide) ?_
          exact ih vv48 mm47 H locs ls hE jw (lv_sub hl [0, 1, 2] rfl)
    exact LP39 j_fuel (0 : Int32) mm38 H locs ls hE jw (lv_sub hl [0, 1, 2] rfl)
  refine lv_icmp_ne (tgt := 91) hx hb dX10_remembers_6 (by decide) (fun c1 => ?_) (fun c1 => ?_)
  · rw [if_neg c1] at hE
    exact J2 M  s.heap [] ls hE jw (lv_sub hl [0, 1] rfl)
  · rw [if_pos c1] at hE
    refine lv_iconst (v := 0) hx hb dX10_remembers_9 (by decide) ?_
    refine lv_istore_n (lv' := [(2, .int (0 : Int32)), (0, .ref (ad o)), (1, .int p1)]) hx hb dX10_remembers_10 rfl hl (by decide) rfl (fun ls hl => ?_)
    obtain ⟨G3, eG3, hG3, hE⟩ := j_ctxB hG2 hE
    have E3_51 : ∀ (mm16 : JM)  (H : Heap) (locs : List Loc) (ls : Array Slot), G3 (some mm16) = some r → JW D Y ty ad A s.heap mm16 H locs → lv_has ls 3 [(0, .ref (ad o)), (1, .int p1)] → W p l e R s m args below meth c H locs 0 0 Q (F0 m 51 ls []) := by
      intro mm16  H locs ls hE jw hl
      replace hE := j_popB eG3 hE
      try dsimp only at hE
      refine lv_iconst (v := 0) hx hb dX10_remembers_51 (by decide) ?_
      refine lv_istore_n (lv' := [(2, .int (0 : Int32)), (0, .ref (ad o)), (1, .int p1)]) hx hb dX10_remembers_52 rfl hl (by decide) rfl (fun ls hl => ?_)
      obtain ⟨G17, eG17, hG17, hE⟩ := j_ctxB hG2 hE
      have E17_81 : ∀ (mm26 : JM)  (H : Heap) (locs : List Loc) (ls : Array Slot), G17 (some mm26) = some r → JW D Y ty ad A s.heap mm26 H locs → lv_has ls 3 [(0, .ref (ad o)), (1, .int p1)] → W p l e R s m args below meth c H locs 0 0 Q (F0 m 81 ls []) := by
        intro mm26  H locs ls hE jw hl
        replace hE := j_popB eG17 hE
        try dsimp only at hE
        refine lv_aload_n hx hb dX10_remembers_81 rfl (lv_at hl 0 rfl) ?_
        refine lv_dup hx hb dX10_remembers_82 rfl ?_
        refine jg_10_10 jc jw ho wd_6_69 dX10_remembers_83 ?_
        refine lv_iconst (v := 1) hx hb dX10_remembers_86 (by decide) ?_
        refine lv_isub hx hb dX10_remembers_87 ?_
        refine js_10_10 jc jw ho wd_6_69 dX10_remembers_88 (fun H locs jw => ?_)
        obtain ⟨mm27, emm27, hE⟩ := j_lv hE
        rw [← emm27] at jw
        try dsimp only at hE
        exact J2 mm27  H locs ls hE jw (lv_sub hl [0, 1] rfl)
      have LP17 : ∀ (n : Nat) (vv18 : Int32) (mm19 : JM) (H : Heap) (locs : List Loc) (ls : Array Slot), G17 (lp_X10_remembers_2 Y o n vv18 mm19) = some r → JW D Y ty ad A s.heap mm19 H locs → lv_has ls 3 [(2, .int vv18), (0, .ref (ad o)), (1, .int p1)] → W p l e R s m args below meth c H locs 0 0 Q (F0 m 53 ls []) := by
        intro n
        induction n with
        | zero => intro vv18 mm19 H locs ls hE jw hl; exact absurd hE (hG17 _)
        | succ n ih =>
          intro vv18 mm19 H locs ls hE jw hl
          rw [lp_X10_remembers_2] at hE
          refine lv_iload_n hx hb dX10_remembers_53 rfl (lv_at hl 0 rfl) ?_
          refine lv_sipush (v := 168) hx hb dX10_remembers_54 (by decide) ?_
          refine lv_icmp_ge (tgt := 81) hx hb dX10_remembers_57 (by decide) (fun c20 => ?_) (fun c20 => ?_)
          · rw [if_pos c20] at hE
            exact E17_81 mm19  H locs ls hE jw (lv_sub hl [1, 2] rfl)
          · rw [if_neg c20] at hE
            refine lv_aload_n hx hb dX10_remembers_60 rfl (lv_at hl 1 rfl) ?_
            refine jg_10_9 jc jw ho wd_6_68 dX10_remembers_61 ?_
            have k21 := j_sub hY ho 9 (f := 100) rfl (by decide) (by decide) (by decide)
            refine lv_iload_n hx hb dX10_remembers_64 rfl (lv_at hl 0 rfl) ?_
            refine lv_aload_n hx hb dX10_remembers_65 rfl (lv_at hl 1 rfl) ?_
            refine jg_10_9 jc jw ho wd_6_68 dX10_remembers_66 ?_
            refine lv_iload_n hx hb dX10_remembers_69 rfl (lv_at hl 0 rfl) ?_
            refine lv_bipush (v := 24) hx hb dX10_remembers_70 (by decide) ?_
            refine lv_iadd hx hb dX10_remembers_72 ?_
            rcases Classical.em (j_g (vv18 + (24 : Int32)) (j_ln Y (j_rf Y o 9))) with g22 | g22
            case inr => rw [if_neg g22] at hE; exact absurd hE (hG17 _)
            rw [if_pos g22] at hE
            refine jr_iald jc jw k21 (j_g_in g22) dX10_remembers_73 ?_
            rcases Classical.em (j_g vv18 (j_ln Y (j_rf Y o 9))) with g23 | g23
            case inr => rw [if_neg g23] at hE; exact absurd hE (hG17 _)
            rw [if_pos g23] at hE
            refine jr_iast jc jw k21 (j_g_in g23) dX10_remembers_74 (fun H locs jw => ?_)
            obtain ⟨mm24, emm24, hE⟩ := j_lv hE
            rw [← emm24] at jw
            try dsimp only at hE
            obtain ⟨vv25, evv25, hE⟩ := j_lv hE
            try dsimp only at hE
            refine lv_iinc (v := vv25) (lv' := [(2, .int vv25), (0, .ref (ad o)), (1, .int p1)]) hx hb dX10_remembers_75 hl (k := 0) rfl (by rw [evv25]; rfl) (by decide) rfl (fun ls hl => ?_)
            refine lv_goto (tgt := 53) hx hb dX10_remembers_78 (by decide) ?_
            exact ih vv25 mm24 H locs ls hE jw (lv_sub hl [0, 1, 2] rfl)
      exact LP17 j_fuel (0 : Int32) mm16 H locs ls hE jw (lv_sub hl [0, 1, 2] rfl)
    have LP3 : ∀ (n : Nat) (vv4 : Int32) (mm5 : JM) (H : Heap) (locs : List Loc) (ls : Array Slot), G3 (lp_X10_remembers_1 Y o n vv4 mm5) = some r → JW D Y ty ad A s.heap mm5 H locs → lv_has ls 3 [(2, .int vv4), (0, .ref (ad o)), (1, .int p1)] → W p l e R s m args below meth c H locs 0 0 Q (F0 m 11 ls []) := by
      intro n
      induction n with
      | zero => intro vv4 mm5 H locs ls hE jw hl; exact absurd hE (hG3 _)
      | succ n ih =>
        intro vv4 mm5 H locs ls hE jw hl
        rw [lp_X10_remembers_1] at hE
        refine lv_iload_n hx hb dX10_remembers_11 rfl (lv_at hl 0 rfl) ?_
        refine lv_bipush (v := 7) hx hb dX10_remembers_12 (by decide) ?_
        refine lv_icmp_ge (tgt := 51) hx hb dX10_remembers_14 (by decide) (fun c6 => ?_) (fun c6 => ?_)
        · rw [if_pos c6] at hE
          exact E3_51 mm5  H locs ls hE jw (lv_sub hl [1, 2] rfl)
        · rw [if_neg c6] at hE
          refine lv_aload_n hx hb dX10_remembers_17 rfl (lv_at hl 1 rfl) ?_
          refine jg_10_7 jc jw ho wd_6_66 dX10_remembers_18 ?_
          have k7 := j_sub hY ho 7 (f := 100) rfl (by decide) (by decide) (by decide)
          refine lv_iload_n hx hb dX10_remembers_21 rfl (lv_at hl 0 rfl) ?_
          refine lv_aload_n hx hb dX10_remembers_22 rfl (lv_at hl 1 rfl) ?_
          refine jg_10_7 jc jw ho wd_6_66 dX10_remembers_23 ?_
          refine lv_iload_n hx hb dX10_remembers_26 rfl (lv_at hl 0 rfl) ?_
          refine lv_iconst (v := 1) hx hb dX10_remembers_27 (by decide) ?_
          refine lv_iadd hx hb dX10_remembers_28 ?_
          rcases Classical.em (j_g (vv4 + (1 : Int32)) (j_ln Y (j_rf Y o 7))) with g8 | g8
          case inr => rw [if_neg g8] at hE; exact absurd hE (hG3 _)
          rw [if_pos g8] at hE
          refine jr_iald jc jw k7 (j_g_in g8) dX10_remembers_29 ?_
          rcases Classical.em (j_g vv4 (j_ln Y (j_rf Y o 7))) with g9 | g9
          case inr => rw [if_neg g9] at hE; exact absurd hE (hG3 _)
          rw [if_pos g9] at hE
          refine jr_iast jc jw k7 (j_g_in g9) dX10_remembers_30 (fun H locs jw => ?_)
          obtain ⟨mm10, emm10, hE⟩ := j_lv hE
          rw [← emm10] at jw
          try dsimp only at hE
          refine lv_aload_n hx hb dX10_remembers_31 rfl (lv_at hl 1 rfl) ?_
          refine jg_10_8 jc jw ho wd_6_67 dX10_remembers_32 ?_
          have k11 := j_sub hY ho 8 (f := 100) rfl (by decide) (by decide) (by decide)
          refine lv_iload_n hx hb dX10_remembers_35 rfl (lv_at hl 0 rfl) ?_
          refine lv_aload_n hx hb dX10_remembers_36 rfl (lv_at hl 1 rfl) ?_
          refine jg_10_8 jc jw ho wd_6_67 dX10_remembers_37 ?_
          refine lv_iload_n hx hb dX10_remembers_40 rfl (lv_at hl 0 rfl) ?_
          refine lv_iconst (v := 1) hx hb dX10_remembers_41 (by decide) ?_
          refine lv_iadd hx hb dX10_remembers_42 ?_
          rcases Classical.em (j_g (vv4 + (1 : Int32)) (j_ln Y (j_rf Y o 8))) with g12 | g12
          case inr => rw [if_neg g12] at hE; exact absurd hE (hG3 _)
          rw [if_pos g12] at hE
          refine jr_iald jc jw k11 (j_g_in g12) dX10_remembers_43 ?_
          rcases Classical.em (j_g vv4 (j_ln Y (j_rf Y o 8))) with g13 | g13
          case inr => rw [if_neg g13] at hE; exact absurd hE (hG3 _)
          rw [if_pos g13] at hE
          refine jr_iast jc jw k11 (j_g_in g13) dX10_remembers_44 (fun H locs jw => ?_)
          obtain ⟨mm14, emm14, hE⟩ := j_lv hE
          rw [← emm14] at jw
          try dsimp only at hE
          obtain ⟨vv15, evv15, hE⟩ := j_lv hE
          try dsimp only at hE
          refine lv_iinc (v := vv15) (lv' := [(2, .int vv15), (0, .ref (ad o)), (1, .int p1)]) hx hb dX10_remembers_45 hl (k := 0) rfl (by rw [evv15]; rfl) (by decide) rfl (fun ls hl => ?_)
          refine lv_goto (tgt := 11) hx hb dX10_remembers_48 (by decide) ?_
          exact ih vv15 mm14 H locs ls hE jw (lv_sub hl [0, 1, 2] rfl)
    exact LP3 j_fuel (0 : Int32) M s.heap [] ls hE jw (lv_sub hl [0, 1, 2] rfl)
def lp_X10_holds_1 (Y : JY) (p3 : Int32) (q2 : Nat) (p1 : Int32) (o : Nat) (n : Nat) (vv5 : Int32) (mm6 : JM) : Option (JM) := match n with
  | 0 => none
  | n + 1 => if p3 ≤ vv5 then (some mm6) else (if j_g vv5 (j_ln Y q2) then (if j_g (((24 : Int32) * p1) + vv5) (j_ln Y (j_rf Y o 1)) then (lt_ (j_up mm6 (j_rf Y o 1) (((24 : Int32) * p1) + vv5).toNatClampNeg (mm6 q2 vv5.toNatClampNeg)) fun mm11 => lt_ (vv5 + (1 : Int32)) fun vv12 => lp_X10_holds_1 Y p3 q2 p1 o n vv12 mm11) else none) else none)
def s_X10_holds (Y : JY) (M : JM) (o : Nat) (p1 : Int32) (q2 : Nat) (p3 : Int32) : Option (JM) := if j_g p1 (j_ln Y (j_rf Y o 2)) then (lt_ (j_up M (j_rf Y o 2) p1.toNatClampNeg p3) fun mm3 => (lp_X10_holds_1 Y p3 q2 p1 o j_fuel (0 : Int32) mm3).bind fun xx13 => some xx13) else none
set_option maxRecDepth 100000 in
set_option maxHeartbeats 4000000 in
theorem c_X10_holds {D : va_G} {Y : JY} {ty : Nat → ClassId} {ad : Nat → Nat} {sz : Nat} {l : Launch} {M : JM} (hY : j_ok Y) {o : Nat} {p1 : Int32} {q2 : Nat} {p3 : Int32} (ho : j_kd Y o = 10) (hq2 : j_kd Y q2 = 100) {r : JM} (hE : s_X10_holds Y M o p1 q2 p3 = some r) : JMv D Y ty ad sz l yX10_holds cX10_holds 5 0 0 [.ref (ad o), .int p1, .ref (ad q2), .int p3] M r := by
  refine j_ofV hY (by decide +kernel) (Nat.le_of_ble_eq_true rfl) (fun p e s m below meth c args R Q A hRf hRl hA jc jw kr ls hl => ?_)
  have hx := jc.1
  have hb := jc.2.1
  have hl : lv_has ls 5 [(0, .ref (ad o)), (1, .int p1), (2, .ref (ad q2)), (3, .int p3)] := hl
  unfold s_X10_holds at hE
  obtain ⟨G0, eG0, hG0, hE⟩ := j_F0o hE
  refine lv_aload_n hx hb dX10_holds_0 rfl (lv_at hl 0 rfl) ?_
  refine jg_10_2 jc jw ho wd_6_61 dX10_holds_1 ?_
  have k1 := j_sub hY ho 2 (f := 100) rfl (by decide) (by decide) (by decide)
  refine lv_iload_n hx hb dX10_holds_4 rfl (lv_at hl 1 rfl) ?_
  refine lv_iload_n hx hb dX10_holds_5 rfl (lv_at hl 3 rfl) ?_
  rcases Classical.em (j_g p1 (j_ln Y (j_rf Y o 2))) with g2 | g2
  case inr => rw [if_neg g2] at hE; exact absurd hE (hG0 _)
  rw [if_pos g2] at hE
  refine jr_iast jc jw k1 (j_g_in g2) dX10_holds_6 (fun H locs jw => ?_)
  obtain ⟨mm3, emm3, hE⟩ := j_lv hE
  rw [← emm3] at jw
  try dsimp only at hE
  refine lv_iconst (v := 0) hx hb dX10_holds_7 (by decide) ?_
  refine lv_istore (lv' := [(4, .int (0 : Int32)), (0, .ref (ad o)), (1, .int p1), (2, .ref (ad q2)), (3, .int p3)]) hx hb dX10_holds_8 hl (by decide) rfl (fun ls hl => ?_)
  obtain ⟨G4, eG4, hG4, hE⟩ := j_ctxB hG0 hE
  have LP4 : ∀ (n : Nat) (vv5 : Int32) (mm6 : JM) (H : Heap) (locs : List Loc) (ls : Array Slot), G4 (lp_X10_holds_1 Y p3 q2 p1 o n vv5 mm6) = some r → JW D Y ty ad A s.heap mm6 H locs → lv_has ls 5 [(4, .int vv5), (0, .ref (ad o)), (1, .int p1), (2, .ref (ad q2)), (3, .int p3)] → W p l e R s m args below meth c H locs 0 0 Q (F0 m 10 ls []) := by
    intro n
    induction n with
    | zero => intro vv5 mm6 H locs ls hE jw hl; exact absurd hE (hG4 _)
    | succ n ih =>
      intro vv5 mm6 H locs ls hE jw hl
      rw [lp_X10_holds_1] at hE
      refine lv_iload hx hb dX10_holds_10 (lv_at hl 0 rfl) ?_
      refine lv_iload_n hx hb dX10_holds_12 rfl (lv_at hl 4 rfl) ?_
      refine lv_icmp_ge (tgt := 38) hx hb dX10_holds_13 (by decide) (fun c7 => ?_) (fun c7 => ?_)
      · rw [if_pos c7] at hE
        replace hE := j_popB eG4 hE
        try dsimp only at hE
        exact kr _ _ _ _ _ (Option.some.inj (j_ret eG0 hE)) jw dX10_holds_38
      · rw [if_neg c7] at hE
        refine lv_aload_n hx hb dX10_holds_16 rfl (lv_at hl 1 rfl) ?_
        refine jg_10_1 jc jw ho wd_6_60 dX10_holds_17 ?_
        have k8 := j_sub hY ho 1 (f := 100) rfl (by decide) (by decide) (by decide)
        refine lv_bipush (v := 24) hx hb dX10_holds_20 (by decide) ?_
        refine lv_iload_n hx hb dX10_holds_22 rfl (lv_at hl 2 rfl) ?_
        refine lv_imul hx hb dX10_holds_23 ?_
        refine lv_iload hx hb dX10_holds_24 (lv_at hl 0 rfl) ?_
        refine lv_iadd hx hb dX10_holds_26 ?_
        refine lv_aload_n hx hb dX10_holds_27 rfl (lv_at hl 3 rfl) ?_
        refine lv_iload hx hb dX10_holds_28 (lv_at hl 0 rfl) ?_
        rcases Classical.em (j_g vv5 (j_ln Y q2)) with g9 | g9
        case inr => rw [if_neg g9] at hE; exact absurd hE (hG4 _)
        rw [if_pos g9] at hE
        refine jr_iald jc jw hq2 (j_g_in g9) dX10_holds_30 ?_
        rcases Classical.em (j_g (((24 : Int32) * p1) + vv5) (j_ln Y (j_rf Y o 1))) with g10 | g10
        case inr => rw [if_neg g10] at hE; exact absurd hE (hG4 _)
        rw [if_pos g10] at hE
        refine jr_iast jc jw k8 (j_g_in g10) dX10_holds_31 (fun H locs jw => ?_)
        obtain ⟨mm11, emm11, hE⟩ := j_lv hE
        rw [← emm11] at jw
        try dsimp only at hE
        obtain ⟨vv12, evv12, hE⟩ := j_lv hE
        try dsimp only at hE
        refine lv_iinc (v := vv12) (lv' := [(4, .int vv12), (0, .ref (ad o)), (1, .int p1), (2, .ref (ad q2)), (3, .int p3)]) hx hb dX10_holds_32 hl (k := 0) rfl (by rw [evv12]; rfl) (by decide) rfl (fun ls hl => ?_)
        refine lv_goto (tgt := 10) hx hb dX10_holds_35 (by decide) ?_
        exact ih vv12 mm11 H locs ls hE jw (lv_sub hl [0, 1, 2, 3, 4] rfl)
  exact LP4 j_fuel (0 : Int32) mm3 H locs ls hE jw (lv_sub hl [0, 1, 2, 3, 4] rfl)
def s_X10_append (Y : JY) (M : JM) (o : Nat) (p1 : Int32) (p2 : Int32) : Option (Int32 × JM) := if (s_X10_isRegister Y M p1) = 0 ∨ (s_X10_in Y M p2 (0 : Int32) (25 : Int32)) = 0 then (lt_ (s_X10_fails Y M o (1 : Int32)) fun xx5 => some (xx5.1, xx5.2)) else (if j_g p1 (j_ln Y (j_rf Y o 2)) then (if (M (j_rf Y o 2) p1.toNatClampNeg) = (24 : Int32) then (lt_ (s_X10_fails Y M o (2 : Int32)) fun xx9 => some (xx9.1, xx9.2)) else ((s_X10_remembers Y M o p1).bind fun xx10 => if j_g p1 (j_ln Y (j_rf Y o 2)) then (if j_g (((24 : Int32) * p1) + (xx10 (j_rf Y o 2) p1.toNatClampNeg)) (j_ln Y (j_rf Y o 1)) then (lt_ (j_up xx10 (j_rf Y o 1) (((24 : Int32) * p1) + (xx10 (j_rf Y o 2) p1.toNatClampNeg)).toNatClampNeg p2) fun mm14 => if j_g p1 (j_ln Y (j_rf Y o 2)) then (if j_g p1 (j_ln Y (j_rf Y o 2)) then (lt_ (j_up mm14 (j_rf Y o 2) p1.toNatClampNeg ((mm14 (j_rf Y o 2) p1.toNatClampNeg) + (1 : Int32))) fun mm17 => if j_g p1 (j_ln Y (j_rf Y o 2)) then (lt_ (s_X10_done Y mm17 o (mm17 (j_rf Y o 2) p1.toNatClampNeg)) fun xx19 => some (xx19.1, xx19.2)) else none) else none) else none) else none) else none)) else none)
set_option maxRecDepth 100000 in
set_option maxHeartbeats 4000000 in
theorem c_X10_append {D : va_G} {Y : JY} {ty : Nat → ClassId} {ad : Nat → Nat} {sz : Nat} {l : Launch} {M : JM} (hY : j_ok Y) {o : Nat} {p1 : Int32} {p2 : Int32} (ho : j_kd Y o = 10) {r : Int32 × JM} (hE : s_X10_append Y M o p1 p2 = some r) : JMi D Y ty ad sz l yX10_append cX10_append 3 (some .int) 2 42 [.ref (ad o), .int p1, .int p2] M r.1 r.2 := by
  refine j_ofI hY (by decide +kernel) (Nat.le_of_ble_eq_true rfl) (fun p e s m below meth c args R Q A hRf hRl hA jc jw kr ls hl => ?_)
  have hx := jc.1
  have hb := jc.2.1
  have hl : lv_has ls 3 [(0, .ref (ad o)), (1, .int p1), (2, .int p2)] := hl
  unfold s_X10_append at hE
  obtain ⟨G0, eG0, hG0, hE⟩ := j_F0o hE
  refine lv_iload_n hx hb dX10_append_0 rfl (lv_at hl 1 rfl) ?_
  refine jc_sz [.int p1] [] jc jw hA (c_X10_isRegister hY  (M := M) rfl) sd_X10_126 rfl hl.1 (j_hR hRf hRl rfl rfl) (Nat.le_of_ble_eq_true rfl) dX10_append_1 (fun H locs jw hz => ?_)
  have z_1 := hz
  have B20 : ∀ (H : Heap) (locs : List Loc), JW D Y ty ad A s.heap M H locs → ((s_X10_isRegister Y M p1) = 0 ∨ (s_X10_in Y M p2 (0 : Int32) (25 : Int32)) = 0) → W p l e R s m args below meth c H locs 0 0 Q (F0 m 17 ls []) := by
    intro H locs jw hcc
    rw [if_pos hcc] at hE
    refine lv_aload_n hx hb dX10_append_17 rfl (lv_at hl 0 rfl) ?_
    refine lv_iconst (v := 1) hx hb dX10_append_18 (by decide) ?_
    obtain ⟨xx5, exx5, hE⟩ := j_lv hE
    try dsimp only at hE
    refine jc_vi [.int (1 : Int32)] [] jc jw hA ho (by decide) rfl (c_X10_fails hY ho (M := M) exx5.symm) sd_X10_130 rfl hl.1 (j_hR hRf hRl rfl rfl) (Nat.le_of_ble_eq_true rfl) dX10_append_19 (fun H locs jw => ?_)
    exact kr _ _ _ _ _ _ (congrArg Prod.fst (Option.some.inj (j_ret eG0 hE))) (congrArg Prod.snd (Option.some.inj (j_ret eG0 hE))) jw dX10_append_22
  refine lv_if_eq (tgt := 17) hx hb dX10_append_4 (by decide) (fun c2 => B20 _ _ jw (Or.inl c2)) (fun c2 => ?_)
  refine lv_iload_n hx hb dX10_append_7 rfl (lv_at hl 2 rfl) ?_
  refine lv_iconst (v := 0) hx hb dX10_append_8 (by decide) ?_
  refine lv_bipush (v := 25) hx hb dX10_append_9 (by decide) ?_
  refine jc_sz [.int p2, .int (0 : Int32), .int (25 : Int32)] [] jc jw hA (c_X10_in hY  (M := M) rfl) sd_X10_119 rfl hl.1 (j_hR hRf hRl rfl rfl) (Nat.le_of_ble_eq_true rfl) dX10_append_11 (fun H locs jw hz => ?_)
  have z_3 := hz
  refine lv_if_ne (tgt := 23) hx hb dX10_append_14 (by decide) (fun c4 => ?_) (fun c4 => B20 _ _ jw (Or.inr c4))
  rw [if_neg (fun hq => hq.elim (fun hq => (j_abs c2 hq)) (fun hq => (j_abs c4 hq)))] at hE
  refine lv_aload_n hx hb dX10_append_23 rfl (lv_at hl 0 rfl) ?_
  refine jg_10_2 jc jw ho wd_6_61 dX10_append_24 ?_
  have k6 := j_sub hY ho 2 (f := 100) rfl (by decide) (by decide) (by decide)
  refine lv_iload_n hx hb dX10_append_27 rfl (lv_at hl 1 rfl) ?_
  rcases Classical.em (j_g p1 (j_ln Y (j_rf Y o 2))) with g7 | g7
  case inr => rw [if_neg g7] at hE; exact absurd hE (hG0 _)
  rw [if_pos g7] at hE
  refine jr_iald jc jw k6 (j_g_in g7) dX10_append_28 ?_
  refine lv_bipush (v := 24) hx hb dX10_append_29 (by decide) ?_
  refine lv_icmp_ne (tgt := 40) hx hb dX10_append_31 (by decide) (fun c8 => ?_) (fun c8 => ?_)
  · rw [if_neg c8] at hE
    refine lv_aload_n hx hb dX10_append_40 rfl (lv_at hl 0 rfl) ?_
    refine lv_iload_n hx hb dX10_append_41 rfl (lv_at hl 1 rfl) ?_
    obtain ⟨xx10, exx10, hE⟩ := j_bd hG0 hE
    try dsimp only at hE
    refine jc_vv [.int p1] [] jc jw hA ho (by decide) rfl (c_X10_remembers hY ho (M := M) exx10) sd_X10_134 rfl hl.1 (j_hR hRf hRl rfl rfl) (Nat.le_of_ble_eq_true rfl) dX10_append_42 (fun H locs jw => ?_)
    refine lv_aload_n hx hb dX10_append_45 rfl (lv_at hl 0 rfl) ?_
    refine jg_10_1 jc jw ho wd_6_60 dX10_append_46 ?_
    have k11 := j_sub hY ho 1 (f := 100) rfl (by decide) (by decide) (by decide)
    refine lv_bipush (v := 24) hx hb dX10_append_49 (by decide) ?_
    refine lv_iload_n hx hb dX10_append_51 rfl (lv_at hl 1 rfl) ?_
    refine lv_imul hx hb dX10_append_52 ?_
    refine lv_aload_n hx hb dX10_append_53 rfl (lv_at hl 0 rfl) ?_
    refine jg_10_2 jc jw ho wd_6_61 dX10_append_54 ?_
    refine lv_iload_n hx hb dX10_append_57 rfl (lv_at hl 1 rfl) ?_
    rcases Classical.em (j_g p1 (j_ln Y (j_rf Y o 2))) with g12 | g12
    case inr => rw [if_neg g12] at hE; exact absurd hE (hG0 _)
    rw [if_pos g12] at hE
    refine jr_iald jc jw k6 (j_g_in g12) dX10_append_58 ?_
    refine lv_iadd hx hb dX10_append_59 ?_
    refine lv_iload_n hx hb dX10_append_60 rfl (lv_at hl 2 rfl) ?_
    rcases Classical.em (j_g (((24 : Int32) * p1) + (xx10 (j_rf Y o 2) p1.toNatClampNeg)) (j_ln Y (j_rf Y o 1))) with g13 | g13
    case inr => rw [if_neg g13] at hE; exact absurd hE (hG0 _)
    rw [if_pos g13] at hE
    refine jr_iast jc jw k11 (j_g_in g13) dX10_append_61 (fun H locs jw => ?_)
    obtain ⟨mm14, emm14, hE⟩ := j_lv hE
    rw [← emm14] at jw
    try dsimp only at hE
    refine lv_aload_n hx hb dX10_append_62 rfl (lv_at hl 0 rfl) ?_
    refine jg_10_2 jc jw ho wd_6_61 dX10_append_63 ?_
    refine lv_iload_n hx hb dX10_append_66 rfl (lv_at hl 1 rfl) ?_
    refine lv_dup2_11 hx hb dX10_append_67 rfl rfl ?_
    rcases Classical.em (j_g p1 (j_ln Y (j_rf Y o 2))) with g15 | g15
    case inr => rw [if_neg g15] at hE; exact absurd hE (hG0 _)
    rw [if_pos g15] at hE
    refine jr_iald jc jw k6 (j_g_in g15) dX10_append_68 ?_
    refine lv_iconst (v := 1) hx hb dX10_append_69 (by decide) ?_
    refine lv_iadd hx hb dX10_append_70 ?_
    rcases Classical.em (j_g p1 (j_ln Y (j_rf Y o 2))) with g16 | g16
    case inr => rw [if_neg g16] at hE; exact absurd hE (hG0 _)
    rw [if_pos g16] at hE
    refine jr_iast jc jw k6 (j_g_in g16) dX10_append_71 (fun H locs jw => ?_)
    obtain ⟨mm17, emm17, hE⟩ := j_lv hE
    rw [← emm17] at jw
    try dsimp only at hE
    refine lv_aload_n hx hb dX10_append_72 rfl (lv_at hl 0 rfl) ?_
    refine lv_aload_n hx hb dX10_append_73 rfl (lv_at hl 0 rfl) ?_
    refine jg_10_2 jc jw ho wd_6_61 dX10_append_74 ?_
    refine lv_iload_n hx hb dX10_append_77 rfl (lv_at hl 1 rfl) ?_
    rcases Classical.em (j_g p1 (j_ln Y (j_rf Y o 2))) with g18 | g18
    case inr => rw [if_neg g18] at hE; exact absurd hE (hG0 _)
    rw [if_pos g18] at hE
    refine jr_iald jc jw k6 (j_g_in g18) dX10_append_78 ?_
    obtain ⟨xx19, exx19, hE⟩ := j_lv hE
    try dsimp only at hE
    refine jc_vi [.int (mm17 (j_rf Y o 2) p1.toNatClampNeg)] [] jc jw hA ho (by decide) rfl (c_X10_done hY ho (M := mm17) exx19.symm) sd_X10_138 rfl hl.1 (j_hR hRf hRl rfl rfl) (Nat.le_of_ble_eq_true rfl) dX10_append_79 (fun H locs jw => ?_)
    exact kr _ _ _ _ _ _ (congrArg Prod.fst (Option.some.inj (j_ret eG0 hE))) (congrArg Prod.snd (Option.some.inj (j_ret eG0 hE))) jw dX10_append_82
  · rw [if_pos c8] at hE
    refine lv_aload_n hx hb dX10_append_34 rfl (lv_at hl 0 rfl) ?_
    refine lv_iconst (v := 2) hx hb dX10_append_35 (by decide) ?_
    obtain ⟨xx9, exx9, hE⟩ := j_lv hE
    try dsimp only at hE
    refine jc_vi [.int (2 : Int32)] [] jc jw hA ho (by decide) rfl (c_X10_fails hY ho (M := M) exx9.symm) sd_X10_130 rfl hl.1 (j_hR hRf hRl rfl rfl) (Nat.le_of_ble_eq_true rfl) dX10_append_36 (fun H locs jw => ?_)
    exact kr _ _ _ _ _ _ (congrArg Prod.fst (Option.some.inj (j_ret eG0 hE))) (congrArg Prod.snd (Option.some.inj (j_ret eG0 hE))) jw dX10_append_39
def lp_X10_insert_1 (Y : JY) (p2 : Int32) (p1 : Int32) (o : Nat) (n : Nat) (vv18 : Int32) (mm19 : JM) : Option (JM) := match n with
  | 0 => none
  | n + 1 => if vv18 ≤ p2 then (some mm19) else (if j_g ((((24 : Int32) * p1) + vv18) - (1 : Int32)) (j_ln Y (j_rf Y o 1)) then (if j_g (((24 : Int32) * p1) + vv18) (j_ln Y (j_rf Y o 1)) then (lt_ (j_up mm19 (j_rf Y o 1) (((24 : Int32) * p1) + vv18).toNatClampNeg (mm19 (j_rf Y o 1) ((((24 : Int32) * p1) + vv18) - (1 : Int32)).toNatClampNeg)) fun mm24 => lt_ (vv18 + (-1 : Int32)) fun vv25 => lp_X10_insert_1 Y p2 p1 o n vv25 mm24) else none) else none)
def s_X10_insert (Y : JY) (M : JM) (o : Nat) (p1 : Int32) (p2 : Int32) (p3 : Int32) : Option (Int32 × JM) := if (s_X10_isRegister Y M p1) = 0 ∨ (s_X10_in Y M p3 (0 : Int32) (25 : Int32)) = 0 then (lt_ (s_X10_fails Y M o (1 : Int32)) fun xx5 => some (xx5.1, xx5.2)) else (if j_g p1 (j_ln Y (j_rf Y o 2)) then (if (M (j_rf Y o 2) p1.toNatClampNeg) = (24 : Int32) then (lt_ (s_X10_fails Y M o (2 : Int32)) fun xx9 => some (xx9.1, xx9.2)) else (if j_g p1 (j_ln Y (j_rf Y o 2)) then (if (s_X10_in Y M p2 (0 : Int32) (M (j_rf Y o 2) p1.toNatClampNeg)) = 0 then (lt_ (s_X10_fails Y M o (3 : Int32)) fun xx13 => some (xx13.1, xx13.2)) else ((s_X10_remembers Y M o p1).bind fun xx14 => if j_g p1 (j_ln Y (j_rf Y o 2)) then (lt_ (xx14 (j_rf Y o 2) p1.toNatClampNeg) fun vv16 => (lp_X10_insert_1 Y p2 p1 o j_fuel vv16 xx14).bind fun xx35 => if j_g (((24 : Int32) * p1) + p2) (j_ln Y (j_rf Y o 1)) then (lt_ (j_up xx35 (j_rf Y o 1) (((24 : Int32) * p1) + p2).toNatClampNeg p3) fun mm29 => if j_g p1 (j_ln Y (j_rf Y o 2)) then (if j_g p1 (j_ln Y (j_rf Y o 2)) then (lt_ (j_up mm29 (j_rf Y o 2) p1.toNatClampNeg ((mm29 (j_rf Y o 2) p1.toNatClampNeg) + (1 : Int32))) fun mm32 => if j_g p1 (j_ln Y (j_rf Y o 2)) then (lt_ (s_X10_done Y mm32 o (mm32 (j_rf Y o 2) p1.toNatClampNeg)) fun xx34 => some (xx34.1, xx34.2)) else none) else none) else none) else none) else none)) else none)) else none)
set_option maxRecDepth 100000 in
set_option maxHeartbeats 4000000 in
theorem c_X10_insert {D : va_G} {Y : JY} {ty : Nat → ClassId} {ad : Nat → Nat} {sz : Nat} {l : Launch} {M : JM} (hY : j_ok Y) {o : Nat} {p1 : Int32} {p2 : Int32} {p3 : Int32} (ho : j_kd Y o = 10) {r : Int32 × JM} (hE : s_X10_insert Y M o p1 p2 p3 = some r) : JMi D Y ty ad sz l yX10_insert cX10_insert 5 (some .int) 2 42 [.ref (ad o), .int p1, .int p2, .int p3] M r.1 r.2 := by
  refine j_ofI hY (by decide +kernel) (Nat.le_of_ble_eq_true rfl) (fun p e s m below meth c args R Q A hRf hRl hA jc jw kr ls hl => ?_)
  have hx := jc.1
  have hb := jc.2.1
  have hl : lv_has ls 5 [(0, .ref (ad o)), (1, .int p1), (2, .int p2), (3, .int p3)] := hl
  unfold s_X10_insert at hE
  obtain ⟨G0, eG0, hG0, hE⟩ := j_F0o hE
  refine lv_iload_n hx hb dX10_insert_0 rfl (lv_at hl 1 rfl) ?_
  refine jc_sz [.int p1] [] jc jw hA (c_X10_isRegister hY  (M := M) rfl) sd_X10_126 rfl hl.1 (j_hR hRf hRl rfl rfl) (Nat.le_of_ble_eq_true rfl) dX10_insert_1 (fun H locs jw hz => ?_)
  have z_1 := hz
  have B36 : ∀ (H : Heap) (locs : List Loc), JW D Y ty ad A s.heap M H locs → ((s_X10_isRegister Y M p1) = 0 ∨ (s_X10_in Y M p3 (0 : Int32) (25 : Int32)) = 0) → W p l e R s m args below meth c H locs 0 0 Q (F0 m 17 ls []) := by
    intro H locs jw hcc
    rw [if_pos hcc] at hE
    refine lv_aload_n hx hb dX10_insert_17 rfl (lv_at hl 0 rfl) ?_
    refine lv_iconst (v := 1) hx hb dX10_insert_18 (by decide) ?_
    obtain ⟨xx5, exx5, hE⟩ := j_lv hE
    try dsimp only at hE
    refine jc_vi [.int (1 : Int32)] [] jc jw hA ho (by decide) rfl (c_X10_fails hY ho (M := M) exx5.symm) sd_X10_130 rfl hl.1 (j_hR hRf hRl rfl rfl) (Nat.le_of_ble_eq_true rfl) dX10_insert_19 (fun H locs jw => ?_)
    exact kr _ _ _ _ _ _ (congrArg Prod.fst (Option.some.inj (j_ret eG0 hE))) (congrArg Prod.snd (Option.some.inj (j_ret eG0 hE))) jw dX10_insert_22
  refine lv_if_eq (tgt := 17) hx hb dX10_insert_4 (by decide) (fun c2 => B36 _ _ jw (Or.inl c2)) (fun c2 => ?_)
  refine lv_iload_n hx hb dX10_insert_7 rfl (lv_at hl 3 rfl) ?_
  refine lv_iconst (v := 0) hx hb dX10_insert_8 (by decide) ?_
  refine lv_bipush (v := 25) hx hb dX10_insert_9 (by decide) ?_
  refine jc_sz [.int p3, .int (0 : Int32), .int (25 : Int32)] [] jc jw hA (c_X10_in hY  (M := M) rfl) sd_X10_119 rfl hl.1 (j_hR hRf hRl rfl rfl) (Nat.le_of_ble_eq_true rfl) dX10_insert_11 (fun H locs jw hz => ?_)
  have z_3 := hz
  refine lv_if_ne (tgt := 23) hx hb dX10_insert_14 (by decide) (fun c4 => ?_) (fun c4 => B36 _ _ jw (Or.inr c4))
  rw [if_neg (fun hq => hq.elim (fun hq => (j_abs c2 hq)) (fun hq => (j_abs c4 hq)))] at hE
  refine lv_aload_n hx hb dX10_insert_23 rfl (lv_at hl 0 rfl) ?_
  refine jg_10_2 jc jw ho wd_6_61 dX10_insert_24 ?_
  have k6 := j_sub hY ho 2 (f := 100) rfl (by decide) (by decide) (by decide)
  refine lv_iload_n hx hb dX10_insert_27 rfl (lv_at hl 1 rfl) ?_
  rcases Classical.em (j_g p1 (j_ln Y (j_rf Y o 2))) with g7 | g7
  case inr => rw [if_neg g7] at hE; exact absurd hE (hG0 _)
  rw [if_pos g7] at hE
  refine jr_iald jc jw k6 (j_g_in g7) dX10_insert_28 ?_
  refine lv_bipush (v := 24) hx hb dX10_insert_29 (by decide) ?_
  refine lv_icmp_ne (tgt := 40) hx hb dX10_insert_31 (by decide) (fun c8 => ?_) (fun c8 => ?_)
  · rw [if_neg c8] at hE
    refine lv_iload_n hx hb dX10_insert_40 rfl (lv_at hl 2 rfl) ?_
    refine lv_iconst (v := 0) hx hb dX10_insert_41 (by decide) ?_
    refine lv_aload_n hx hb dX10_insert_42 rfl (lv_at hl 0 rfl) ?_
    refine jg_10_2 jc jw ho wd_6_61 dX10_insert_43 ?_
    refine lv_iload_n hx hb dX10_insert_46 rfl (lv_at hl 1 rfl) ?_
    rcases Classical.em (j_g p1 (j_ln Y (j_rf Y o 2))) with g10 | g10
    case inr => rw [if_neg g10] at hE; exact absurd hE (hG0 _)
    rw [if_pos g10] at hE
    refine jr_iald jc jw k6 (j_g_in g10) dX10_insert_47 ?_
    refine jc_sz [.int p2, .int (0 : Int32), .int (M (j_rf Y o 2) p1.toNatClampNeg)] [] jc jw hA (c_X10_in hY  (M := M) rfl) sd_X10_119 rfl hl.1 (j_hR hRf hRl rfl rfl) (Nat.le_of_ble_eq_true rfl) dX10_insert_48 (fun H locs jw hz => ?_)
    have z_11 := hz
    refine lv_if_ne (tgt := 60) hx hb dX10_insert_51 (by decide) (fun c12 => ?_) (fun c12 => ?_)
    · rw [if_neg c12] at hE
      refine lv_aload_n hx hb dX10_insert_60 rfl (lv_at hl 0 rfl) ?_
      refine lv_iload_n hx hb dX10_insert_61 rfl (lv_at hl 1 rfl) ?_
      obtain ⟨xx14, exx14, hE⟩ := j_bd hG0 hE
      try dsimp only at hE
      refine jc_vv [.int p1] [] jc jw hA ho (by decide) rfl (c_X10_remembers hY ho (M := M) exx14) sd_X10_134 rfl hl.1 (j_hR hRf hRl rfl rfl) (Nat.le_of_ble_eq_true rfl) dX10_insert_62 (fun H locs jw => ?_)
      refine lv_aload_n hx hb dX10_insert_65 rfl (lv_at hl 0 rfl) ?_
      refine jg_10_2 jc jw ho wd_6_61 dX10_insert_66 ?_
      refine lv_iload_n hx hb dX10_insert_69 rfl (lv_at hl 1 rfl) ?_
      rcases Classical.em (j_g p1 (j_ln Y (j_rf Y o 2))) with g15 | g15
      case inr => rw [if_neg g15] at hE; exact absurd hE (hG0 _)
      rw [if_pos g15] at hE
      refine jr_iald jc jw k6 (j_g_in g15) dX10_insert_70 ?_
      refine lv_topi (fun vv16 evv16 => ?_)
      replace hE := j_lu hE evv16
      try dsimp only at hE
      refine lv_istore (lv' := [(4, .int vv16), (0, .ref (ad o)), (1, .int p1), (2, .int p2), (3, .int p3)]) hx hb dX10_insert_71 hl (by decide) rfl (fun ls hl => ?_)
      obtain ⟨G17, eG17, hG17, hE⟩ := j_ctxB hG0 hE
      have E17_111 : ∀ (mm26 : JM)  (H : Heap) (locs : List Loc) (ls : Array Slot), G17 (some mm26) = some r → JW D Y ty ad A s.heap mm26 H locs → lv_has ls 5 [(0, .ref (ad o)), (1, .int p1), (2, .int p2), (3, .int p3)] → W p l e R s m args below meth c H locs 0 0 Q (F0 m 111 ls []) := by
        intro mm26  H locs ls hE jw hl
        replace hE := j_popB eG17 hE
        try dsimp only at hE
        refine lv_aload_n hx hb dX10_insert_111 rfl (lv_at hl 0 rfl) ?_
        refine jg_10_1 jc jw ho wd_6_60 dX10_insert_112 ?_
        have k27 := j_sub hY ho 1 (f := 100) rfl (by decide) (by decide) (by decide)
        refine lv_bipush (v := 24) hx hb dX10_insert_115 (by decide) ?_
        refine lv_iload_n hx hb dX10_insert_117 rfl (lv_at hl 1 rfl) ?_
        refine lv_imul hx hb dX10_insert_118 ?_
        refine lv_iload_n hx hb dX10_insert_119 rfl (lv_at hl 2 rfl) ?_
        refine lv_iadd hx hb dX10_insert_120 ?_
        refine lv_iload_n hx hb dX10_insert_121 rfl (lv_at hl 3 rfl) ?_
        rcases Classical.em (j_g (((24 : Int32) * p1) + p2) (j_ln Y (j_rf Y o 1))) with g28 | g28
        case inr => rw [if_neg g28] at hE; exact absurd hE (hG0 _)
        rw [if_pos g28] at hE
        refine jr_iast jc jw k27 (j_g_in g28) dX10_insert_122 (fun H locs jw => ?_)
        obtain ⟨mm29, emm29, hE⟩ := j_lv hE
        rw [← emm29] at jw
        try dsimp only at hE
        refine lv_aload_n hx hb dX10_insert_123 rfl (lv_at hl 0 rfl) ?_
        refine jg_10_2 jc jw ho wd_6_61 dX10_insert_124 ?_
        refine lv_iload_n hx hb dX10_insert_127 rfl (lv_at hl 1 rfl) ?_
        refine lv_dup2_11 hx hb dX10_insert_128 rfl rfl ?_
        rcases Classical.em (j_g p1 (j_ln Y (j_rf Y o 2))) with g30 | g30
        case inr => rw [if_neg g30] at hE; exact absurd hE (hG0 _)
        rw [if_pos g30] at hE
        refine jr_iald jc jw k6 (j_g_in g30) dX10_insert_129 ?_
        refine lv_iconst (v := 1) hx hb dX10_insert_130 (by decide) ?_
        refine lv_iadd hx hb dX10_insert_131 ?_
        rcases Classical.em (j_g p1 (j_ln Y (j_rf Y o 2))) with g31 | g31
        case inr => rw [if_neg g31] at hE; exact absurd hE (hG0 _)
        rw [if_pos g31] at hE
        refine jr_iast jc jw k6 (j_g_in g31) dX10_insert_132 (fun H locs jw => ?_)
        obtain ⟨mm32, emm32, hE⟩ := j_lv hE
        rw [← emm32] at jw
        try dsimp only at hE
        refine lv_aload_n hx hb dX10_insert_133 rfl (lv_at hl 0 rfl) ?_
        refine lv_aload_n hx hb dX10_insert_134 rfl (lv_at hl 0 rfl) ?_
        refine jg_10_2 jc jw ho wd_6_61 dX10_insert_135 ?_
        refine lv_iload_n hx hb dX10_insert_138 rfl (lv_at hl 1 rfl) ?_
        rcases Classical.em (j_g p1 (j_ln Y (j_rf Y o 2))) with g33 | g33
        case inr => rw [if_neg g33] at hE; exact absurd hE (hG0 _)
        rw [if_pos g33] at hE
        refine jr_iald jc jw k6 (j_g_in g33) dX10_insert_139 ?_
        obtain ⟨xx34, exx34, hE⟩ := j_lv hE
        try dsimp only at hE
        refine jc_vi [.int (mm32 (j_rf Y o 2) p1.toNatClampNeg)] [] jc jw hA ho (by decide) rfl (c_X10_done hY ho (M := mm32) exx34.symm) sd_X10_138 rfl hl.1 (j_hR hRf hRl rfl rfl) (Nat.le_of_ble_eq_true rfl) dX10_insert_140 (fun H locs jw => ?_)
        exact kr _ _ _ _ _ _ (congrArg Prod.fst (Option.some.inj (j_ret eG0 hE))) (congrArg Prod.snd (Option.some.inj (j_ret eG0 hE))) jw dX10_insert_143
      have LP17 : ∀ (n : Nat) (vv18 : Int32) (mm19 : JM) (H : Heap) (locs : List Loc) (ls : Array Slot), G17 (lp_X10_insert_1 Y p2 p1 o n vv18 mm19) = some r → JW D Y ty ad A s.heap mm19 H locs → lv_has ls 5 [(4, .int vv18), (0, .ref (ad o)), (1, .int p1), (2, .int p2), (3, .int p3)] → W p l e R s m args below meth c H locs 0 0 Q (F0 m 73 ls []) := by
        intro n
        induction n with
        | zero => intro vv18 mm19 H locs ls hE jw hl; exact absurd hE (hG17 _)
        | succ n ih =>
          intro vv18 mm19 H locs ls hE jw hl
          rw [lp_X10_insert_1] at hE
          refine lv_iload hx hb dX10_insert_73 (lv_at hl 0 rfl) ?_
          refine lv_iload_n hx hb dX10_insert_75 rfl (lv_at hl 3 rfl) ?_
          refine lv_icmp_le (tgt := 111) hx hb dX10_insert_76 (by decide) (fun c20 => ?_) (fun c20 => ?_)
          · rw [if_pos c20] at hE
            exact E17_111 mm19  H locs ls hE jw (lv_sub hl [1, 2, 3, 4] rfl)
          · rw [if_neg c20] at hE
            refine lv_aload_n hx hb dX10_insert_79 rfl (lv_at hl 1 rfl) ?_
            refine jg_10_1 jc jw ho wd_6_60 dX10_insert_80 ?_
            have k21 := j_sub hY ho 1 (f := 100) rfl (by decide) (by decide) (by decide)
            refine lv_bipush (v := 24) hx hb dX10_insert_83 (by decide) ?_
            refine lv_iload_n hx hb dX10_insert_85 rfl (lv_at hl 2 rfl) ?_
            refine lv_imul hx hb dX10_insert_86 ?_
            refine lv_iload hx hb dX10_insert_87 (lv_at hl 0 rfl) ?_
            refine lv_iadd hx hb dX10_insert_89 ?_
            refine lv_aload_n hx hb dX10_insert_90 rfl (lv_at hl 1 rfl) ?_
            refine jg_10_1 jc jw ho wd_6_60 dX10_insert_91 ?_
            refine lv_bipush (v := 24) hx hb dX10_insert_94 (by decide) ?_
            refine lv_iload_n hx hb dX10_insert_96 rfl (lv_at hl 2 rfl) ?_
            refine lv_imul hx hb dX10_insert_97 ?_
            refine lv_iload hx hb dX10_insert_98 (lv_at hl 0 rfl) ?_
            refine lv_iadd hx hb dX10_insert_100 ?_
            refine lv_iconst (v := 1) hx hb dX10_insert_101 (by decide) ?_
            refine lv_isub hx hb dX10_insert_102 ?_
            rcases Classical.em (j_g ((((24 : Int32) * p1) + vv18) - (1 : Int32)) (j_ln Y (j_rf Y o 1))) with g22 | g22
            case inr => rw [if_neg g22] at hE; exact absurd hE (hG17 _)
            rw [if_pos g22] at hE
            refine jr_iald jc jw k21 (j_g_in g22) dX10_insert_103 ?_
            rcases Classical.em (j_g (((24 : Int32) * p1) + vv18) (j_ln Y (j_rf Y o 1))) with g23 | g23
            case inr => rw [if_neg g23] at hE; exact absurd hE (hG17 _)
            rw [if_pos g23] at hE
            refine jr_iast jc jw k21 (j_g_in g23) dX10_insert_104 (fun H locs jw => ?_)
            obtain ⟨mm24, emm24, hE⟩ := j_lv hE
            rw [← emm24] at jw
            try dsimp only at hE
            obtain ⟨vv25, evv25, hE⟩ := j_lv hE
            try dsimp only at hE
            refine lv_iinc (v := vv25) (lv' := [(4, .int vv25), (0, .ref (ad o)), (1, .int p1), (2, .int p2), (3, .int p3)]) hx hb dX10_insert_105 hl (k := 0) rfl (by rw [evv25]; rfl) (by decide) rfl (fun ls hl => ?_)
            refine lv_goto (tgt := 73) hx hb dX10_insert_108 (by decide) ?_
            exact ih vv25 mm24 H locs ls hE jw (lv_sub hl [0, 1, 2, 3, 4] rfl)
      exact LP17 j_fuel vv16 xx14 H locs ls hE jw (lv_sub hl [0, 1, 2, 3, 4] rfl)
    · rw [if_pos c12] at hE
      refine lv_aload_n hx hb dX10_insert_54 rfl (lv_at hl 0 rfl) ?_
      refine lv_iconst (v := 3) hx hb dX10_insert_55 (by decide) ?_
      obtain ⟨xx13, exx13, hE⟩ := j_lv hE
      try dsimp only at hE
      refine jc_vi [.int (3 : Int32)] [] jc jw hA ho (by decide) rfl (c_X10_fails hY ho (M := M) exx13.symm) sd_X10_130 rfl hl.1 (j_hR hRf hRl rfl rfl) (Nat.le_of_ble_eq_true rfl) dX10_insert_56 (fun H locs jw => ?_)
      exact kr _ _ _ _ _ _ (congrArg Prod.fst (Option.some.inj (j_ret eG0 hE))) (congrArg Prod.snd (Option.some.inj (j_ret eG0 hE))) jw dX10_insert_59
  · rw [if_pos c8] at hE
    refine lv_aload_n hx hb dX10_insert_34 rfl (lv_at hl 0 rfl) ?_
    refine lv_iconst (v := 2) hx hb dX10_insert_35 (by decide) ?_
    obtain ⟨xx9, exx9, hE⟩ := j_lv hE
    try dsimp only at hE
    refine jc_vi [.int (2 : Int32)] [] jc jw hA ho (by decide) rfl (c_X10_fails hY ho (M := M) exx9.symm) sd_X10_130 rfl hl.1 (j_hR hRf hRl rfl rfl) (Nat.le_of_ble_eq_true rfl) dX10_insert_36 (fun H locs jw => ?_)
    exact kr _ _ _ _ _ _ (congrArg Prod.fst (Option.some.inj (j_ret eG0 hE))) (congrArg Prod.snd (Option.some.inj (j_ret eG0 hE))) jw dX10_insert_39
def lp_X10_delete_1 (Y : JY) (p1 : Int32) (o : Nat) (n : Nat) (vv17 : Int32) (mm18 : JM) : Option (JM) := match n with
  | 0 => none
  | n + 1 => if j_g p1 (j_ln Y (j_rf Y o 2)) then (if (mm18 (j_rf Y o 2) p1.toNatClampNeg) ≤ vv17 then (some mm18) else (if j_g ((((24 : Int32) * p1) + vv17) + (1 : Int32)) (j_ln Y (j_rf Y o 1)) then (if j_g (((24 : Int32) * p1) + vv17) (j_ln Y (j_rf Y o 1)) then (lt_ (j_up mm18 (j_rf Y o 1) (((24 : Int32) * p1) + vv17).toNatClampNeg (mm18 (j_rf Y o 1) ((((24 : Int32) * p1) + vv17) + (1 : Int32)).toNatClampNeg)) fun mm23 => lt_ (vv17 + (1 : Int32)) fun vv24 => lp_X10_delete_1 Y p1 o n vv24 mm23) else none) else none)) else none
def s_X10_delete (Y : JY) (M : JM) (o : Nat) (p1 : Int32) (p2 : Int32) : Option (Int32 × JM) := if (s_X10_isRegister Y M p1) = 0 then (lt_ (s_X10_fails Y M o (1 : Int32)) fun xx3 => some (xx3.1, xx3.2)) else (if j_g p1 (j_ln Y (j_rf Y o 2)) then (if (s_X10_in Y M p2 (0 : Int32) ((M (j_rf Y o 2) p1.toNatClampNeg) - (1 : Int32))) = 0 then (lt_ (s_X10_fails Y M o (2 : Int32)) fun xx8 => some (xx8.1, xx8.2)) else ((s_X10_remembers Y M o p1).bind fun xx9 => if j_g (((24 : Int32) * p1) + p2) (j_ln Y (j_rf Y o 1)) then (lt_ (xx9 (j_rf Y o 1) (((24 : Int32) * p1) + p2).toNatClampNeg) fun vv12 => if j_g p1 (j_ln Y (j_rf Y o 2)) then (if j_g p1 (j_ln Y (j_rf Y o 2)) then (lt_ (j_up xx9 (j_rf Y o 2) p1.toNatClampNeg ((xx9 (j_rf Y o 2) p1.toNatClampNeg) - (1 : Int32))) fun mm15 => (lp_X10_delete_1 Y p1 o j_fuel p2 mm15).bind fun xx27 => lt_ (s_X10_done Y xx27 o vv12) fun xx26 => some (xx26.1, xx26.2)) else none) else none) else none)) else none)
set_option maxRecDepth 100000 in
set_option maxHeartbeats 4000000 in
theorem c_X10_delete {D : va_G} {Y : JY} {ty : Nat → ClassId} {ad : Nat → Nat} {sz : Nat} {l : Launch} {M : JM} (hY : j_ok Y) {o : Nat} {p1 : Int32} {p2 : Int32} (ho : j_kd Y o = 10) {r : Int32 × JM} (hE : s_X10_delete Y M o p1 p2 = some r) : JMi D Y ty ad sz l yX10_delete cX10_delete 5 (some .int) 2 42 [.ref (ad o), .int p1, .int p2] M r.1 r.2 := by
  refine j_ofI hY (by decide +kernel) (Nat.le_of_ble_eq_true rfl) (fun p e s m below meth c args R Q A hRf hRl hA jc jw kr ls hl => ?_)
  have hx := jc.1
  have hb := jc.2.1
  have hl : lv_has ls 5 [(0, .ref (ad o)), (1, .int p1), (2, .int p2)] := hl
  unfold s_X10_delete at hE
  obtain ⟨G0, eG0, hG0, hE⟩ := j_F0o hE
  refine lv_iload_n hx hb dX10_delete_0 rfl (lv_at hl 1 rfl) ?_
  refine jc_sz [.int p1] [] jc jw hA (c_X10_isRegister hY  (M := M) rfl) sd_X10_126 rfl hl.1 (j_hR hRf hRl rfl rfl) (Nat.le_of_ble_eq_true rfl) dX10_delete_1 (fun H locs jw hz => ?_)
  have z_1 := hz
  refine lv_if_ne (tgt := 13) hx hb dX10_delete_4 (by decide) (fun c2 => ?_) (fun c2 => ?_)
  · rw [if_neg c2] at hE
    refine lv_iload_n hx hb dX10_delete_13 rfl (lv_at hl 2 rfl) ?_
    refine lv_iconst (v := 0) hx hb dX10_delete_14 (by decide) ?_
    refine lv_aload_n hx hb dX10_delete_15 rfl (lv_at hl 0 rfl) ?_
    refine jg_10_2 jc jw ho wd_6_61 dX10_delete_16 ?_
    have k4 := j_sub hY ho 2 (f := 100) rfl (by decide) (by decide) (by decide)
    refine lv_iload_n hx hb dX10_delete_19 rfl (lv_at hl 1 rfl) ?_
    rcases Classical.em (j_g p1 (j_ln Y (j_rf Y o 2))) with g5 | g5
    case inr => rw [if_neg g5] at hE; exact absurd hE (hG0 _)
    rw [if_pos g5] at hE
    refine jr_iald jc jw k4 (j_g_in g5) dX10_delete_20 ?_
    refine lv_iconst (v := 1) hx hb dX10_delete_21 (by decide) ?_
    refine lv_isub hx hb dX10_delete_22 ?_
    refine jc_sz [.int p2, .int (0 : Int32), .int ((M (j_rf Y o 2) p1.toNatClampNeg) - (1 : Int32))] [] jc jw hA (c_X10_in hY  (M := M) rfl) sd_X10_119 rfl hl.1 (j_hR hRf hRl rfl rfl) (Nat.le_of_ble_eq_true rfl) dX10_delete_23 (fun H locs jw hz => ?_)
    have z_6 := hz
    refine lv_if_ne (tgt := 35) hx hb dX10_delete_26 (by decide) (fun c7 => ?_) (fun c7 => ?_)
    · rw [if_neg c7] at hE
      refine lv_aload_n hx hb dX10_delete_35 rfl (lv_at hl 0 rfl) ?_
      refine lv_iload_n hx hb dX10_delete_36 rfl (lv_at hl 1 rfl) ?_
      obtain ⟨xx9, exx9, hE⟩ := j_bd hG0 hE
      try dsimp only at hE
      refine jc_vv [.int p1] [] jc jw hA ho (by decide) rfl (c_X10_remembers hY ho (M := M) exx9) sd_X10_134 rfl hl.1 (j_hR hRf hRl rfl rfl) (Nat.le_of_ble_eq_true rfl) dX10_delete_37 (fun H locs jw => ?_)
      refine lv_aload_n hx hb dX10_delete_40 rfl (lv_at hl 0 rfl) ?_
      refine jg_10_1 jc jw ho wd_6_60 dX10_delete_41 ?_
      have k10 := j_sub hY ho 1 (f := 100) rfl (by decide) (by decide) (by decide)
      refine lv_bipush (v := 24) hx hb dX10_delete_44 (by decide) ?_
      refine lv_iload_n hx hb dX10_delete_46 rfl (lv_at hl 1 rfl) ?_
      refine lv_imul hx hb dX10_delete_47 ?_
      refine lv_iload_n hx hb dX10_delete_48 rfl (lv_at hl 2 rfl) ?_
      refine lv_iadd hx hb dX10_delete_49 ?_
      rcases Classical.em (j_g (((24 : Int32) * p1) + p2) (j_ln Y (j_rf Y o 1))) with g11 | g11
      case inr => rw [if_neg g11] at hE; exact absurd hE (hG0 _)
      rw [if_pos g11] at hE
      refine jr_iald jc jw k10 (j_g_in g11) dX10_delete_50 ?_
      refine lv_topi (fun vv12 evv12 => ?_)
      replace hE := j_lu hE evv12
      try dsimp only at hE
      refine lv_istore_n (lv' := [(3, .int vv12), (0, .ref (ad o)), (1, .int p1), (2, .int p2)]) hx hb dX10_delete_51 rfl hl (by decide) rfl (fun ls hl => ?_)
      refine lv_aload_n hx hb dX10_delete_52 rfl (lv_at hl 1 rfl) ?_
      refine jg_10_2 jc jw ho wd_6_61 dX10_delete_53 ?_
      refine lv_iload_n hx hb dX10_delete_56 rfl (lv_at hl 2 rfl) ?_
      refine lv_dup2_11 hx hb dX10_delete_57 rfl rfl ?_
      rcases Classical.em (j_g p1 (j_ln Y (j_rf Y o 2))) with g13 | g13
      case inr => rw [if_neg g13] at hE; exact absurd hE (hG0 _)
      rw [if_pos g13] at hE
      refine jr_iald jc jw k4 (j_g_in g13) dX10_delete_58 ?_
      refine lv_iconst (v := 1) hx hb dX10_delete_59 (by decide) ?_
      refine lv_isub hx hb dX10_delete_60 ?_
      rcases Classical.em (j_g p1 (j_ln Y (j_rf Y o 2))) with g14 | g14
      case inr => rw [if_neg g14] at hE; exact absurd hE (hG0 _)
      rw [if_pos g14] at hE
      refine jr_iast jc jw k4 (j_g_in g14) dX10_delete_61 (fun H locs jw => ?_)
      obtain ⟨mm15, emm15, hE⟩ := j_lv hE
      rw [← emm15] at jw
      try dsimp only at hE
      refine lv_iload_n hx hb dX10_delete_62 rfl (lv_at hl 3 rfl) ?_
      refine lv_istore (lv' := [(4, .int p2), (3, .int vv12), (0, .ref (ad o)), (1, .int p1), (2, .int p2)]) hx hb dX10_delete_63 hl (by decide) rfl (fun ls hl => ?_)
      obtain ⟨G16, eG16, hG16, hE⟩ := j_ctxB hG0 hE
      have E16_108 : ∀ (mm25 : JM)  (H : Heap) (locs : List Loc) (ls : Array Slot), G16 (some mm25) = some r → JW D Y ty ad A s.heap mm25 H locs → lv_has ls 5 [(3, .int vv12), (0, .ref (ad o))] → W p l e R s m args below meth c H locs 0 0 Q (F0 m 108 ls []) := by
        intro mm25  H locs ls hE jw hl
        replace hE := j_popB eG16 hE
        try dsimp only at hE
        refine lv_aload_n hx hb dX10_delete_108 rfl (lv_at hl 1 rfl) ?_
        refine lv_iload_n hx hb dX10_delete_109 rfl (lv_at hl 0 rfl) ?_
        obtain ⟨xx26, exx26, hE⟩ := j_lv hE
        try dsimp only at hE
        refine jc_vi [.int vv12] [] jc jw hA ho (by decide) rfl (c_X10_done hY ho (M := mm25) exx26.symm) sd_X10_138 rfl hl.1 (j_hR hRf hRl rfl rfl) (Nat.le_of_ble_eq_true rfl) dX10_delete_110 (fun H locs jw => ?_)
        exact kr _ _ _ _ _ _ (congrArg Prod.fst (Option.some.inj (j_ret eG0 hE))) (congrArg Prod.snd (Option.some.inj (j_ret eG0 hE))) jw dX10_delete_113
      have LP16 : ∀ (n : Nat) (vv17 : Int32) (mm18 : JM) (H : Heap) (locs : List Loc) (ls : Array Slot), G16 (lp_X10_delete_1 Y p1 o n vv17 mm18) = some r → JW D Y ty ad A s.heap mm18 H locs → lv_has ls 5 [(4, .int vv17), (3, .int vv12), (0, .ref (ad o)), (1, .int p1)] → W p l e R s m args below meth c H locs 0 0 Q (F0 m 65 ls []) := by
        intro n
        induction n with
        | zero => intro vv17 mm18 H locs ls hE jw hl; exact absurd hE (hG16 _)
        | succ n ih =>
          intro vv17 mm18 H locs ls hE jw hl
          rw [lp_X10_delete_1] at hE
          refine lv_iload hx hb dX10_delete_65 (lv_at hl 0 rfl) ?_
          refine lv_aload_n hx hb dX10_delete_67 rfl (lv_at hl 2 rfl) ?_
          refine jg_10_2 jc jw ho wd_6_61 dX10_delete_68 ?_
          refine lv_iload_n hx hb dX10_delete_71 rfl (lv_at hl 3 rfl) ?_
          rcases Classical.em (j_g p1 (j_ln Y (j_rf Y o 2))) with g19 | g19
          case inr => rw [if_neg g19] at hE; exact absurd hE (hG16 _)
          rw [if_pos g19] at hE
          refine jr_iald jc jw k4 (j_g_in g19) dX10_delete_72 ?_
          refine lv_icmp_ge (tgt := 108) hx hb dX10_delete_73 (by decide) (fun c20 => ?_) (fun c20 => ?_)
          · rw [if_pos c20] at hE
            exact E16_108 mm18  H locs ls hE jw (lv_sub hl [1, 2] rfl)
          · rw [if_neg c20] at hE
            refine lv_aload_n hx hb dX10_delete_76 rfl (lv_at hl 2 rfl) ?_
            refine jg_10_1 jc jw ho wd_6_60 dX10_delete_77 ?_
            refine lv_bipush (v := 24) hx hb dX10_delete_80 (by decide) ?_
            refine lv_iload_n hx hb dX10_delete_82 rfl (lv_at hl 3 rfl) ?_
            refine lv_imul hx hb dX10_delete_83 ?_
            refine lv_iload hx hb dX10_delete_84 (lv_at hl 0 rfl) ?_
            refine lv_iadd hx hb dX10_delete_86 ?_
            refine lv_aload_n hx hb dX10_delete_87 rfl (lv_at hl 2 rfl) ?_
            refine jg_10_1 jc jw ho wd_6_60 dX10_delete_88 ?_
            refine lv_bipush (v := 24) hx hb dX10_delete_91 (by decide) ?_
            refine lv_iload_n hx hb dX10_delete_93 rfl (lv_at hl 3 rfl) ?_
            refine lv_imul hx hb dX10_delete_94 ?_
            refine lv_iload hx hb dX10_delete_95 (lv_at hl 0 rfl) ?_
            refine lv_iadd hx hb dX10_delete_97 ?_
            refine lv_iconst (v := 1) hx hb dX10_delete_98 (by decide) ?_
            refine lv_iadd hx hb dX10_delete_99 ?_
            rcases Classical.em (j_g ((((24 : Int32) * p1) + vv17) + (1 : Int32)) (j_ln Y (j_rf Y o 1))) with g21 | g21
            case inr => rw [if_neg g21] at hE; exact absurd hE (hG16 _)
            rw [if_pos g21] at hE
            refine jr_iald jc jw k10 (j_g_in g21) dX10_delete_100 ?_
            rcases Classical.em (j_g (((24 : Int32) * p1) + vv17) (j_ln Y (j_rf Y o 1))) with g22 | g22
            case inr => rw [if_neg g22] at hE; exact absurd hE (hG16 _)
            rw [if_pos g22] at hE
            refine jr_iast jc jw k10 (j_g_in g22) dX10_delete_101 (fun H locs jw => ?_)
            obtain ⟨mm23, emm23, hE⟩ := j_lv hE
            rw [← emm23] at jw
            try dsimp only at hE
            obtain ⟨vv24, evv24, hE⟩ := j_lv hE
            try dsimp only at hE
            refine lv_iinc (v := vv24) (lv' := [(4, .int vv24), (3, .int vv12), (0, .ref (ad o)), (1, .int p1)]) hx hb dX10_delete_102 hl (k := 0) rfl (by rw [evv24]; rfl) (by decide) rfl (fun ls hl => ?_)
            refine lv_goto (tgt := 65) hx hb dX10_delete_105 (by decide) ?_
            exact ih vv24 mm23 H locs ls hE jw (lv_sub hl [0, 1, 2, 3] rfl)
      exact LP16 j_fuel p2 mm15 H locs ls hE jw (lv_sub hl [0, 1, 2, 3] rfl)
    · rw [if_pos c7] at hE
      refine lv_aload_n hx hb dX10_delete_29 rfl (lv_at hl 0 rfl) ?_
      refine lv_iconst (v := 2) hx hb dX10_delete_30 (by decide) ?_
      obtain ⟨xx8, exx8, hE⟩ := j_lv hE
      try dsimp only at hE
      refine jc_vi [.int (2 : Int32)] [] jc jw hA ho (by decide) rfl (c_X10_fails hY ho (M := M) exx8.symm) sd_X10_130 rfl hl.1 (j_hR hRf hRl rfl rfl) (Nat.le_of_ble_eq_true rfl) dX10_delete_31 (fun H locs jw => ?_)
      exact kr _ _ _ _ _ _ (congrArg Prod.fst (Option.some.inj (j_ret eG0 hE))) (congrArg Prod.snd (Option.some.inj (j_ret eG0 hE))) jw dX10_delete_34
  · rw [if_pos c2] at hE
    refine lv_aload_n hx hb dX10_delete_7 rfl (lv_at hl 0 rfl) ?_
    refine lv_iconst (v := 1) hx hb dX10_delete_8 (by decide) ?_
    obtain ⟨xx3, exx3, hE⟩ := j_lv hE
    try dsimp only at hE
    refine jc_vi [.int (1 : Int32)] [] jc jw hA ho (by decide) rfl (c_X10_fails hY ho (M := M) exx3.symm) sd_X10_130 rfl hl.1 (j_hR hRf hRl rfl rfl) (Nat.le_of_ble_eq_true rfl) dX10_delete_9 (fun H locs jw => ?_)
    exact kr _ _ _ _ _ _ (congrArg Prod.fst (Option.some.inj (j_ret eG0 hE))) (congrArg Prod.snd (Option.some.inj (j_ret eG0 hE))) jw dX10_delete_12
def s_X10_length (Y : JY) (M : JM) (o : Nat) (p1 : Int32) : Option (Int32 × JM) := if (s_X10_isRegister Y M p1) = 0 then (lt_ (s_X10_fails Y M o (1 : Int32)) fun xx3 => some (xx3.1, xx3.2)) else (if j_g p1 (j_ln Y (j_rf Y o 2)) then (lt_ (s_X10_done Y M o (M (j_rf Y o 2) p1.toNatClampNeg)) fun xx6 => some (xx6.1, xx6.2)) else none)
set_option maxRecDepth 100000 in
set_option maxHeartbeats 4000000 in
theorem c_X10_length {D : va_G} {Y : JY} {ty : Nat → ClassId} {ad : Nat → Nat} {sz : Nat} {l : Launch} {M : JM} (hY : j_ok Y) {o : Nat} {p1 : Int32} (ho : j_kd Y o = 10) {r : Int32 × JM} (hE : s_X10_length Y M o p1 = some r) : JMi D Y ty ad sz l yX10_length cX10_length 2 (some .int) 2 42 [.ref (ad o), .int p1] M r.1 r.2 := by
  refine j_ofI hY (by decide +kernel) (Nat.le_of_ble_eq_true rfl) (fun p e s m below meth c args R Q A hRf hRl hA jc jw kr ls hl => ?_)
  have hx := jc.1
  have hb := jc.2.1
  have hl : lv_has ls 2 [(0, .ref (ad o)), (1, .int p1)] := hl
  unfold s_X10_length at hE
  obtain ⟨G0, eG0, hG0, hE⟩ := j_F0o hE
  refine lv_iload_n hx hb dX10_length_0 rfl (lv_at hl 1 rfl) ?_
  refine jc_sz [.int p1] [] jc jw hA (c_X10_isRegister hY  (M := M) rfl) sd_X10_126 rfl hl.1 (j_hR hRf hRl rfl rfl) (Nat.le_of_ble_eq_true rfl) dX10_length_1 (fun H locs jw hz => ?_)
  have z_1 := hz
  refine lv_if_eq (tgt := 20) hx hb dX10_length_4 (by decide) (fun c2 => ?_) (fun c2 => ?_)
  · rw [if_pos c2] at hE
    refine lv_aload_n hx hb dX10_length_20 rfl (lv_at hl 0 rfl) ?_
    refine lv_iconst (v := 1) hx hb dX10_length_21 (by decide) ?_
    obtain ⟨xx3, exx3, hE⟩ := j_lv hE
    try dsimp only at hE
    refine jc_vi [.int (1 : Int32)] [] jc jw hA ho (by decide) rfl (c_X10_fails hY ho (M := M) exx3.symm) sd_X10_130 rfl hl.1 (j_hR hRf hRl rfl rfl) (Nat.le_of_ble_eq_true rfl) dX10_length_22 (fun H locs jw => ?_)
    exact kr _ _ _ _ _ _ (congrArg Prod.fst (Option.some.inj (j_ret eG0 hE))) (congrArg Prod.snd (Option.some.inj (j_ret eG0 hE))) jw dX10_length_25
  · rw [if_neg c2] at hE
    refine lv_aload_n hx hb dX10_length_7 rfl (lv_at hl 0 rfl) ?_
    refine lv_aload_n hx hb dX10_length_8 rfl (lv_at hl 0 rfl) ?_
    refine jg_10_2 jc jw ho wd_6_61 dX10_length_9 ?_
    have k4 := j_sub hY ho 2 (f := 100) rfl (by decide) (by decide) (by decide)
    refine lv_iload_n hx hb dX10_length_12 rfl (lv_at hl 1 rfl) ?_
    rcases Classical.em (j_g p1 (j_ln Y (j_rf Y o 2))) with g5 | g5
    case inr => rw [if_neg g5] at hE; exact absurd hE (hG0 _)
    rw [if_pos g5] at hE
    refine jr_iald jc jw k4 (j_g_in g5) dX10_length_13 ?_
    obtain ⟨xx6, exx6, hE⟩ := j_lv hE
    try dsimp only at hE
    refine jc_vi [.int (M (j_rf Y o 2) p1.toNatClampNeg)] [] jc jw hA ho (by decide) rfl (c_X10_done hY ho (M := M) exx6.symm) sd_X10_138 rfl hl.1 (j_hR hRf hRl rfl rfl) (Nat.le_of_ble_eq_true rfl) dX10_length_14 (fun H locs jw => ?_)
    refine lv_goto (tgt := 25) hx hb dX10_length_17 (by decide) ?_
    exact kr _ _ _ _ _ _ (congrArg Prod.fst (Option.some.inj (j_ret eG0 hE))) (congrArg Prod.snd (Option.some.inj (j_ret eG0 hE))) jw dX10_length_25
def s_X10_line (Y : JY) (M : JM) (o : Nat) (p1 : Int32) (p2 : Int32) : Option (Int32 × JM) := if (s_X10_isRegister Y M p1) = 0 then (lt_ (s_X10_fails Y M o (1 : Int32)) fun xx3 => some (xx3.1, xx3.2)) else (if j_g p1 (j_ln Y (j_rf Y o 2)) then (if (s_X10_in Y M p2 (0 : Int32) ((M (j_rf Y o 2) p1.toNatClampNeg) - (1 : Int32))) = 0 then (lt_ (s_X10_fails Y M o (2 : Int32)) fun xx8 => some (xx8.1, xx8.2)) else (if j_g (((24 : Int32) * p1) + p2) (j_ln Y (j_rf Y o 1)) then (lt_ (s_X10_done Y M o (M (j_rf Y o 1) (((24 : Int32) * p1) + p2).toNatClampNeg)) fun xx11 => some (xx11.1, xx11.2)) else none)) else none)
set_option maxRecDepth 100000 in
set_option maxHeartbeats 4000000 in
theorem c_X10_line {D : va_G} {Y : JY} {ty : Nat → ClassId} {ad : Nat → Nat} {sz : Nat} {l : Launch} {M : JM} (hY : j_ok Y) {o : Nat} {p1 : Int32} {p2 : Int32} (ho : j_kd Y o = 10) {r : Int32 × JM} (hE : s_X10_line Y M o p1 p2 = some r) : JMi D Y ty ad sz l yX10_line cX10_line 3 (some .int) 2 42 [.ref (ad o), .int p1, .int p2] M r.1 r.2 := by
  refine j_ofI hY (by decide +kernel) (Nat.le_of_ble_eq_true rfl) (fun p e s m below meth c args R Q A hRf hRl hA jc jw kr ls hl => ?_)
  have hx := jc.1
  have hb := jc.2.1
  have hl : lv_has ls 3 [(0, .ref (ad o)), (1, .int p1), (2, .int p2)] := hl
  unfold s_X10_line at hE
  obtain ⟨G0, eG0, hG0, hE⟩ := j_F0o hE
  refine lv_iload_n hx hb dX10_line_0 rfl (lv_at hl 1 rfl) ?_
  refine jc_sz [.int p1] [] jc jw hA (c_X10_isRegister hY  (M := M) rfl) sd_X10_126 rfl hl.1 (j_hR hRf hRl rfl rfl) (Nat.le_of_ble_eq_true rfl) dX10_line_1 (fun H locs jw hz => ?_)
  have z_1 := hz
  refine lv_if_ne (tgt := 13) hx hb dX10_line_4 (by decide) (fun c2 => ?_) (fun c2 => ?_)
  · rw [if_neg c2] at hE
    refine lv_iload_n hx hb dX10_line_13 rfl (lv_at hl 2 rfl) ?_
    refine lv_iconst (v := 0) hx hb dX10_line_14 (by decide) ?_
    refine lv_aload_n hx hb dX10_line_15 rfl (lv_at hl 0 rfl) ?_
    refine jg_10_2 jc jw ho wd_6_61 dX10_line_16 ?_
    have k4 := j_sub hY ho 2 (f := 100) rfl (by decide) (by decide) (by decide)
    refine lv_iload_n hx hb dX10_line_19 rfl (lv_at hl 1 rfl) ?_
    rcases Classical.em (j_g p1 (j_ln Y (j_rf Y o 2))) with g5 | g5
    case inr => rw [if_neg g5] at hE; exact absurd hE (hG0 _)
    rw [if_pos g5] at hE
    refine jr_iald jc jw k4 (j_g_in g5) dX10_line_20 ?_
    refine lv_iconst (v := 1) hx hb dX10_line_21 (by decide) ?_
    refine lv_isub hx hb dX10_line_22 ?_
    refine jc_sz [.int p2, .int (0 : Int32), .int ((M (j_rf Y o 2) p1.toNatClampNeg) - (1 : Int32))] [] jc jw hA (c_X10_in hY  (M := M) rfl) sd_X10_119 rfl hl.1 (j_hR hRf hRl rfl rfl) (Nat.le_of_ble_eq_true rfl) dX10_line_23 (fun H locs jw hz => ?_)
    have z_6 := hz
    refine lv_if_eq (tgt := 47) hx hb dX10_line_26 (by decide) (fun c7 => ?_) (fun c7 => ?_)
    · rw [if_pos c7] at hE
      refine lv_aload_n hx hb dX10_line_47 rfl (lv_at hl 0 rfl) ?_
      refine lv_iconst (v := 2) hx hb dX10_line_48 (by decide) ?_
      obtain ⟨xx8, exx8, hE⟩ := j_lv hE
      try dsimp only at hE
      refine jc_vi [.int (2 : Int32)] [] jc jw hA ho (by decide) rfl (c_X10_fails hY ho (M := M) exx8.symm) sd_X10_130 rfl hl.1 (j_hR hRf hRl rfl rfl) (Nat.le_of_ble_eq_true rfl) dX10_line_49 (fun H locs jw => ?_)
      exact kr _ _ _ _ _ _ (congrArg Prod.fst (Option.some.inj (j_ret eG0 hE))) (congrArg Prod.snd (Option.some.inj (j_ret eG0 hE))) jw dX10_line_52
    · rw [if_neg c7] at hE
      refine lv_aload_n hx hb dX10_line_29 rfl (lv_at hl 0 rfl) ?_
      refine lv_aload_n hx hb dX10_line_30 rfl (lv_at hl 0 rfl) ?_
      refine jg_10_1 jc jw ho wd_6_60 dX10_line_31 ?_
      have k9 := j_sub hY ho 1 (f := 100) rfl (by decide) (by decide) (by decide)
      refine lv_bipush (v := 24) hx hb dX10_line_34 (by decide) ?_
      refine lv_iload_n hx hb dX10_line_36 rfl (lv_at hl 1 rfl) ?_
      refine lv_imul hx hb dX10_line_37 ?_
      refine lv_iload_n hx hb dX10_line_38 rfl (lv_at hl 2 rfl) ?_
      refine lv_iadd hx hb dX10_line_39 ?_
      rcases Classical.em (j_g (((24 : Int32) * p1) + p2) (j_ln Y (j_rf Y o 1))) with g10 | g10
      case inr => rw [if_neg g10] at hE; exact absurd hE (hG0 _)
      rw [if_pos g10] at hE
      refine jr_iald jc jw k9 (j_g_in g10) dX10_line_40 ?_
      obtain ⟨xx11, exx11, hE⟩ := j_lv hE
      try dsimp only at hE
      refine jc_vi [.int (M (j_rf Y o 1) (((24 : Int32) * p1) + p2).toNatClampNeg)] [] jc jw hA ho (by decide) rfl (c_X10_done hY ho (M := M) exx11.symm) sd_X10_138 rfl hl.1 (j_hR hRf hRl rfl rfl) (Nat.le_of_ble_eq_true rfl) dX10_line_41 (fun H locs jw => ?_)
      refine lv_goto (tgt := 52) hx hb dX10_line_44 (by decide) ?_
      exact kr _ _ _ _ _ _ (congrArg Prod.fst (Option.some.inj (j_ret eG0 hE))) (congrArg Prod.snd (Option.some.inj (j_ret eG0 hE))) jw dX10_line_52
  · rw [if_pos c2] at hE
    refine lv_aload_n hx hb dX10_line_7 rfl (lv_at hl 0 rfl) ?_
    refine lv_iconst (v := 1) hx hb dX10_line_8 (by decide) ?_
    obtain ⟨xx3, exx3, hE⟩ := j_lv hE
    try dsimp only at hE
    refine jc_vi [.int (1 : Int32)] [] jc jw hA ho (by decide) rfl (c_X10_fails hY ho (M := M) exx3.symm) sd_X10_130 rfl hl.1 (j_hR hRf hRl rfl rfl) (Nat.le_of_ble_eq_true rfl) dX10_line_9 (fun H locs jw => ?_)
    exact kr _ _ _ _ _ _ (congrArg Prod.fst (Option.some.inj (j_ret eG0 hE))) (congrArg Prod.snd (Option.some.inj (j_ret eG0 hE))) jw dX10_line_12
